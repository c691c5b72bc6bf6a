/-! ===== the law: its loop, its start ===== -/
theorem wl_k8 : Cond.classLink RL 8 RX3 ∈ wsL_law9 := by decide +kernel
theorem wl_n3 : Cond.instantiable RX3 9 ∈ wsL_law9 := by decide +kernel
theorem wl_i3 : Cond.initialized RX3 ∈ wsL_law9 := by decide +kernel
theorem wl_k86 : Cond.classLink RL 86 RX4 ∈ wsL_law9 := by decide +kernel
theorem wl_n4 : Cond.instantiable RX4 23 ∈ wsL_law9 := by decide +kernel
theorem wl_i4 : Cond.initialized RX4 ∈ wsL_law9 := by decide +kernel
theorem wl_aj : Cond.arrayClass .long ∈ wsL_law9 := by decide +kernel
theorem wl_m3 : Cond.methodLink RL 85 yX3_init ∈ wsL_law9 := by decide +kernel
theorem wl_c3 : Cond.instanceMethod yX3_init ∈ wsL_law9 := by decide +kernel
theorem wl_m4 : Cond.methodLink RL 88 yX4_init ∈ wsL_law9 := by decide +kernel
theorem wl_c4 : Cond.instanceMethod yX4_init ∈ wsL_law9 := by decide +kernel
theorem sub7 {L g : Nat} (hL : L ≤ 3584) (hg : 7 * g ≤ L) (h : ¬ nI L - nI 7 < nI (7 * g)) : 7 * g + 7 ≤ L := by
  by_cases y : 7 ≤ L
  · have e : nI L - nI 7 = nI (L - 7) := pk_sub (by omega)
    rw [e] at h
    have := Int32.not_lt.mp h
    have h2 : 7 * g ≤ L - 7 := by
      apply Classical.byContradiction
      intro z
      exact nI_ge (show L - 7 < 7 * g by omega) (by omega) this
    omega
  · have g0 : g = 0 := by omega
    subst g0
    exfalso
    apply h
    obtain rfl | rfl | rfl | rfl | rfl | rfl | rfl : L = 0 ∨ L = 1 ∨ L = 2 ∨ L = 3 ∨ L = 4 ∨ L = 5 ∨ L = 6 := by omega
    all_goals decide
theorem rel_start {nu : Nat → Int32} {kd ty : Nat → Nat → Int32} {pa : Nat → Nat → Nat} : Rel2 (nI 0, nI 0, nI 0, lN 0, nI 0) (fun _ => 0) th0 nu (fun _ => 0) kd ty pa (fun _ => L0) (I9 16) L9 (fun _ => 0) 0 := by
  have t0 : ∀ c, th0 c = true → c = 0 := fun c h => of_decide_eq_true h
  have e0 : ents L0 = [] := rfl
  have eP0 : ∀ pg, eP (fun _ => L0) pg 16 = [] := fun pg => by simp [eP, e0]
  refine ⟨⟨rfl, by decide, fun i hi => absurd hi (Nat.not_lt_zero i)⟩, fun c _ _ => ⟨Nat.le_refl _, fun i hi => absurd hi (Nat.not_lt_zero i)⟩, fun c h0 hc => ⟨?_, fun h => absurd (t0 c h) (by omega)⟩, ⟨rfl, rfl, rfl, rfl, rfl, Or.inl rfl⟩, fun c hc ht => ?_, fun c c' p hc hc' ht ht' hp => ?_, fun c hc ht p hp w hw => ?_, ⟨0, rfl, Nat.le_refl _, fun c h0 hc ht => absurd (t0 c ht) (by omega), fun c c' h0 hc h0' hc' ht => absurd (t0 c ht) (by omega)⟩, ⟨16, rfl, by decide, fun j hj => ?_⟩, rfl, by decide⟩
  · have e1 : I9 16 14 c = nI 0 := by simp [I9]; rfl
    have e2 : th0 c = false := by simp [th0]; omega
    rw [e1, e2]
    exact ⟨fun _ => rfl, fun _ => rfl⟩
  · refine ⟨by simp [I9]; rfl, Nat.zero_le _, fun j hj => absurd hj (Nat.not_lt_zero j), by simp [mLst], ?_⟩
    rw [eP0]; exact List.Perm.nil
  · rw [t0 c ht, t0 c' ht']
    exact ⟨fun _ => rfl, fun _ => rfl⟩
  · rw [e0] at hw; cases hw
  · by_cases y : j < 16
    · exact ⟨j + 1, by omega, by simp [I9, y]⟩
    · exact ⟨0, by omega, by simp [I9, y]; rfl⟩
section Law
variable {b L : Nat} {xs : Nat → Int32} {l : Launch} {K : Kx} {F : List Nat} {x m out : Nat} {am : Nat → Nat} {hh : List (Nat × Nat × Nat × Nat)} {nm : String} {H : Hp} {g k0 : Nat}
theorem WS.up (W : WS K F x m out am H g k0) (hg : g + 1 < 2 ^ 20) : WS K F x m out am H (g + 1) k0 := by
  obtain ⟨ad, o, nm, th, nu, sc, kd, ty, pa, Lp, rw, I, L, N, C, r, e⟩ := W
  exact ⟨ad, o, nm, th, nu, sc, kd, ty, pa, Lp, rw, I, L, N, C, r.same hg fun _ _ _ => rfl, e⟩
set_option maxRecDepth 100000 in
set_option maxHeartbeats 4000000 in
theorem law_loop (htr : l.stackTraces = false) (fx : FX F m out am) (hL : L ≤ 3584) : ∀ (n g : Nat) (H : Hp) (k0 : Nat), L - 7 * g ≤ n → 7 * g ≤ L → WS K F x m out am H g k0 → JL (b, L, xs) l K hh nm 23 [] [(4, .int (nI (7 * g))), (0, .ref b), (1, .ref x), (2, .ref m), (3, .ref out)] H (77 + 400 * g) (25893 + 7000 * g) := by
  intro n
  induction n using Nat.strongRecOn with
  | _ n ih =>
    intro g H k0 hn hgL W
    refine JX_iload dL_law_23 0 rfl ?_
    refine JX_aload_n dL_law_25 1 rfl ?_
    refine JX_slen (sc := (b, L, xs)) dL_law_26 ?_
    refine JX_bipush (v := nI 7) dL_law_27 (by decide) ?_
    refine JX_isub dL_law_29 ?_
    refine JX_icmp_gt (tgt := 1905) dL_law_30 (by decide) (fun _ => ?_) (fun c => ?_)
    · refine JX_iconst (v := nI 1) dL_law_1905 (by decide) ?_
      exact JL_end dL_law_1906 (by omega) (by omega)
    · have hg : 7 * g + 7 ≤ L := sub7 hL hgL c
      have kend : ∀ H3 k, WS K F x m out am H3 (g + 1) k → JL (b, L, xs) l K hh nm 1899 [] [(4, .int (nI (7 * g))), (0, .ref b), (1, .ref x), (2, .ref m), (3, .ref out)] H3 (77 + 400 * (g + 1)) (25893 + 7000 * (g + 1)) := by
        intro H3 k W3
        refine JX_iinc (v := nI (7 * (g + 1))) (lv' := [(4, .int (nI (7 * (g + 1)))), (0, .ref b), (1, .ref x), (2, .ref m), (3, .ref out)]) dL_law_1899 0 rfl (by rw [show Int32.ofInt 7 = nI 7 by decide, nI_add]; rfl) (by decide) rfl ?_
        refine JX_goto (tgt := 23) dL_law_1902 (by decide) ?_
        exact ih (L - 7 * (g + 1)) (by omega) (g + 1) H3 k (Nat.le_refl _) (by omega) W3
      refine JX_aload_n dL_law_33 1 rfl ?_
      refine JX_iload dL_law_34 0 rfl ?_
      refine JX_sld (sc := (b, L, xs)) (j := 7 * g) dL_law_36 rfl (show 7 * g < L by omega) (show L < 2 ^ 31 by omega) ?_
      refine JX_bipush (v := nI 31) dL_law_37 (by decide) ?_
      refine JX_iand dL_law_39 ?_
      show JL (b, L, xs) l K hh nm 40 [.int (xs (7 * g) &&& nI 31)] _ _ _ _
      rcases sw_cases 25 (xs (7 * g) &&& nI 31) with z | ⟨k, hk, z⟩
      · refine JX_tableOut (tgt := 1899) dL_law_40 z (by decide) ?_
        exact JX_wide (by omega) (by omega) (kend H k0 (W.up (by omega)))
      · rw [z]
        match k, hk with
        | 0, _ => exact JX_tableIn (off := 120) (tgt := 160) dL_law_40 (by decide) (by decide) (by decide) (by decide) (law_0 htr fx W hg hL kend)
        | 1, _ => exact JX_tableIn (off := 169) (tgt := 209) dL_law_40 (by decide) (by decide) (by decide) (by decide) (law_1 htr fx W hg hL kend)
        | 2, _ => exact JX_tableIn (off := 224) (tgt := 264) dL_law_40 (by decide) (by decide) (by decide) (by decide) (law_2 htr fx W hg hL kend)
        | 3, _ => exact JX_tableIn (off := 237) (tgt := 277) dL_law_40 (by decide) (by decide) (by decide) (by decide) (law_3 htr fx W hg hL kend)
        | 4, _ => exact JX_tableIn (off := 262) (tgt := 302) dL_law_40 (by decide) (by decide) (by decide) (by decide) (law_4 htr fx W hg hL kend)
        | 5, _ => exact JX_tableIn (off := 362) (tgt := 402) dL_law_40 (by decide) (by decide) (by decide) (by decide) (law_5 htr fx W hg hL kend)
        | 6, _ => exact JX_tableIn (off := 417) (tgt := 457) dL_law_40 (by decide) (by decide) (by decide) (by decide) (law_6 htr fx W hg hL kend)
        | 7, _ => exact JX_tableIn (off := 517) (tgt := 557) dL_law_40 (by decide) (by decide) (by decide) (by decide) (law_7 htr fx W hg hL kend)
        | 8, _ => exact JX_tableIn (off := 584) (tgt := 624) dL_law_40 (by decide) (by decide) (by decide) (by decide) (law_8 htr fx W hg hL kend)
        | 9, _ => exact JX_tableIn (off := 728) (tgt := 768) dL_law_40 (by decide) (by decide) (by decide) (by decide) (law_9 htr fx W hg hL kend)
        | 10, _ => exact JX_tableIn (off := 827) (tgt := 867) dL_law_40 (by decide) (by decide) (by decide) (by decide) (law_10 htr fx W hg hL kend)
        | 11, _ => exact JX_tableIn (off := 894) (tgt := 934) dL_law_40 (by decide) (by decide) (by decide) (by decide) (law_11 htr fx W hg hL kend)
        | 12, _ => exact JX_tableIn (off := 1001) (tgt := 1041) dL_law_40 (by decide) (by decide) (by decide) (by decide) (law_12 htr fx W hg hL kend)
        | 13, _ => exact JX_tableIn (off := 1101) (tgt := 1141) dL_law_40 (by decide) (by decide) (by decide) (by decide) (law_13 htr fx W hg hL kend)
        | 14, _ => exact JX_tableIn (off := 1157) (tgt := 1197) dL_law_40 (by decide) (by decide) (by decide) (by decide) (law_14 htr fx W hg hL kend)
        | 15, _ => exact JX_tableIn (off := 1220) (tgt := 1260) dL_law_40 (by decide) (by decide) (by decide) (by decide) (law_15 htr fx W hg hL kend)
        | 16, _ => exact JX_tableIn (off := 1233) (tgt := 1273) dL_law_40 (by decide) (by decide) (by decide) (by decide) (law_16 htr fx W hg hL kend)
        | 17, _ => exact JX_tableIn (off := 1289) (tgt := 1329) dL_law_40 (by decide) (by decide) (by decide) (by decide) (law_17 htr fx W hg hL kend)
        | 18, _ => exact JX_tableIn (off := 1356) (tgt := 1396) dL_law_40 (by decide) (by decide) (by decide) (by decide) (law_18 htr fx W hg hL kend)
        | 19, _ => exact JX_tableIn (off := 1369) (tgt := 1409) dL_law_40 (by decide) (by decide) (by decide) (by decide) (law_19 htr fx W hg hL kend)
        | 20, _ => exact JX_tableIn (off := 1425) (tgt := 1465) dL_law_40 (by decide) (by decide) (by decide) (by decide) (law_20 htr fx W hg hL kend)
        | 21, _ => exact JX_tableIn (off := 1562) (tgt := 1602) dL_law_40 (by decide) (by decide) (by decide) (by decide) (law_21 htr fx W hg hL kend)
        | 22, _ => exact JX_tableIn (off := 1630) (tgt := 1670) dL_law_40 (by decide) (by decide) (by decide) (by decide) (law_22 htr fx W hg hL kend)
        | 23, _ => exact JX_tableIn (off := 1686) (tgt := 1726) dL_law_40 (by decide) (by decide) (by decide) (by decide) (law_23 htr fx W hg hL kend)
        | 24, _ => exact JX_tableIn (off := 1766) (tgt := 1806) dL_law_40 (by decide) (by decide) (by decide) (by decide) (law_24 htr fx W hg hL kend)
        | 25, _ => exact JX_tableIn (off := 1834) (tgt := 1874) dL_law_40 (by decide) (by decide) (by decide) (by decide) (law_25 htr fx W hg hL kend)
        | k + 26, hk => exact absurd hk (by omega)
set_option maxRecDepth 100000 in
set_option maxHeartbeats 4000000 in
theorem law_start {h : Hp} (htr : l.stackTraces = false) (hL : L ≤ 3584) (ki : KI K) (he : h K.2.2.2 = some (jl K [])) (hne : ∀ a X, h a = some X → a = K.2.2.2) : JL (b, L, xs) l K hh nm 0 [] [(0, .ref b)] h 0 0 := by
  refine JX_new (ci := 3) (fs := [.null, .null, .null, .null, .int 0, .int 0, .int 0, .long 0, .int 0]) dL_law_0 rfl inlX3 tyX3 tyX3_ok wl_k8 wl_n3 wl_i3 dfX3 (by omega) (by omega) (fun x hx hbx => ?_)
  refine JX_dup dL_law_3 rfl ?_
  have kiF : KI (kF K []) := fun i j hi hj z => ki i j hi hj (by simp only [kF, hi, hj, if_true] at z; exact z)
  have nf : ∀ a, ¬ fK (kF K []) a := fun a z => by have := kF_f.mp z; cases this
  have hxe : x ≠ K.2.2.2 := fun z => by rw [z, he] at hx; cases hx
  have eK1 : eK (kF K []) (va_up h x (some (xO 3 [.null, .null, .null, .null, .int 0, .int 0, .int 0, .long 0, .int 0]))) := ⟨by
    show va_up h x _ K.2.2.2 = some (jl K [])
    rw [up_n hxe.symm]; exact he, nf _, fun a z => absurd z (nf a)⟩
  refine JX_callI (n := 0) (As := []) (rest := [.ref x]) dL_law_4 gL_law_X3_init rfl wl_i3 wl_m3 wl_c3 rfl (by decide +kernel) rfl (by decide) (Nat.le_of_ble_eq_true rfl) (by omega) (by omega) (sp_new (K := kF K []) (mc := 60) (ms := 400) htr kiF eK1 nf (up_s _ _ _) rfl (Nat.le_refl _) (Nat.le_refl _)) kV_no (kV_kx (fun h7 G => ?_))
  obtain ⟨ad, nu, kd, ty, pa, rw, C, oX⟩ := G
  refine JX_astore_n (i := 1) (lv' := [(1, .ref x), (0, .ref b)]) dL_law_7 rfl (by decide) rfl ?_
  refine JX_new (ci := 4) (fs := fs9) dL_law_8 rfl inlX4 tyX4 tyX4_ok wl_k86 wl_n4 wl_i4 dfX4 (by omega) (by omega) (fun m hm hbm => ?_)
  refine JX_dup dL_law_11 rfl ?_
  refine JX_callI (n := 0) (As := []) (rest := [.ref m]) dL_law_12 gL_law_X4_init rfl wl_i4 wl_m4 wl_c4 rfl (by decide +kernel) rfl (by decide) (Nat.le_of_ble_eq_true rfl) (by omega) (by omega) (sp_mNew (K := K) (mc := 14) (ms := 25460) htr (up_s _ _ _) (Nat.le_refl _) (Nat.le_refl _)) kV_no (kV_kx (fun h9 G => ?_))
  obtain ⟨am, A, hfr, rfl⟩ := G
  refine JX_astore_n (i := 2) (lv' := [(2, .ref m), (1, .ref x), (0, .ref b)]) dL_law_15 rfl (by decide) rfl ?_
  refine JX_iconst (v := nI 1) dL_law_16 (by decide) ?_
  refine JX_newa (t := 1) (N' := 1) (a0 := (1, .inr (.inl (fun _ => 0)))) dL_law_17 wl_aj rfl rfl ra_j (fun _ => rfl) rfl (by decide) (by decide) (by omega) (by omega) (fun out ho hbo => ?_)
  refine JX_astore_n (i := 3) (lv' := [(3, .ref out), (2, .ref m), (1, .ref x), (0, .ref b)]) dL_law_19 rfl (by decide) rfl ?_
  refine JX_iconst (v := nI 0) dL_law_20 (by decide) ?_
  refine JX_istore (lv' := [(4, .int (nI (7 * 0))), (3, .ref out), (2, .ref m), (1, .ref x), (0, .ref b)]) dL_law_21 (by decide) rfl ?_
  refine JX_sub [0, 4, 3, 2, 1] rfl ?_
  have hom : out ≠ m := fun z => by rw [z, Mw_m] at ho; cases ho
  have hoa : ∀ i, i < 14 → am (i + 2) ≠ out := fun i hi z => by rw [← z, Mw_c A hi] at ho; cases ho
  have h8m : ∀ a X, h7 a = some X → va_up h7 m (some (xO 4 fs9)) a = some X := fun a X e => by rw [up_n (ne_fresh e hm)]; exact e
  have ham7 : ∀ i, i < 14 → h7 (am (i + 2)) = none := fun i hi => by
    have h1 := (hfr i hi).1
    cases e : h7 (am (i + 2)) with
    | none => rfl
    | some X => rw [h8m _ _ e] at h1; cases h1
  have ho7 : h7 out = none := by
    rw [Mw_o2 hom hoa, up_n hom] at ho; exact ho
  have fx : FX (m :: out :: (List.range 14).map (fun i => am (i + 2))) m out am := ⟨A, fun a => by
    simp only [List.mem_cons, List.mem_map, List.mem_range]
    constructor
    · rintro (z | z | ⟨i, hi, z⟩)
      · exact Or.inl z
      · exact Or.inr (Or.inl z)
      · exact Or.inr (Or.inr ⟨i, hi, z.symm⟩)
    · rintro (z | z | ⟨i, hi, z⟩)
      · exact Or.inl z
      · exact Or.inr (Or.inl z)
      · exact Or.inr (Or.inr ⟨i, hi, z.symm⟩), hom, hoa⟩
  generalize hF : m :: out :: (List.range 14).map (fun i => am (i + 2)) = F at fx
  have nF : ∀ a, a ∈ F → h7 a = none := fun a ha => by
    rcases (fx.2.1 a).mp ha with rfl | rfl | ⟨i, hi, rfl⟩
    · exact hm
    · exact ho7
    · exact ham7 i hi
  generalize hH : va_up (Mw K m am (I9 16) L9 (va_up h7 m (some (xO 4 fs9)))) out (some (xJ K 1 (fun _ => 0))) = H
  have Hout : H out = some (xJ K 1 (fun _ => 0)) := by rw [← hH, up_s]
  have HMw : H = Mw K m am (I9 16) L9 H := by
    refine Mw_id A (h := Mw K m am (I9 16) L9 (va_up h7 m (some (xO 4 fs9)))) (Mw_Mw A).symm ?_ fun i hi => ?_
    · rw [← hH, up_n hom.symm]
    · rw [← hH, up_n (hoa i hi)]
  have W : WS K F x m out am H 0 0 := by
    refine ⟨ad, _, _, th0, nu, _, kd, ty, pa, _, rw, I9 16, L9, fun _ => 0, C.sw (fun a X _ e => ⟨?_, fun z => ?_⟩) (fun a z => ?_), rel_start, HMw, rfl, _, Hout⟩
    · have n1 : a ≠ m := ne_fresh e hm
      have n2 : a ≠ out := ne_fresh e ho7
      have n3 : ∀ i, i < 14 → am (i + 2) ≠ a := fun i hi z => by rw [← z, ham7 i hi] at e; cases e
      rw [← hH, up_n n2, Mw_o2 n1 n3, up_n n1]; exact e
    · rw [nF a (kF_f.mp z)] at e; cases e
    · rcases (fx.2.1 a).mp (kF_f.mp z) with rfl | rfl | ⟨i, hi, rfl⟩
      · exact ⟨_, by rw [HMw]; exact Mw_m⟩
      · exact ⟨_, Hout⟩
      · exact ⟨_, by rw [HMw]; exact Mw_c A hi⟩
  exact JX_wide (by omega) (by omega) (law_loop htr fx hL (L - 7 * 0) 0 H 0 (Nat.le_refl _) (by omega) W)
end Law
