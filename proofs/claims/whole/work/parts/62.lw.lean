/-! ===== the law's wrappers ===== -/
/-- behind a wrapper: code k; if that is 0 the law's row holds the answer; the reference's call is left -/
def WP {α : Type} (mk : α → Value) (K : Kx) (F : List Nat) (x m out : Nat) (am : Nat → Nat) (g : Nat) (M : Hp → (Rs → Hp → Prop) → Prop) (tl : α → Int64) (k : Int32) (H2 : Hp) : Prop :=
  ∃ (kn : Nat) (r : α), k = nI kn ∧ kn < 5 ∧ (∃ fs, H2 m = some (xO 4 fs)) ∧ (∃ f, H2 out = some (xJ K 1 f) ∧ (kn = 0 → f 0 = tl r)) ∧ M H2 (kH mk fun r' H3 => WS K F x m out am H3 g kn ∧ H3 out = H2 out ∧ (kn = 0 → r' = r))
abbrev tlI (a : Int32) : Int64 := a.toInt64
abbrev tlL (a : Int64) : Int64 := a
def tlZ (a : Int32) : Int64 := if a = 0 then 0 else 1
theorem wJ_1 {K : Kx} {h : Hp} {a : Nat} {f : Nat → Int64} {v : Int64} (e : h a = some (xJ K 1 f)) : wJ K h a (nI 0) v = some (va_up h a (some (xJ K 1 (vp_updL f 0 v)))) := by
  have h1 := nI_clamp (n := 0) (by decide)
  have h2 : ¬ nI 0 < nI 0 := nI_pos (n := 0) (by decide)
  have h3 : (0 : Int32) ≤ nI 0 := by decide
  simp [wJ, e, h1, h2, h3]
section Wr
variable {α : Type} {mk : α → Value} {l : Launch} {K : Kx} {F : List Nat} {x m out : Nat} {am : Nat → Nat} {H h' : Hp} {g k0 : Nat} {M : Hp → (Rs → Hp → Prop) → Prop} {a : α}
theorem WP.ok {v : Int64} (om : out ≠ m) (tl : α → Int64) (n : Nx mk K F x m out am g M 0 a h') (hv : v = tl a) : ∃ H2, wJ K h' out (nI 0) v = some H2 ∧ WP mk K F x m out am g M tl (nI 0) H2 := by
  obtain ⟨⟨⟨f, hf⟩, hm⟩, n⟩ := n
  exact ⟨_, wJ_1 hf, 0, a, rfl, by decide, by rw [up_n om.symm]; exact hm, ⟨_, up_s _ _ _, fun _ => by rw [updL_s, hv]⟩, n _ ⟨fun b hb => up_n hb, _, up_s _ _ _⟩⟩
theorem WP.ex {k : Nat} (tl : α → Int64) (n : Nx mk K F x m out am g M k a h') (h0 : 0 < k) (h5 : k < 5) : WP mk K F x m out am g M tl (nI k) h' := by
  obtain ⟨⟨⟨f, hf⟩, hm⟩, n⟩ := n
  exact ⟨k, a, rfl, h5, hm, ⟨f, hf, fun z => by omega⟩, n _ ⟨fun _ _ => rfl, f, hf⟩⟩
theorem WS.ob {k : Nat} (W : WS K F x m out am H g k) : ∃ fs, H x = some (xO 3 fs) := by
  obtain ⟨ad, o, nm, th, nu, sc, kd, ty, pa, Lp, rw, I, L, N, C, -⟩ := W
  exact C.ob
theorem WS.om {k : Nat} (W : WS K F x m out am H g k) : ∃ fs, H m = some (xO 4 fs) := by
  obtain ⟨ad, o, nm, th, nu, sc, kd, ty, pa, Lp, rw, I, L, N, C, r, e, -⟩ := W
  exact ⟨_, by rw [e]; exact Mw_m⟩
theorem kG_kk {own : String} {cc : ByteArray} {nL : Nat} {ret : Option FieldType} {Ts : List Cond} {hh : List (Nat × Nat × Nat × Nat)} {nm : String} {fr lo mc ms : Nat} {Qf : State → Array Value → List Frame → State → Prop} {pc : Nat} {rest : List Value} {lv : List (Nat × Value)} {kc ks : Nat} {G : α → Hp → Prop} {X : String → Hp → Prop} (kk : ∀ x h', G x h' → J l K own cc nL ret Ts hh nm fr lo mc ms Qf pc (mk x :: rest) lv h' kc ks) (v : Option Value) (h' : Hp) (q : kG mk G X (.inl v) h') : J l K own cc nL ret Ts hh nm fr lo mc ms Qf pc (v.toList ++ rest) lv h' kc ks := by
  rcases q with ⟨x, e, q⟩ | ⟨E, e, _⟩
  · cases e; exact kk x h' q
  · cases e
theorem kG_x {G : α → Hp → Prop} {X : String → Hp → Prop} {E : String} {h : Hp} (q : kG mk G X (.inr E) h) : X E h := by
  rcases q with ⟨x, e, q⟩ | ⟨E', e, q⟩
  · cases e
  · cases e; exact q
set_option maxRecDepth 100000 in
set_option maxHeartbeats 4000000 in
theorem lw_put {a1 : Int32} {a2 : Int64} (htr : l.stackTraces = false) (fx : FX F m out am) (W : WS K F x m out am H g k0) (hg : g + 1 < 2 ^ 20) :
    MX l K yL_put wsL_put 9 168 40 1200 [.ref x, .int a1, .long a2, .ref out] H (kI fun k H2 => WP .int K F x m out am (g + 1) (mX4_put l K (.ref m :: [.int a1, .long a2])) tlI k H2) := by
  refine MX.enterH htr (by decide) rfl (Nat.le_of_ble_eq_true rfl) ?_
  refine J_lveq (lv' := [(0, .ref x), (1, .int a1), (2, .long a2), (4, .ref out)]) rfl ?_
  refine J_aload dL_put_0 3 rfl ?_
  refine J_iconst (v := nI 0) dL_put_2 (by decide) ?_
  refine J_aload_n dL_put_3 0 rfl ?_
  refine J_iload_n dL_put_4 1 rfl ?_
  refine J_lload_n dL_put_5 2 rfl ?_
  refine J_callVc (ci := 3) (n := 2) (As := [.int a1, .long a2]) (rest := [.int (nI 0), .ref out]) dL_put_6 rfl gL_put_X3_put rfl (by decide +kernel) rfl (by decide) W.ob (Nat.le_of_ble_eq_true rfl) (Nat.le_of_ble_eq_true rfl) (Nat.le_of_ble_eq_true rfl) (tw_put htr fx W hg (Nat.le_refl _) (Nat.le_refl _)) (kIX_kk (fun a h' G => ?_)) (fun E h' G => ?_)
  · refine J_i2l dL_put_9 ?_
    obtain ⟨H2, hw, wp⟩ := WP.ok (v := a.toInt64) fx.2.2.1 tlI G rfl
    refine J_last dL_put_10 hw ?_
    refine J_goto (tgt := 26) dL_put_11 (by decide) ?_
    refine J_iconst (v := nI 0) dL_put_26 (by decide) ?_
    exact J_iret dL_put_27 rfl (Nat.le_of_ble_eq_true rfl) (Nat.le_of_ble_eq_true rfl) ⟨_, rfl, wp⟩
  · obtain ⟨k, k1, kb, rfl, Gx⟩ := kIX_x G
    obtain rfl | rfl | rfl : k = 1 ∨ k = 2 ∨ k = 3 := by omega
    · refine ⟨14, ⟨[], (0, 11, 14, 13), [(0, 11, 18, 15), (0, 11, 22, 17)], rfl, fun _ h => absurd h List.not_mem_nil, by decide, by decide, by decide +kernel, by decide, by decide, rfl⟩, fun q => ?_⟩
      refine J_astore (i := 5) (lv' := [(5, .ref q), (0, .ref x), (1, .int a1), (2, .long a2), (4, .ref out)]) dL_put_14 (by decide) rfl ?_
      refine J_iconst (v := nI 1) dL_put_16 (by decide) ?_
      exact J_iret dL_put_17 rfl (Nat.le_of_ble_eq_true rfl) (Nat.le_of_ble_eq_true rfl) ⟨_, rfl, WP.ex tlI (Gx 0) (by decide) (by decide)⟩
    · refine ⟨18, ⟨[(0, 11, 14, 13)], (0, 11, 18, 15), [(0, 11, 22, 17)], rfl, List.forall_mem_cons.mpr ⟨⟨by decide, by decide, "java/lang/IndexOutOfBoundsException", by decide +kernel, by decide, by decide⟩, fun _ h => absurd h List.not_mem_nil⟩, by decide, by decide, by decide +kernel, by decide, by decide, rfl⟩, fun q => ?_⟩
      refine J_astore (i := 5) (lv' := [(5, .ref q), (0, .ref x), (1, .int a1), (2, .long a2), (4, .ref out)]) dL_put_18 (by decide) rfl ?_
      refine J_iconst (v := nI 2) dL_put_20 (by decide) ?_
      exact J_iret dL_put_21 rfl (Nat.le_of_ble_eq_true rfl) (Nat.le_of_ble_eq_true rfl) ⟨_, rfl, WP.ex tlI (Gx 0) (by decide) (by decide)⟩
    · refine ⟨22, ⟨[(0, 11, 14, 13), (0, 11, 18, 15)], (0, 11, 22, 17), [], rfl, List.forall_mem_cons.mpr ⟨⟨by decide, by decide, "java/lang/IndexOutOfBoundsException", by decide +kernel, by decide, by decide⟩, List.forall_mem_cons.mpr ⟨⟨by decide, by decide, "java/lang/IllegalArgumentException", by decide +kernel, by decide, by decide⟩, fun _ h => absurd h List.not_mem_nil⟩⟩, by decide, by decide, by decide +kernel, by decide, by decide, rfl⟩, fun q => ?_⟩
      refine J_astore (i := 5) (lv' := [(5, .ref q), (0, .ref x), (1, .int a1), (2, .long a2), (4, .ref out)]) dL_put_22 (by decide) rfl ?_
      refine J_iconst (v := nI 3) dL_put_24 (by decide) ?_
      exact J_iret dL_put_25 rfl (Nat.le_of_ble_eq_true rfl) (Nat.le_of_ble_eq_true rfl) ⟨_, rfl, WP.ex tlI (Gx 0) (by decide) (by decide)⟩
set_option maxRecDepth 100000 in
set_option maxHeartbeats 4000000 in
theorem lw_value {a1 : Int32} (htr : l.stackTraces = false) (fx : FX F m out am) (W : WS K F x m out am H g k0) (hg : g + 1 < 2 ^ 20) :
    MX l K yL_value wsL_value9 9 156 40 1200 [.ref x, .int a1, .ref out] H (kI fun k H2 => WP .long K F x m out am (g + 1) (mX4_value l K (.ref m :: [.int a1])) tlL k H2) := by
  refine MX.enterH htr (by decide) rfl (Nat.le_of_ble_eq_true rfl) ?_
  refine J_lveq (lv' := [(0, .ref x), (1, .int a1), (2, .ref out)]) rfl ?_
  refine J_aload_n dL_value_0 2 rfl ?_
  refine J_iconst (v := nI 0) dL_value_1 (by decide) ?_
  refine J_aload_n dL_value_2 0 rfl ?_
  refine J_iload_n dL_value_3 1 rfl ?_
  refine J_callVc (ci := 3) (n := 1) (As := [.int a1]) (rest := [.int (nI 0), .ref out]) dL_value_4 rfl gL_value_X3_value9 rfl (by decide +kernel) rfl (by decide) W.ob (Nat.le_of_ble_eq_true rfl) (Nat.le_of_ble_eq_true rfl) (Nat.le_of_ble_eq_true rfl) (tw_value htr fx W hg (Nat.le_refl _) (Nat.le_refl _)) (kG_kk (fun a h' G => ?_)) (fun E h' G => ?_)
  · obtain ⟨H2, hw, wp⟩ := WP.ok (v := a) fx.2.2.1 tlL G rfl
    refine J_last dL_value_7 hw ?_
    refine J_goto (tgt := 23) dL_value_8 (by decide) ?_
    refine J_iconst (v := nI 0) dL_value_23 (by decide) ?_
    exact J_iret dL_value_24 rfl (Nat.le_of_ble_eq_true rfl) (Nat.le_of_ble_eq_true rfl) ⟨_, rfl, wp⟩
  · obtain ⟨k, k1, kb, rfl, Gx⟩ := kG_x G
    obtain rfl | rfl | rfl | rfl : k = 1 ∨ k = 2 ∨ k = 3 ∨ k = 4 := by omega
    · refine ⟨11, ⟨[], (0, 8, 11, 13), [(0, 8, 14, 15), (0, 8, 17, 17), (0, 8, 20, 23)], rfl, fun _ h => absurd h List.not_mem_nil, by decide, by decide, by decide +kernel, by decide, by decide, rfl⟩, fun q => ?_⟩
      refine J_astore_n (i := 3) (lv' := [(3, .ref q), (0, .ref x), (1, .int a1), (2, .ref out)]) dL_value_11 rfl (by decide) rfl ?_
      refine J_iconst (v := nI 1) dL_value_12 (by decide) ?_
      exact J_iret dL_value_13 rfl (Nat.le_of_ble_eq_true rfl) (Nat.le_of_ble_eq_true rfl) ⟨_, rfl, WP.ex tlL (Gx 0) (by decide) (by decide)⟩
    · refine ⟨14, ⟨[(0, 8, 11, 13)], (0, 8, 14, 15), [(0, 8, 17, 17), (0, 8, 20, 23)], rfl, List.forall_mem_cons.mpr ⟨⟨by decide, by decide, "java/lang/IndexOutOfBoundsException", by decide +kernel, by decide, by decide⟩, fun _ h => absurd h List.not_mem_nil⟩, by decide, by decide, by decide +kernel, by decide, by decide, rfl⟩, fun q => ?_⟩
      refine J_astore_n (i := 3) (lv' := [(3, .ref q), (0, .ref x), (1, .int a1), (2, .ref out)]) dL_value_14 rfl (by decide) rfl ?_
      refine J_iconst (v := nI 2) dL_value_15 (by decide) ?_
      exact J_iret dL_value_16 rfl (Nat.le_of_ble_eq_true rfl) (Nat.le_of_ble_eq_true rfl) ⟨_, rfl, WP.ex tlL (Gx 0) (by decide) (by decide)⟩
    · refine ⟨17, ⟨[(0, 8, 11, 13), (0, 8, 14, 15)], (0, 8, 17, 17), [(0, 8, 20, 23)], rfl, List.forall_mem_cons.mpr ⟨⟨by decide, by decide, "java/lang/IndexOutOfBoundsException", by decide +kernel, by decide, by decide⟩, List.forall_mem_cons.mpr ⟨⟨by decide, by decide, "java/lang/IllegalArgumentException", by decide +kernel, by decide, by decide⟩, fun _ h => absurd h List.not_mem_nil⟩⟩, by decide, by decide, by decide +kernel, by decide, by decide, rfl⟩, fun q => ?_⟩
      refine J_astore_n (i := 3) (lv' := [(3, .ref q), (0, .ref x), (1, .int a1), (2, .ref out)]) dL_value_17 rfl (by decide) rfl ?_
      refine J_iconst (v := nI 3) dL_value_18 (by decide) ?_
      exact J_iret dL_value_19 rfl (Nat.le_of_ble_eq_true rfl) (Nat.le_of_ble_eq_true rfl) ⟨_, rfl, WP.ex tlL (Gx 0) (by decide) (by decide)⟩
    · refine ⟨20, ⟨[(0, 8, 11, 13), (0, 8, 14, 15), (0, 8, 17, 17)], (0, 8, 20, 23), [], rfl, List.forall_mem_cons.mpr ⟨⟨by decide, by decide, "java/lang/IndexOutOfBoundsException", by decide +kernel, by decide, by decide⟩, List.forall_mem_cons.mpr ⟨⟨by decide, by decide, "java/lang/IllegalArgumentException", by decide +kernel, by decide, by decide⟩, List.forall_mem_cons.mpr ⟨⟨by decide, by decide, "java/lang/IllegalStateException", by decide +kernel, by decide, by decide⟩, fun _ h => absurd h List.not_mem_nil⟩⟩⟩, by decide, by decide, by decide +kernel, by decide, by decide, rfl⟩, fun q => ?_⟩
      refine J_astore_n (i := 3) (lv' := [(3, .ref q), (0, .ref x), (1, .int a1), (2, .ref out)]) dL_value_20 rfl (by decide) rfl ?_
      refine J_iconst (v := nI 4) dL_value_21 (by decide) ?_
      exact J_iret dL_value_22 rfl (Nat.le_of_ble_eq_true rfl) (Nat.le_of_ble_eq_true rfl) ⟨_, rfl, WP.ex tlL (Gx 0) (by decide) (by decide)⟩
set_option maxRecDepth 100000 in
set_option maxHeartbeats 4000000 in
theorem lw_add {a1 : Int32} {a2 : Int64} (htr : l.stackTraces = false) (fx : FX F m out am) (W : WS K F x m out am H g k0) (hg : g + 1 < 2 ^ 20) :
    MX l K yL_add wsL_add 9 168 40 1200 [.ref x, .int a1, .long a2, .ref out] H (kI fun k H2 => WP .int K F x m out am (g + 1) (mX4_add l K (.ref m :: [.int a1, .long a2])) tlI k H2) := by
  refine MX.enterH htr (by decide) rfl (Nat.le_of_ble_eq_true rfl) ?_
  refine J_lveq (lv' := [(0, .ref x), (1, .int a1), (2, .long a2), (4, .ref out)]) rfl ?_
  refine J_aload dL_add_0 3 rfl ?_
  refine J_iconst (v := nI 0) dL_add_2 (by decide) ?_
  refine J_aload_n dL_add_3 0 rfl ?_
  refine J_iload_n dL_add_4 1 rfl ?_
  refine J_lload_n dL_add_5 2 rfl ?_
  refine J_callVc (ci := 3) (n := 2) (As := [.int a1, .long a2]) (rest := [.int (nI 0), .ref out]) dL_add_6 rfl gL_add_X3_add rfl (by decide +kernel) rfl (by decide) W.ob (Nat.le_of_ble_eq_true rfl) (Nat.le_of_ble_eq_true rfl) (Nat.le_of_ble_eq_true rfl) (tw_add htr fx W hg (Nat.le_refl _) (Nat.le_refl _)) (kIX_kk (fun a h' G => ?_)) (fun E h' G => ?_)
  · refine J_i2l dL_add_9 ?_
    obtain ⟨H2, hw, wp⟩ := WP.ok (v := a.toInt64) fx.2.2.1 tlI G rfl
    refine J_last dL_add_10 hw ?_
    refine J_goto (tgt := 26) dL_add_11 (by decide) ?_
    refine J_iconst (v := nI 0) dL_add_26 (by decide) ?_
    exact J_iret dL_add_27 rfl (Nat.le_of_ble_eq_true rfl) (Nat.le_of_ble_eq_true rfl) ⟨_, rfl, wp⟩
  · obtain ⟨k, k1, kb, rfl, Gx⟩ := kIX_x G
    obtain rfl | rfl | rfl : k = 1 ∨ k = 2 ∨ k = 3 := by omega
    · refine ⟨14, ⟨[], (0, 11, 14, 13), [(0, 11, 18, 15), (0, 11, 22, 17)], rfl, fun _ h => absurd h List.not_mem_nil, by decide, by decide, by decide +kernel, by decide, by decide, rfl⟩, fun q => ?_⟩
      refine J_astore (i := 5) (lv' := [(5, .ref q), (0, .ref x), (1, .int a1), (2, .long a2), (4, .ref out)]) dL_add_14 (by decide) rfl ?_
      refine J_iconst (v := nI 1) dL_add_16 (by decide) ?_
      exact J_iret dL_add_17 rfl (Nat.le_of_ble_eq_true rfl) (Nat.le_of_ble_eq_true rfl) ⟨_, rfl, WP.ex tlI (Gx 0) (by decide) (by decide)⟩
    · refine ⟨18, ⟨[(0, 11, 14, 13)], (0, 11, 18, 15), [(0, 11, 22, 17)], rfl, List.forall_mem_cons.mpr ⟨⟨by decide, by decide, "java/lang/IndexOutOfBoundsException", by decide +kernel, by decide, by decide⟩, fun _ h => absurd h List.not_mem_nil⟩, by decide, by decide, by decide +kernel, by decide, by decide, rfl⟩, fun q => ?_⟩
      refine J_astore (i := 5) (lv' := [(5, .ref q), (0, .ref x), (1, .int a1), (2, .long a2), (4, .ref out)]) dL_add_18 (by decide) rfl ?_
      refine J_iconst (v := nI 2) dL_add_20 (by decide) ?_
      exact J_iret dL_add_21 rfl (Nat.le_of_ble_eq_true rfl) (Nat.le_of_ble_eq_true rfl) ⟨_, rfl, WP.ex tlI (Gx 0) (by decide) (by decide)⟩
    · refine ⟨22, ⟨[(0, 11, 14, 13), (0, 11, 18, 15)], (0, 11, 22, 17), [], rfl, List.forall_mem_cons.mpr ⟨⟨by decide, by decide, "java/lang/IndexOutOfBoundsException", by decide +kernel, by decide, by decide⟩, List.forall_mem_cons.mpr ⟨⟨by decide, by decide, "java/lang/IllegalArgumentException", by decide +kernel, by decide, by decide⟩, fun _ h => absurd h List.not_mem_nil⟩⟩, by decide, by decide, by decide +kernel, by decide, by decide, rfl⟩, fun q => ?_⟩
      refine J_astore (i := 5) (lv' := [(5, .ref q), (0, .ref x), (1, .int a1), (2, .long a2), (4, .ref out)]) dL_add_22 (by decide) rfl ?_
      refine J_iconst (v := nI 3) dL_add_24 (by decide) ?_
      exact J_iret dL_add_25 rfl (Nat.le_of_ble_eq_true rfl) (Nat.le_of_ble_eq_true rfl) ⟨_, rfl, WP.ex tlI (Gx 0) (by decide) (by decide)⟩
set_option maxRecDepth 100000 in
set_option maxHeartbeats 4000000 in
theorem lw_item {a1 : Int32} {a2 : Int32} (htr : l.stackTraces = false) (fx : FX F m out am) (W : WS K F x m out am H g k0) (hg : g + 1 < 2 ^ 20) :
    MX l K yL_item wsL_item 9 156 40 1200 [.ref x, .int a1, .int a2, .ref out] H (kI fun k H2 => WP .long K F x m out am (g + 1) (mX4_item l K (.ref m :: [.int a1, .int a2])) tlL k H2) := by
  refine MX.enterH htr (by decide) rfl (Nat.le_of_ble_eq_true rfl) ?_
  refine J_lveq (lv' := [(0, .ref x), (1, .int a1), (2, .int a2), (3, .ref out)]) rfl ?_
  refine J_aload_n dL_item_0 3 rfl ?_
  refine J_iconst (v := nI 0) dL_item_1 (by decide) ?_
  refine J_aload_n dL_item_2 0 rfl ?_
  refine J_iload_n dL_item_3 1 rfl ?_
  refine J_iload_n dL_item_4 2 rfl ?_
  refine J_callVc (ci := 3) (n := 2) (As := [.int a1, .int a2]) (rest := [.int (nI 0), .ref out]) dL_item_5 rfl gL_item_X3_item rfl (by decide +kernel) rfl (by decide) W.ob (Nat.le_of_ble_eq_true rfl) (Nat.le_of_ble_eq_true rfl) (Nat.le_of_ble_eq_true rfl) (tw_item htr fx W hg (Nat.le_refl _) (Nat.le_refl _)) (kG_kk (fun a h' G => ?_)) (fun E h' G => ?_)
  · obtain ⟨H2, hw, wp⟩ := WP.ok (v := a) fx.2.2.1 tlL G rfl
    refine J_last dL_item_8 hw ?_
    refine J_goto (tgt := 24) dL_item_9 (by decide) ?_
    refine J_iconst (v := nI 0) dL_item_24 (by decide) ?_
    exact J_iret dL_item_25 rfl (Nat.le_of_ble_eq_true rfl) (Nat.le_of_ble_eq_true rfl) ⟨_, rfl, wp⟩
  · obtain ⟨k, k1, kb, rfl, Gx⟩ := kG_x G
    obtain rfl | rfl | rfl : k = 1 ∨ k = 2 ∨ k = 3 := by omega
    · refine ⟨12, ⟨[], (0, 9, 12, 13), [(0, 9, 16, 15), (0, 9, 20, 17)], rfl, fun _ h => absurd h List.not_mem_nil, by decide, by decide, by decide +kernel, by decide, by decide, rfl⟩, fun q => ?_⟩
      refine J_astore (i := 4) (lv' := [(4, .ref q), (0, .ref x), (1, .int a1), (2, .int a2), (3, .ref out)]) dL_item_12 (by decide) rfl ?_
      refine J_iconst (v := nI 1) dL_item_14 (by decide) ?_
      exact J_iret dL_item_15 rfl (Nat.le_of_ble_eq_true rfl) (Nat.le_of_ble_eq_true rfl) ⟨_, rfl, WP.ex tlL (Gx 0) (by decide) (by decide)⟩
    · refine ⟨16, ⟨[(0, 9, 12, 13)], (0, 9, 16, 15), [(0, 9, 20, 17)], rfl, List.forall_mem_cons.mpr ⟨⟨by decide, by decide, "java/lang/IndexOutOfBoundsException", by decide +kernel, by decide, by decide⟩, fun _ h => absurd h List.not_mem_nil⟩, by decide, by decide, by decide +kernel, by decide, by decide, rfl⟩, fun q => ?_⟩
      refine J_astore (i := 4) (lv' := [(4, .ref q), (0, .ref x), (1, .int a1), (2, .int a2), (3, .ref out)]) dL_item_16 (by decide) rfl ?_
      refine J_iconst (v := nI 2) dL_item_18 (by decide) ?_
      exact J_iret dL_item_19 rfl (Nat.le_of_ble_eq_true rfl) (Nat.le_of_ble_eq_true rfl) ⟨_, rfl, WP.ex tlL (Gx 0) (by decide) (by decide)⟩
    · refine ⟨20, ⟨[(0, 9, 12, 13), (0, 9, 16, 15)], (0, 9, 20, 17), [], rfl, List.forall_mem_cons.mpr ⟨⟨by decide, by decide, "java/lang/IndexOutOfBoundsException", by decide +kernel, by decide, by decide⟩, List.forall_mem_cons.mpr ⟨⟨by decide, by decide, "java/lang/IllegalArgumentException", by decide +kernel, by decide, by decide⟩, fun _ h => absurd h List.not_mem_nil⟩⟩, by decide, by decide, by decide +kernel, by decide, by decide, rfl⟩, fun q => ?_⟩
      refine J_astore (i := 4) (lv' := [(4, .ref q), (0, .ref x), (1, .int a1), (2, .int a2), (3, .ref out)]) dL_item_20 (by decide) rfl ?_
      refine J_iconst (v := nI 3) dL_item_22 (by decide) ?_
      exact J_iret dL_item_23 rfl (Nat.le_of_ble_eq_true rfl) (Nat.le_of_ble_eq_true rfl) ⟨_, rfl, WP.ex tlL (Gx 0) (by decide) (by decide)⟩
set_option maxRecDepth 100000 in
set_option maxHeartbeats 4000000 in
theorem lw_set {a1 : Int32} {a2 : Int64} {a3 : Int64} (htr : l.stackTraces = false) (fx : FX F m out am) (W : WS K F x m out am H g k0) (hg : g + 1 < 2 ^ 20) :
    MX l K yL_set wsL_set 9 171 40 1200 [.ref x, .int a1, .long a2, .long a3, .ref out] H (kI fun k H2 => WP .int K F x m out am (g + 1) (mX4_set l K (.ref m :: [.int a1, .long a2, .long a3])) tlI k H2) := by
  refine MX.enterH htr (by decide) rfl (Nat.le_of_ble_eq_true rfl) ?_
  refine J_lveq (lv' := [(0, .ref x), (1, .int a1), (2, .long a2), (4, .long a3), (6, .ref out)]) rfl ?_
  refine J_aload dL_set_0 4 rfl ?_
  refine J_iconst (v := nI 0) dL_set_2 (by decide) ?_
  refine J_aload_n dL_set_3 0 rfl ?_
  refine J_iload_n dL_set_4 1 rfl ?_
  refine J_lload_n dL_set_5 2 rfl ?_
  refine J_lload dL_set_6 3 rfl ?_
  refine J_callVc (ci := 3) (n := 3) (As := [.int a1, .long a2, .long a3]) (rest := [.int (nI 0), .ref out]) dL_set_8 rfl gL_set_X3_set rfl (by decide +kernel) rfl (by decide) W.ob (Nat.le_of_ble_eq_true rfl) (Nat.le_of_ble_eq_true rfl) (Nat.le_of_ble_eq_true rfl) (tw_set htr fx W hg (Nat.le_refl _) (Nat.le_refl _)) (kIX_kk (fun a h' G => ?_)) (fun E h' G => ?_)
  · refine J_i2l dL_set_11 ?_
    obtain ⟨H2, hw, wp⟩ := WP.ok (v := a.toInt64) fx.2.2.1 tlI G rfl
    refine J_last dL_set_12 hw ?_
    refine J_goto (tgt := 28) dL_set_13 (by decide) ?_
    refine J_iconst (v := nI 0) dL_set_28 (by decide) ?_
    exact J_iret dL_set_29 rfl (Nat.le_of_ble_eq_true rfl) (Nat.le_of_ble_eq_true rfl) ⟨_, rfl, wp⟩
  · obtain ⟨k, k1, kb, rfl, Gx⟩ := kIX_x G
    obtain rfl | rfl | rfl : k = 1 ∨ k = 2 ∨ k = 3 := by omega
    · refine ⟨16, ⟨[], (0, 13, 16, 13), [(0, 13, 20, 15), (0, 13, 24, 17)], rfl, fun _ h => absurd h List.not_mem_nil, by decide, by decide, by decide +kernel, by decide, by decide, rfl⟩, fun q => ?_⟩
      refine J_astore (i := 7) (lv' := [(7, .ref q), (0, .ref x), (1, .int a1), (2, .long a2), (4, .long a3), (6, .ref out)]) dL_set_16 (by decide) rfl ?_
      refine J_iconst (v := nI 1) dL_set_18 (by decide) ?_
      exact J_iret dL_set_19 rfl (Nat.le_of_ble_eq_true rfl) (Nat.le_of_ble_eq_true rfl) ⟨_, rfl, WP.ex tlI (Gx 0) (by decide) (by decide)⟩
    · refine ⟨20, ⟨[(0, 13, 16, 13)], (0, 13, 20, 15), [(0, 13, 24, 17)], rfl, List.forall_mem_cons.mpr ⟨⟨by decide, by decide, "java/lang/IndexOutOfBoundsException", by decide +kernel, by decide, by decide⟩, fun _ h => absurd h List.not_mem_nil⟩, by decide, by decide, by decide +kernel, by decide, by decide, rfl⟩, fun q => ?_⟩
      refine J_astore (i := 7) (lv' := [(7, .ref q), (0, .ref x), (1, .int a1), (2, .long a2), (4, .long a3), (6, .ref out)]) dL_set_20 (by decide) rfl ?_
      refine J_iconst (v := nI 2) dL_set_22 (by decide) ?_
      exact J_iret dL_set_23 rfl (Nat.le_of_ble_eq_true rfl) (Nat.le_of_ble_eq_true rfl) ⟨_, rfl, WP.ex tlI (Gx 0) (by decide) (by decide)⟩
    · refine ⟨24, ⟨[(0, 13, 16, 13), (0, 13, 20, 15)], (0, 13, 24, 17), [], rfl, List.forall_mem_cons.mpr ⟨⟨by decide, by decide, "java/lang/IndexOutOfBoundsException", by decide +kernel, by decide, by decide⟩, List.forall_mem_cons.mpr ⟨⟨by decide, by decide, "java/lang/IllegalArgumentException", by decide +kernel, by decide, by decide⟩, fun _ h => absurd h List.not_mem_nil⟩⟩, by decide, by decide, by decide +kernel, by decide, by decide, rfl⟩, fun q => ?_⟩
      refine J_astore (i := 7) (lv' := [(7, .ref q), (0, .ref x), (1, .int a1), (2, .long a2), (4, .long a3), (6, .ref out)]) dL_set_24 (by decide) rfl ?_
      refine J_iconst (v := nI 3) dL_set_26 (by decide) ?_
      exact J_iret dL_set_27 rfl (Nat.le_of_ble_eq_true rfl) (Nat.le_of_ble_eq_true rfl) ⟨_, rfl, WP.ex tlI (Gx 0) (by decide) (by decide)⟩
set_option maxRecDepth 100000 in
set_option maxHeartbeats 4000000 in
theorem lw_get {a1 : Int32} {a2 : Int64} (htr : l.stackTraces = false) (fx : FX F m out am) (W : WS K F x m out am H g k0) (hg : g + 1 < 2 ^ 20) :
    MX l K yL_get wsL_get9 9 159 40 1200 [.ref x, .int a1, .long a2, .ref out] H (kI fun k H2 => WP .long K F x m out am (g + 1) (mX4_get l K (.ref m :: [.int a1, .long a2])) tlL k H2) := by
  refine MX.enterH htr (by decide) rfl (Nat.le_of_ble_eq_true rfl) ?_
  refine J_lveq (lv' := [(0, .ref x), (1, .int a1), (2, .long a2), (4, .ref out)]) rfl ?_
  refine J_aload dL_get_0 3 rfl ?_
  refine J_iconst (v := nI 0) dL_get_2 (by decide) ?_
  refine J_aload_n dL_get_3 0 rfl ?_
  refine J_iload_n dL_get_4 1 rfl ?_
  refine J_lload_n dL_get_5 2 rfl ?_
  refine J_callVc (ci := 3) (n := 2) (As := [.int a1, .long a2]) (rest := [.int (nI 0), .ref out]) dL_get_6 rfl gL_get_X3_get9 rfl (by decide +kernel) rfl (by decide) W.ob (Nat.le_of_ble_eq_true rfl) (Nat.le_of_ble_eq_true rfl) (Nat.le_of_ble_eq_true rfl) (tw_get htr fx W hg (Nat.le_refl _) (Nat.le_refl _)) (kG_kk (fun a h' G => ?_)) (fun E h' G => ?_)
  · obtain ⟨H2, hw, wp⟩ := WP.ok (v := a) fx.2.2.1 tlL G rfl
    refine J_last dL_get_9 hw ?_
    refine J_goto (tgt := 29) dL_get_10 (by decide) ?_
    refine J_iconst (v := nI 0) dL_get_29 (by decide) ?_
    exact J_iret dL_get_30 rfl (Nat.le_of_ble_eq_true rfl) (Nat.le_of_ble_eq_true rfl) ⟨_, rfl, wp⟩
  · obtain ⟨k, k1, kb, rfl, Gx⟩ := kG_x G
    obtain rfl | rfl | rfl | rfl : k = 1 ∨ k = 2 ∨ k = 3 ∨ k = 4 := by omega
    · refine ⟨13, ⟨[], (0, 10, 13, 13), [(0, 10, 17, 15), (0, 10, 21, 17), (0, 10, 25, 23)], rfl, fun _ h => absurd h List.not_mem_nil, by decide, by decide, by decide +kernel, by decide, by decide, rfl⟩, fun q => ?_⟩
      refine J_astore (i := 5) (lv' := [(5, .ref q), (0, .ref x), (1, .int a1), (2, .long a2), (4, .ref out)]) dL_get_13 (by decide) rfl ?_
      refine J_iconst (v := nI 1) dL_get_15 (by decide) ?_
      exact J_iret dL_get_16 rfl (Nat.le_of_ble_eq_true rfl) (Nat.le_of_ble_eq_true rfl) ⟨_, rfl, WP.ex tlL (Gx 0) (by decide) (by decide)⟩
    · refine ⟨17, ⟨[(0, 10, 13, 13)], (0, 10, 17, 15), [(0, 10, 21, 17), (0, 10, 25, 23)], rfl, List.forall_mem_cons.mpr ⟨⟨by decide, by decide, "java/lang/IndexOutOfBoundsException", by decide +kernel, by decide, by decide⟩, fun _ h => absurd h List.not_mem_nil⟩, by decide, by decide, by decide +kernel, by decide, by decide, rfl⟩, fun q => ?_⟩
      refine J_astore (i := 5) (lv' := [(5, .ref q), (0, .ref x), (1, .int a1), (2, .long a2), (4, .ref out)]) dL_get_17 (by decide) rfl ?_
      refine J_iconst (v := nI 2) dL_get_19 (by decide) ?_
      exact J_iret dL_get_20 rfl (Nat.le_of_ble_eq_true rfl) (Nat.le_of_ble_eq_true rfl) ⟨_, rfl, WP.ex tlL (Gx 0) (by decide) (by decide)⟩
    · refine ⟨21, ⟨[(0, 10, 13, 13), (0, 10, 17, 15)], (0, 10, 21, 17), [(0, 10, 25, 23)], rfl, List.forall_mem_cons.mpr ⟨⟨by decide, by decide, "java/lang/IndexOutOfBoundsException", by decide +kernel, by decide, by decide⟩, List.forall_mem_cons.mpr ⟨⟨by decide, by decide, "java/lang/IllegalArgumentException", by decide +kernel, by decide, by decide⟩, fun _ h => absurd h List.not_mem_nil⟩⟩, by decide, by decide, by decide +kernel, by decide, by decide, rfl⟩, fun q => ?_⟩
      refine J_astore (i := 5) (lv' := [(5, .ref q), (0, .ref x), (1, .int a1), (2, .long a2), (4, .ref out)]) dL_get_21 (by decide) rfl ?_
      refine J_iconst (v := nI 3) dL_get_23 (by decide) ?_
      exact J_iret dL_get_24 rfl (Nat.le_of_ble_eq_true rfl) (Nat.le_of_ble_eq_true rfl) ⟨_, rfl, WP.ex tlL (Gx 0) (by decide) (by decide)⟩
    · refine ⟨25, ⟨[(0, 10, 13, 13), (0, 10, 17, 15), (0, 10, 21, 17)], (0, 10, 25, 23), [], rfl, List.forall_mem_cons.mpr ⟨⟨by decide, by decide, "java/lang/IndexOutOfBoundsException", by decide +kernel, by decide, by decide⟩, List.forall_mem_cons.mpr ⟨⟨by decide, by decide, "java/lang/IllegalArgumentException", by decide +kernel, by decide, by decide⟩, List.forall_mem_cons.mpr ⟨⟨by decide, by decide, "java/lang/IllegalStateException", by decide +kernel, by decide, by decide⟩, fun _ h => absurd h List.not_mem_nil⟩⟩⟩, by decide, by decide, by decide +kernel, by decide, by decide, rfl⟩, fun q => ?_⟩
      refine J_astore (i := 5) (lv' := [(5, .ref q), (0, .ref x), (1, .int a1), (2, .long a2), (4, .ref out)]) dL_get_25 (by decide) rfl ?_
      refine J_iconst (v := nI 4) dL_get_27 (by decide) ?_
      exact J_iret dL_get_28 rfl (Nat.le_of_ble_eq_true rfl) (Nat.le_of_ble_eq_true rfl) ⟨_, rfl, WP.ex tlL (Gx 0) (by decide) (by decide)⟩
set_option maxRecDepth 100000 in
set_option maxHeartbeats 4000000 in
theorem lw_member {a1 : Int32} {a2 : Int32} (htr : l.stackTraces = false) (fx : FX F m out am) (W : WS K F x m out am H g k0) (hg : g + 1 < 2 ^ 20) :
    MX l K yL_member wsL_member 9 156 40 1200 [.ref x, .int a1, .int a2, .ref out] H (kI fun k H2 => WP .long K F x m out am (g + 1) (mX4_member l K (.ref m :: [.int a1, .int a2])) tlL k H2) := by
  refine MX.enterH htr (by decide) rfl (Nat.le_of_ble_eq_true rfl) ?_
  refine J_lveq (lv' := [(0, .ref x), (1, .int a1), (2, .int a2), (3, .ref out)]) rfl ?_
  refine J_aload_n dL_member_0 3 rfl ?_
  refine J_iconst (v := nI 0) dL_member_1 (by decide) ?_
  refine J_aload_n dL_member_2 0 rfl ?_
  refine J_iload_n dL_member_3 1 rfl ?_
  refine J_iload_n dL_member_4 2 rfl ?_
  refine J_callVc (ci := 3) (n := 2) (As := [.int a1, .int a2]) (rest := [.int (nI 0), .ref out]) dL_member_5 rfl gL_member_X3_member rfl (by decide +kernel) rfl (by decide) W.ob (Nat.le_of_ble_eq_true rfl) (Nat.le_of_ble_eq_true rfl) (Nat.le_of_ble_eq_true rfl) (tw_member htr fx W hg (Nat.le_refl _) (Nat.le_refl _)) (kG_kk (fun a h' G => ?_)) (fun E h' G => ?_)
  · obtain ⟨H2, hw, wp⟩ := WP.ok (v := a) fx.2.2.1 tlL G rfl
    refine J_last dL_member_8 hw ?_
    refine J_goto (tgt := 24) dL_member_9 (by decide) ?_
    refine J_iconst (v := nI 0) dL_member_24 (by decide) ?_
    exact J_iret dL_member_25 rfl (Nat.le_of_ble_eq_true rfl) (Nat.le_of_ble_eq_true rfl) ⟨_, rfl, wp⟩
  · obtain ⟨k, k1, kb, rfl, Gx⟩ := kG_x G
    obtain rfl | rfl | rfl : k = 1 ∨ k = 2 ∨ k = 3 := by omega
    · refine ⟨12, ⟨[], (0, 9, 12, 13), [(0, 9, 16, 15), (0, 9, 20, 17)], rfl, fun _ h => absurd h List.not_mem_nil, by decide, by decide, by decide +kernel, by decide, by decide, rfl⟩, fun q => ?_⟩
      refine J_astore (i := 4) (lv' := [(4, .ref q), (0, .ref x), (1, .int a1), (2, .int a2), (3, .ref out)]) dL_member_12 (by decide) rfl ?_
      refine J_iconst (v := nI 1) dL_member_14 (by decide) ?_
      exact J_iret dL_member_15 rfl (Nat.le_of_ble_eq_true rfl) (Nat.le_of_ble_eq_true rfl) ⟨_, rfl, WP.ex tlL (Gx 0) (by decide) (by decide)⟩
    · refine ⟨16, ⟨[(0, 9, 12, 13)], (0, 9, 16, 15), [(0, 9, 20, 17)], rfl, List.forall_mem_cons.mpr ⟨⟨by decide, by decide, "java/lang/IndexOutOfBoundsException", by decide +kernel, by decide, by decide⟩, fun _ h => absurd h List.not_mem_nil⟩, by decide, by decide, by decide +kernel, by decide, by decide, rfl⟩, fun q => ?_⟩
      refine J_astore (i := 4) (lv' := [(4, .ref q), (0, .ref x), (1, .int a1), (2, .int a2), (3, .ref out)]) dL_member_16 (by decide) rfl ?_
      refine J_iconst (v := nI 2) dL_member_18 (by decide) ?_
      exact J_iret dL_member_19 rfl (Nat.le_of_ble_eq_true rfl) (Nat.le_of_ble_eq_true rfl) ⟨_, rfl, WP.ex tlL (Gx 0) (by decide) (by decide)⟩
    · refine ⟨20, ⟨[(0, 9, 12, 13), (0, 9, 16, 15)], (0, 9, 20, 17), [], rfl, List.forall_mem_cons.mpr ⟨⟨by decide, by decide, "java/lang/IndexOutOfBoundsException", by decide +kernel, by decide, by decide⟩, List.forall_mem_cons.mpr ⟨⟨by decide, by decide, "java/lang/IllegalArgumentException", by decide +kernel, by decide, by decide⟩, fun _ h => absurd h List.not_mem_nil⟩⟩, by decide, by decide, by decide +kernel, by decide, by decide, rfl⟩, fun q => ?_⟩
      refine J_astore (i := 4) (lv' := [(4, .ref q), (0, .ref x), (1, .int a1), (2, .int a2), (3, .ref out)]) dL_member_20 (by decide) rfl ?_
      refine J_iconst (v := nI 3) dL_member_22 (by decide) ?_
      exact J_iret dL_member_23 rfl (Nat.le_of_ble_eq_true rfl) (Nat.le_of_ble_eq_true rfl) ⟨_, rfl, WP.ex tlL (Gx 0) (by decide) (by decide)⟩
set_option maxRecDepth 100000 in
set_option maxHeartbeats 4000000 in
theorem lw_remove {a1 : Int32} {a2 : Int64} (htr : l.stackTraces = false) (fx : FX F m out am) (W : WS K F x m out am H g k0) (hg : g + 1 < 2 ^ 20) :
    MX l K yL_remove wsL_remove 9 169 40 1200 [.ref x, .int a1, .long a2, .ref out] H (kI fun k H2 => WP .int K F x m out am (g + 1) (mX4_remove l K (.ref m :: [.int a1, .long a2])) tlZ k H2) := by
  refine MX.enterH htr (by decide) rfl (Nat.le_of_ble_eq_true rfl) ?_
  refine J_lveq (lv' := [(0, .ref x), (1, .int a1), (2, .long a2), (4, .ref out)]) rfl ?_
  refine J_aload dL_remove_0 3 rfl ?_
  refine J_iconst (v := nI 0) dL_remove_2 (by decide) ?_
  refine J_aload_n dL_remove_3 0 rfl ?_
  refine J_iload_n dL_remove_4 1 rfl ?_
  refine J_lload_n dL_remove_5 2 rfl ?_
  refine J_callVc (ci := 3) (n := 2) (As := [.int a1, .long a2]) (rest := [.int (nI 0), .ref out]) dL_remove_6 rfl gL_remove_X3_remove rfl (by decide +kernel) rfl (by decide) W.ob (Nat.le_of_ble_eq_true rfl) (Nat.le_of_ble_eq_true rfl) (Nat.le_of_ble_eq_true rfl) (tw_remove htr fx W hg (Nat.le_refl _) (Nat.le_refl _)) (kIX_kk (fun a h' G => ?_)) (fun E h' G => ?_)
  · refine J_if_eq (tgt := 16) dL_remove_9 (by decide) (fun c => ?_) (fun c => ?_)
    · refine J_lconst (v := 0) dL_remove_16 (by decide) ?_
      obtain ⟨H2, hw, wp⟩ := WP.ok (v := 0) fx.2.2.1 tlZ G (by rw [tlZ, if_pos c])
      refine J_last dL_remove_17 hw ?_
      refine J_goto (tgt := 33) dL_remove_18 (by decide) ?_
      refine J_iconst (v := nI 0) dL_remove_33 (by decide) ?_
      exact J_iret dL_remove_34 rfl (Nat.le_of_ble_eq_true rfl) (Nat.le_of_ble_eq_true rfl) ⟨_, rfl, wp⟩
    · refine J_lconst (v := 1) dL_remove_12 (by decide) ?_
      refine J_goto (tgt := 17) dL_remove_13 (by decide) ?_
      obtain ⟨H2, hw, wp⟩ := WP.ok (v := 1) fx.2.2.1 tlZ G (by rw [tlZ, if_neg c])
      refine J_last dL_remove_17 hw ?_
      refine J_goto (tgt := 33) dL_remove_18 (by decide) ?_
      refine J_iconst (v := nI 0) dL_remove_33 (by decide) ?_
      exact J_iret dL_remove_34 rfl (Nat.le_of_ble_eq_true rfl) (Nat.le_of_ble_eq_true rfl) ⟨_, rfl, wp⟩
  · obtain ⟨k, k1, kb, rfl, Gx⟩ := kIX_x G
    obtain rfl | rfl | rfl : k = 1 ∨ k = 2 ∨ k = 3 := by omega
    · refine ⟨21, ⟨[], (0, 18, 21, 13), [(0, 18, 25, 15), (0, 18, 29, 17)], rfl, fun _ h => absurd h List.not_mem_nil, by decide, by decide, by decide +kernel, by decide, by decide, rfl⟩, fun q => ?_⟩
      refine J_astore (i := 5) (lv' := [(5, .ref q), (0, .ref x), (1, .int a1), (2, .long a2), (4, .ref out)]) dL_remove_21 (by decide) rfl ?_
      refine J_iconst (v := nI 1) dL_remove_23 (by decide) ?_
      exact J_iret dL_remove_24 rfl (Nat.le_of_ble_eq_true rfl) (Nat.le_of_ble_eq_true rfl) ⟨_, rfl, WP.ex tlZ (Gx 0) (by decide) (by decide)⟩
    · refine ⟨25, ⟨[(0, 18, 21, 13)], (0, 18, 25, 15), [(0, 18, 29, 17)], rfl, List.forall_mem_cons.mpr ⟨⟨by decide, by decide, "java/lang/IndexOutOfBoundsException", by decide +kernel, by decide, by decide⟩, fun _ h => absurd h List.not_mem_nil⟩, by decide, by decide, by decide +kernel, by decide, by decide, rfl⟩, fun q => ?_⟩
      refine J_astore (i := 5) (lv' := [(5, .ref q), (0, .ref x), (1, .int a1), (2, .long a2), (4, .ref out)]) dL_remove_25 (by decide) rfl ?_
      refine J_iconst (v := nI 2) dL_remove_27 (by decide) ?_
      exact J_iret dL_remove_28 rfl (Nat.le_of_ble_eq_true rfl) (Nat.le_of_ble_eq_true rfl) ⟨_, rfl, WP.ex tlZ (Gx 0) (by decide) (by decide)⟩
    · refine ⟨29, ⟨[(0, 18, 21, 13), (0, 18, 25, 15)], (0, 18, 29, 17), [], rfl, List.forall_mem_cons.mpr ⟨⟨by decide, by decide, "java/lang/IndexOutOfBoundsException", by decide +kernel, by decide, by decide⟩, List.forall_mem_cons.mpr ⟨⟨by decide, by decide, "java/lang/IllegalArgumentException", by decide +kernel, by decide, by decide⟩, fun _ h => absurd h List.not_mem_nil⟩⟩, by decide, by decide, by decide +kernel, by decide, by decide, rfl⟩, fun q => ?_⟩
      refine J_astore (i := 5) (lv' := [(5, .ref q), (0, .ref x), (1, .int a1), (2, .long a2), (4, .ref out)]) dL_remove_29 (by decide) rfl ?_
      refine J_iconst (v := nI 3) dL_remove_31 (by decide) ?_
      exact J_iret dL_remove_32 rfl (Nat.le_of_ble_eq_true rfl) (Nat.le_of_ble_eq_true rfl) ⟨_, rfl, WP.ex tlZ (Gx 0) (by decide) (by decide)⟩
set_option maxRecDepth 100000 in
set_option maxHeartbeats 4000000 in
theorem lw_fold {a1 : Int32} {a2 : Int64} (htr : l.stackTraces = false) (fx : FX F m out am) (W : WS K F x m out am H g k0) (hg : g + 1 < 2 ^ 20) :
    MX l K yL_fold wsL_fold 9 168 40 1200 [.ref x, .int a1, .long a2, .ref out] H (kI fun k H2 => WP .int K F x m out am (g + 1) (mX4_fold l K (.ref m :: [.int a1, .long a2])) tlI k H2) := by
  refine MX.enterH htr (by decide) rfl (Nat.le_of_ble_eq_true rfl) ?_
  refine J_lveq (lv' := [(0, .ref x), (1, .int a1), (2, .long a2), (4, .ref out)]) rfl ?_
  refine J_aload dL_fold_0 3 rfl ?_
  refine J_iconst (v := nI 0) dL_fold_2 (by decide) ?_
  refine J_aload_n dL_fold_3 0 rfl ?_
  refine J_iload_n dL_fold_4 1 rfl ?_
  refine J_lload_n dL_fold_5 2 rfl ?_
  refine J_callVc (ci := 3) (n := 2) (As := [.int a1, .long a2]) (rest := [.int (nI 0), .ref out]) dL_fold_6 rfl gL_fold_X3_fold rfl (by decide +kernel) rfl (by decide) W.ob (Nat.le_of_ble_eq_true rfl) (Nat.le_of_ble_eq_true rfl) (Nat.le_of_ble_eq_true rfl) (tw_fold htr fx W hg (Nat.le_refl _) (Nat.le_refl _)) (kIX_kk (fun a h' G => ?_)) (fun E h' G => ?_)
  · refine J_i2l dL_fold_9 ?_
    obtain ⟨H2, hw, wp⟩ := WP.ok (v := a.toInt64) fx.2.2.1 tlI G rfl
    refine J_last dL_fold_10 hw ?_
    refine J_goto (tgt := 26) dL_fold_11 (by decide) ?_
    refine J_iconst (v := nI 0) dL_fold_26 (by decide) ?_
    exact J_iret dL_fold_27 rfl (Nat.le_of_ble_eq_true rfl) (Nat.le_of_ble_eq_true rfl) ⟨_, rfl, wp⟩
  · obtain ⟨k, k1, kb, rfl, Gx⟩ := kIX_x G
    obtain rfl | rfl | rfl : k = 1 ∨ k = 2 ∨ k = 3 := by omega
    · refine ⟨14, ⟨[], (0, 11, 14, 13), [(0, 11, 18, 15), (0, 11, 22, 17)], rfl, fun _ h => absurd h List.not_mem_nil, by decide, by decide, by decide +kernel, by decide, by decide, rfl⟩, fun q => ?_⟩
      refine J_astore (i := 5) (lv' := [(5, .ref q), (0, .ref x), (1, .int a1), (2, .long a2), (4, .ref out)]) dL_fold_14 (by decide) rfl ?_
      refine J_iconst (v := nI 1) dL_fold_16 (by decide) ?_
      exact J_iret dL_fold_17 rfl (Nat.le_of_ble_eq_true rfl) (Nat.le_of_ble_eq_true rfl) ⟨_, rfl, WP.ex tlI (Gx 0) (by decide) (by decide)⟩
    · refine ⟨18, ⟨[(0, 11, 14, 13)], (0, 11, 18, 15), [(0, 11, 22, 17)], rfl, List.forall_mem_cons.mpr ⟨⟨by decide, by decide, "java/lang/IndexOutOfBoundsException", by decide +kernel, by decide, by decide⟩, fun _ h => absurd h List.not_mem_nil⟩, by decide, by decide, by decide +kernel, by decide, by decide, rfl⟩, fun q => ?_⟩
      refine J_astore (i := 5) (lv' := [(5, .ref q), (0, .ref x), (1, .int a1), (2, .long a2), (4, .ref out)]) dL_fold_18 (by decide) rfl ?_
      refine J_iconst (v := nI 2) dL_fold_20 (by decide) ?_
      exact J_iret dL_fold_21 rfl (Nat.le_of_ble_eq_true rfl) (Nat.le_of_ble_eq_true rfl) ⟨_, rfl, WP.ex tlI (Gx 0) (by decide) (by decide)⟩
    · refine ⟨22, ⟨[(0, 11, 14, 13), (0, 11, 18, 15)], (0, 11, 22, 17), [], rfl, List.forall_mem_cons.mpr ⟨⟨by decide, by decide, "java/lang/IndexOutOfBoundsException", by decide +kernel, by decide, by decide⟩, List.forall_mem_cons.mpr ⟨⟨by decide, by decide, "java/lang/IllegalArgumentException", by decide +kernel, by decide, by decide⟩, fun _ h => absurd h List.not_mem_nil⟩⟩, by decide, by decide, by decide +kernel, by decide, by decide, rfl⟩, fun q => ?_⟩
      refine J_astore (i := 5) (lv' := [(5, .ref q), (0, .ref x), (1, .int a1), (2, .long a2), (4, .ref out)]) dL_fold_22 (by decide) rfl ?_
      refine J_iconst (v := nI 3) dL_fold_24 (by decide) ?_
      exact J_iret dL_fold_25 rfl (Nat.le_of_ble_eq_true rfl) (Nat.le_of_ble_eq_true rfl) ⟨_, rfl, WP.ex tlI (Gx 0) (by decide) (by decide)⟩
set_option maxRecDepth 100000 in
set_option maxHeartbeats 4000000 in
theorem lw_size {a1 : Int32} (htr : l.stackTraces = false) (fx : FX F m out am) (W : WS K F x m out am H g k0) (hg : g + 1 < 2 ^ 20) :
    MX l K yL_size wsL_size 8 153 40 1200 [.ref x, .int a1, .ref out] H (kI fun k H2 => WP .int K F x m out am (g + 1) (mX4_size l K (.ref m :: [.int a1])) tlI k H2) := by
  refine MX.enterH htr (by decide) rfl (Nat.le_of_ble_eq_true rfl) ?_
  refine J_lveq (lv' := [(0, .ref x), (1, .int a1), (2, .ref out)]) rfl ?_
  refine J_aload_n dL_size_0 2 rfl ?_
  refine J_iconst (v := nI 0) dL_size_1 (by decide) ?_
  refine J_aload_n dL_size_2 0 rfl ?_
  refine J_iload_n dL_size_3 1 rfl ?_
  refine J_callVc (ci := 3) (n := 1) (As := [.int a1]) (rest := [.int (nI 0), .ref out]) dL_size_4 rfl gL_size_X3_size rfl (by decide +kernel) rfl (by decide) W.ob (Nat.le_of_ble_eq_true rfl) (Nat.le_of_ble_eq_true rfl) (Nat.le_of_ble_eq_true rfl) (tw_size htr fx W hg (Nat.le_refl _) (Nat.le_refl _)) (kG_kk (fun a h' G => ?_)) (fun E h' G => ?_)
  · refine J_i2l dL_size_7 ?_
    obtain ⟨H2, hw, wp⟩ := WP.ok (v := a.toInt64) fx.2.2.1 tlI G rfl
    refine J_last dL_size_8 hw ?_
    refine J_goto (tgt := 18) dL_size_9 (by decide) ?_
    refine J_iconst (v := nI 0) dL_size_18 (by decide) ?_
    exact J_iret dL_size_19 rfl (Nat.le_of_ble_eq_true rfl) (Nat.le_of_ble_eq_true rfl) ⟨_, rfl, wp⟩
  · obtain ⟨k, k1, kb, rfl, Gx⟩ := kG_x G
    obtain rfl | rfl : k = 1 ∨ k = 2 := by omega
    · refine ⟨12, ⟨[], (0, 9, 12, 13), [(0, 9, 15, 17)], rfl, fun _ h => absurd h List.not_mem_nil, by decide, by decide, by decide +kernel, by decide, by decide, rfl⟩, fun q => ?_⟩
      refine J_astore_n (i := 3) (lv' := [(3, .ref q), (0, .ref x), (1, .int a1), (2, .ref out)]) dL_size_12 rfl (by decide) rfl ?_
      refine J_iconst (v := nI 1) dL_size_13 (by decide) ?_
      exact J_iret dL_size_14 rfl (Nat.le_of_ble_eq_true rfl) (Nat.le_of_ble_eq_true rfl) ⟨_, rfl, WP.ex tlI (Gx 0) (by decide) (by decide)⟩
    · refine ⟨15, ⟨[(0, 9, 12, 13)], (0, 9, 15, 17), [], rfl, List.forall_mem_cons.mpr ⟨⟨by decide, by decide, "java/lang/IndexOutOfBoundsException", by decide +kernel, by decide, by decide⟩, fun _ h => absurd h List.not_mem_nil⟩, by decide, by decide, by decide +kernel, by decide, by decide, rfl⟩, fun q => ?_⟩
      refine J_astore_n (i := 3) (lv' := [(3, .ref q), (0, .ref x), (1, .int a1), (2, .ref out)]) dL_size_15 rfl (by decide) rfl ?_
      refine J_iconst (v := nI 2) dL_size_16 (by decide) ?_
      exact J_iret dL_size_17 rfl (Nat.le_of_ble_eq_true rfl) (Nat.le_of_ble_eq_true rfl) ⟨_, rfl, WP.ex tlI (Gx 0) (by decide) (by decide)⟩
set_option maxRecDepth 100000 in
set_option maxHeartbeats 4000000 in
theorem lw_clear {a1 : Int32} (htr : l.stackTraces = false) (fx : FX F m out am) (W : WS K F x m out am H g k0) (hg : g + 1 < 2 ^ 20) :
    MX l K yL_clear wsL_clear 8 166 40 1200 [.ref x, .int a1, .ref out] H (kI fun k H2 => WP .int K F x m out am (g + 1) (mX4_clear l K (.ref m :: [.int a1])) tlZ k H2) := by
  refine MX.enterH htr (by decide) rfl (Nat.le_of_ble_eq_true rfl) ?_
  refine J_lveq (lv' := [(0, .ref x), (1, .int a1), (2, .ref out)]) rfl ?_
  refine J_aload_n dL_clear_0 2 rfl ?_
  refine J_iconst (v := nI 0) dL_clear_1 (by decide) ?_
  refine J_aload_n dL_clear_2 0 rfl ?_
  refine J_iload_n dL_clear_3 1 rfl ?_
  refine J_callVc (ci := 3) (n := 1) (As := [.int a1]) (rest := [.int (nI 0), .ref out]) dL_clear_4 rfl gL_clear_X3_clear rfl (by decide +kernel) rfl (by decide) W.ob (Nat.le_of_ble_eq_true rfl) (Nat.le_of_ble_eq_true rfl) (Nat.le_of_ble_eq_true rfl) (tw_clear htr fx W hg (Nat.le_refl _) (Nat.le_refl _)) (kIX_kk (fun a h' G => ?_)) (fun E h' G => ?_)
  · refine J_if_eq (tgt := 14) dL_clear_7 (by decide) (fun c => ?_) (fun c => ?_)
    · refine J_lconst (v := 0) dL_clear_14 (by decide) ?_
      obtain ⟨H2, hw, wp⟩ := WP.ok (v := 0) fx.2.2.1 tlZ G (by rw [tlZ, if_pos c])
      refine J_last dL_clear_15 hw ?_
      refine J_goto (tgt := 25) dL_clear_16 (by decide) ?_
      refine J_iconst (v := nI 0) dL_clear_25 (by decide) ?_
      exact J_iret dL_clear_26 rfl (Nat.le_of_ble_eq_true rfl) (Nat.le_of_ble_eq_true rfl) ⟨_, rfl, wp⟩
    · refine J_lconst (v := 1) dL_clear_10 (by decide) ?_
      refine J_goto (tgt := 15) dL_clear_11 (by decide) ?_
      obtain ⟨H2, hw, wp⟩ := WP.ok (v := 1) fx.2.2.1 tlZ G (by rw [tlZ, if_neg c])
      refine J_last dL_clear_15 hw ?_
      refine J_goto (tgt := 25) dL_clear_16 (by decide) ?_
      refine J_iconst (v := nI 0) dL_clear_25 (by decide) ?_
      exact J_iret dL_clear_26 rfl (Nat.le_of_ble_eq_true rfl) (Nat.le_of_ble_eq_true rfl) ⟨_, rfl, wp⟩
  · obtain ⟨k, k1, kb, rfl, Gx⟩ := kIX_x G
    obtain rfl | rfl : k = 1 ∨ k = 2 := by omega
    · refine ⟨19, ⟨[], (0, 16, 19, 13), [(0, 16, 22, 17)], rfl, fun _ h => absurd h List.not_mem_nil, by decide, by decide, by decide +kernel, by decide, by decide, rfl⟩, fun q => ?_⟩
      refine J_astore_n (i := 3) (lv' := [(3, .ref q), (0, .ref x), (1, .int a1), (2, .ref out)]) dL_clear_19 rfl (by decide) rfl ?_
      refine J_iconst (v := nI 1) dL_clear_20 (by decide) ?_
      exact J_iret dL_clear_21 rfl (Nat.le_of_ble_eq_true rfl) (Nat.le_of_ble_eq_true rfl) ⟨_, rfl, WP.ex tlZ (Gx 0) (by decide) (by decide)⟩
    · refine ⟨22, ⟨[(0, 16, 19, 13)], (0, 16, 22, 17), [], rfl, List.forall_mem_cons.mpr ⟨⟨by decide, by decide, "java/lang/IndexOutOfBoundsException", by decide +kernel, by decide, by decide⟩, fun _ h => absurd h List.not_mem_nil⟩, by decide, by decide, by decide +kernel, by decide, by decide, rfl⟩, fun q => ?_⟩
      refine J_astore_n (i := 3) (lv' := [(3, .ref q), (0, .ref x), (1, .int a1), (2, .ref out)]) dL_clear_22 rfl (by decide) rfl ?_
      refine J_iconst (v := nI 2) dL_clear_23 (by decide) ?_
      exact J_iret dL_clear_24 rfl (Nat.le_of_ble_eq_true rfl) (Nat.le_of_ble_eq_true rfl) ⟨_, rfl, WP.ex tlZ (Gx 0) (by decide) (by decide)⟩
set_option maxRecDepth 100000 in
set_option maxHeartbeats 4000000 in
theorem lw_keys {a1 : Int32} (htr : l.stackTraces = false) (fx : FX F m out am) (W : WS K F x m out am H g k0) (hg : g + 1 < 2 ^ 20) :
    MX l K yL_keys wsL_keys 8 132 40 1200 [.ref x, .int a1, .ref out] H (kI fun k H2 => WP .int K F x m out am (g + 1) (mX4_keys l K (.ref m :: [.int a1])) tlI k H2) := by
  refine MX.enterH htr (by decide) rfl (Nat.le_of_ble_eq_true rfl) ?_
  refine J_lveq (lv' := [(0, .ref x), (1, .int a1), (2, .ref out)]) rfl ?_
  refine J_aload_n dL_keys_0 2 rfl ?_
  refine J_iconst (v := nI 0) dL_keys_1 (by decide) ?_
  refine J_aload_n dL_keys_2 0 rfl ?_
  refine J_iload_n dL_keys_3 1 rfl ?_
  refine J_callVc (ci := 3) (n := 1) (As := [.int a1]) (rest := [.int (nI 0), .ref out]) dL_keys_4 rfl gL_keys_X3_keys rfl (by decide +kernel) rfl (by decide) W.ob (Nat.le_of_ble_eq_true rfl) (Nat.le_of_ble_eq_true rfl) (Nat.le_of_ble_eq_true rfl) (tw_keys htr fx W hg (Nat.le_refl _) (Nat.le_refl _)) (kG_kk (fun a h' G => ?_)) (fun E h' G => ?_)
  · refine J_i2l dL_keys_7 ?_
    obtain ⟨H2, hw, wp⟩ := WP.ok (v := a.toInt64) fx.2.2.1 tlI G rfl
    refine J_last dL_keys_8 hw ?_
    refine J_goto (tgt := 15) dL_keys_9 (by decide) ?_
    refine J_iconst (v := nI 0) dL_keys_15 (by decide) ?_
    exact J_iret dL_keys_16 rfl (Nat.le_of_ble_eq_true rfl) (Nat.le_of_ble_eq_true rfl) ⟨_, rfl, wp⟩
  · obtain ⟨k, k1, kb, rfl, Gx⟩ := kG_x G
    obtain rfl : k = 1 := by omega
    refine ⟨12, ⟨[], (0, 9, 12, 13), [], rfl, fun _ h => absurd h List.not_mem_nil, by decide, by decide, by decide +kernel, by decide, by decide, rfl⟩, fun q => ?_⟩
    refine J_astore_n (i := 3) (lv' := [(3, .ref q), (0, .ref x), (1, .int a1), (2, .ref out)]) dL_keys_12 rfl (by decide) rfl ?_
    refine J_iconst (v := nI 1) dL_keys_13 (by decide) ?_
    exact J_iret dL_keys_14 rfl (Nat.le_of_ble_eq_true rfl) (Nat.le_of_ble_eq_true rfl) ⟨_, rfl, WP.ex tlI (Gx 0) (by decide) (by decide)⟩
set_option maxRecDepth 100000 in
set_option maxHeartbeats 4000000 in
theorem lw_keyAt {a1 : Int32} {a2 : Int32} (htr : l.stackTraces = false) (fx : FX F m out am) (W : WS K F x m out am H g k0) (hg : g + 1 < 2 ^ 20) :
    MX l K yL_keyAt wsL_keyAt 8 134 40 1200 [.ref x, .int a1, .int a2, .ref out] H (kI fun k H2 => WP .long K F x m out am (g + 1) (mX4_keyAt l K (.ref m :: [.int a1, .int a2])) tlL k H2) := by
  refine MX.enterH htr (by decide) rfl (Nat.le_of_ble_eq_true rfl) ?_
  refine J_lveq (lv' := [(0, .ref x), (1, .int a1), (2, .int a2), (3, .ref out)]) rfl ?_
  refine J_aload_n dL_keyAt_0 3 rfl ?_
  refine J_iconst (v := nI 0) dL_keyAt_1 (by decide) ?_
  refine J_aload_n dL_keyAt_2 0 rfl ?_
  refine J_iload_n dL_keyAt_3 1 rfl ?_
  refine J_iload_n dL_keyAt_4 2 rfl ?_
  refine J_callVc (ci := 3) (n := 2) (As := [.int a1, .int a2]) (rest := [.int (nI 0), .ref out]) dL_keyAt_5 rfl gL_keyAt_X3_keyAt rfl (by decide +kernel) rfl (by decide) W.ob (Nat.le_of_ble_eq_true rfl) (Nat.le_of_ble_eq_true rfl) (Nat.le_of_ble_eq_true rfl) (tw_keyAt htr fx W hg (Nat.le_refl _) (Nat.le_refl _)) (kG_kk (fun a h' G => ?_)) (fun E h' G => ?_)
  · obtain ⟨H2, hw, wp⟩ := WP.ok (v := a) fx.2.2.1 tlL G rfl
    refine J_last dL_keyAt_8 hw ?_
    refine J_goto (tgt := 16) dL_keyAt_9 (by decide) ?_
    refine J_iconst (v := nI 0) dL_keyAt_16 (by decide) ?_
    exact J_iret dL_keyAt_17 rfl (Nat.le_of_ble_eq_true rfl) (Nat.le_of_ble_eq_true rfl) ⟨_, rfl, wp⟩
  · obtain ⟨k, k1, kb, rfl, Gx⟩ := kG_x G
    obtain rfl : k = 1 := by omega
    refine ⟨12, ⟨[], (0, 9, 12, 13), [], rfl, fun _ h => absurd h List.not_mem_nil, by decide, by decide, by decide +kernel, by decide, by decide, rfl⟩, fun q => ?_⟩
    refine J_astore (i := 4) (lv' := [(4, .ref q), (0, .ref x), (1, .int a1), (2, .int a2), (3, .ref out)]) dL_keyAt_12 (by decide) rfl ?_
    refine J_iconst (v := nI 1) dL_keyAt_14 (by decide) ?_
    exact J_iret dL_keyAt_15 rfl (Nat.le_of_ble_eq_true rfl) (Nat.le_of_ble_eq_true rfl) ⟨_, rfl, WP.ex tlL (Gx 0) (by decide) (by decide)⟩
set_option maxRecDepth 100000 in
set_option maxHeartbeats 4000000 in
theorem lw_drop {a1 : Int32} (htr : l.stackTraces = false) (fx : FX F m out am) (W : WS K F x m out am H g k0) (hg : g + 1 < 2 ^ 20) :
    MX l K yL_drop wsL_drop 8 134 40 1200 [.ref x, .int a1, .ref out] H (kI fun k H2 => WP .int K F x m out am (g + 1) (mX4_drop l K (.ref m :: [.int a1])) tlI k H2) := by
  refine MX.enterH htr (by decide) rfl (Nat.le_of_ble_eq_true rfl) ?_
  refine J_lveq (lv' := [(0, .ref x), (1, .int a1), (2, .ref out)]) rfl ?_
  refine J_aload_n dL_drop_0 2 rfl ?_
  refine J_iconst (v := nI 0) dL_drop_1 (by decide) ?_
  refine J_aload_n dL_drop_2 0 rfl ?_
  refine J_iload_n dL_drop_3 1 rfl ?_
  refine J_callVc (ci := 3) (n := 1) (As := [.int a1]) (rest := [.int (nI 0), .ref out]) dL_drop_4 rfl gL_drop_X3_drop rfl (by decide +kernel) rfl (by decide) W.ob (Nat.le_of_ble_eq_true rfl) (Nat.le_of_ble_eq_true rfl) (Nat.le_of_ble_eq_true rfl) (tw_drop htr fx W hg (Nat.le_refl _) (Nat.le_refl _)) (kIX_kk (fun a h' G => ?_)) (fun E h' G => ?_)
  · refine J_i2l dL_drop_7 ?_
    obtain ⟨H2, hw, wp⟩ := WP.ok (v := a.toInt64) fx.2.2.1 tlI G rfl
    refine J_last dL_drop_8 hw ?_
    refine J_goto (tgt := 15) dL_drop_9 (by decide) ?_
    refine J_iconst (v := nI 0) dL_drop_15 (by decide) ?_
    exact J_iret dL_drop_16 rfl (Nat.le_of_ble_eq_true rfl) (Nat.le_of_ble_eq_true rfl) ⟨_, rfl, wp⟩
  · obtain ⟨k, k1, kb, rfl, Gx⟩ := kIX_x G
    obtain rfl : k = 1 := by omega
    refine ⟨12, ⟨[], (0, 9, 12, 13), [], rfl, fun _ h => absurd h List.not_mem_nil, by decide, by decide, by decide +kernel, by decide, by decide, rfl⟩, fun q => ?_⟩
    refine J_astore_n (i := 3) (lv' := [(3, .ref q), (0, .ref x), (1, .int a1), (2, .ref out)]) dL_drop_12 rfl (by decide) rfl ?_
    refine J_iconst (v := nI 1) dL_drop_13 (by decide) ?_
    exact J_iret dL_drop_14 rfl (Nat.le_of_ble_eq_true rfl) (Nat.le_of_ble_eq_true rfl) ⟨_, rfl, WP.ex tlI (Gx 0) (by decide) (by decide)⟩
set_option maxRecDepth 100000 in
set_option maxHeartbeats 4000000 in
theorem lw_ask {a1 : Int32} {a2 : Int32} {a3 : Int64} {a4 : Int32} {a5 : Int32} (htr : l.stackTraces = false) (fx : FX F m out am) (W : WS K F x m out am H g k0) (hg : g + 1 < 2 ^ 20) :
    MX l K yL_ask wsL_ask9 9 161 40 1200 [.ref x, .int a1, .int a2, .long a3, .int a4, .int a5, .ref out] H (kI fun k H2 => WP .long K F x m out am (g + 1) (mX4_ask l K (.ref m :: [.int a1, .int a2, .long a3, .int a4, .int a5])) tlL k H2) := by
  refine MX.enterH htr (by decide) rfl (Nat.le_of_ble_eq_true rfl) ?_
  refine J_lveq (lv' := [(0, .ref x), (1, .int a1), (2, .int a2), (3, .long a3), (5, .int a4), (6, .int a5), (7, .ref out)]) rfl ?_
  refine J_aload dL_ask_0 6 rfl ?_
  refine J_iconst (v := nI 0) dL_ask_2 (by decide) ?_
  refine J_aload_n dL_ask_3 0 rfl ?_
  refine J_iload_n dL_ask_4 1 rfl ?_
  refine J_iload_n dL_ask_5 2 rfl ?_
  refine J_lload_n dL_ask_6 3 rfl ?_
  refine J_iload dL_ask_7 4 rfl ?_
  refine J_iload dL_ask_9 5 rfl ?_
  refine J_callVc (ci := 3) (n := 5) (As := [.int a1, .int a2, .long a3, .int a4, .int a5]) (rest := [.int (nI 0), .ref out]) dL_ask_11 rfl gL_ask_X3_ask9 rfl (by decide +kernel) rfl (by decide) W.ob (Nat.le_of_ble_eq_true rfl) (Nat.le_of_ble_eq_true rfl) (Nat.le_of_ble_eq_true rfl) (tw_ask htr fx W hg (Nat.le_refl _) (Nat.le_refl _)) (kG_kk (fun a h' G => ?_)) (fun E h' G => ?_)
  · obtain ⟨H2, hw, wp⟩ := WP.ok (v := a) fx.2.2.1 tlL G rfl
    refine J_last dL_ask_14 hw ?_
    refine J_goto (tgt := 26) dL_ask_15 (by decide) ?_
    refine J_iconst (v := nI 0) dL_ask_26 (by decide) ?_
    exact J_iret dL_ask_27 rfl (Nat.le_of_ble_eq_true rfl) (Nat.le_of_ble_eq_true rfl) ⟨_, rfl, wp⟩
  · obtain ⟨k, k1, kb, rfl, Gx⟩ := kG_x G
    obtain rfl | rfl : k = 1 ∨ k = 2 := by omega
    · refine ⟨18, ⟨[], (0, 15, 18, 13), [(0, 15, 22, 23)], rfl, fun _ h => absurd h List.not_mem_nil, by decide, by decide, by decide +kernel, by decide, by decide, rfl⟩, fun q => ?_⟩
      refine J_astore (i := 8) (lv' := [(8, .ref q), (0, .ref x), (1, .int a1), (2, .int a2), (3, .long a3), (5, .int a4), (6, .int a5), (7, .ref out)]) dL_ask_18 (by decide) rfl ?_
      refine J_iconst (v := nI 1) dL_ask_20 (by decide) ?_
      exact J_iret dL_ask_21 rfl (Nat.le_of_ble_eq_true rfl) (Nat.le_of_ble_eq_true rfl) ⟨_, rfl, WP.ex tlL (Gx 0) (by decide) (by decide)⟩
    · refine ⟨22, ⟨[(0, 15, 18, 13)], (0, 15, 22, 23), [], rfl, List.forall_mem_cons.mpr ⟨⟨by decide, by decide, "java/lang/IndexOutOfBoundsException", by decide +kernel, by decide, by decide⟩, fun _ h => absurd h List.not_mem_nil⟩, by decide, by decide, by decide +kernel, by decide, by decide, rfl⟩, fun q => ?_⟩
      refine J_astore (i := 8) (lv' := [(8, .ref q), (0, .ref x), (1, .int a1), (2, .int a2), (3, .long a3), (5, .int a4), (6, .int a5), (7, .ref out)]) dL_ask_22 (by decide) rfl ?_
      refine J_iconst (v := nI 2) dL_ask_24 (by decide) ?_
      exact J_iret dL_ask_25 rfl (Nat.le_of_ble_eq_true rfl) (Nat.le_of_ble_eq_true rfl) ⟨_, rfl, WP.ex tlL (Gx 0) (by decide) (by decide)⟩
set_option maxRecDepth 100000 in
set_option maxHeartbeats 4000000 in
theorem lw_entries {a1 : Int32} {a2 : Int32} (htr : l.stackTraces = false) (fx : FX F m out am) (W : WS K F x m out am H g k0) (hg : g + 1 < 2 ^ 20) :
    MX l K yL_entries wsL_entries 9 156 40 1200 [.ref x, .int a1, .int a2, .ref out] H (kI fun k H2 => WP .int K F x m out am (g + 1) (mX4_entries l K (.ref m :: [.int a1, .int a2])) tlI k H2) := by
  refine MX.enterH htr (by decide) rfl (Nat.le_of_ble_eq_true rfl) ?_
  refine J_lveq (lv' := [(0, .ref x), (1, .int a1), (2, .int a2), (3, .ref out)]) rfl ?_
  refine J_aload_n dL_entries_0 3 rfl ?_
  refine J_iconst (v := nI 0) dL_entries_1 (by decide) ?_
  refine J_aload_n dL_entries_2 0 rfl ?_
  refine J_iload_n dL_entries_3 1 rfl ?_
  refine J_iload_n dL_entries_4 2 rfl ?_
  refine J_callVc (ci := 3) (n := 2) (As := [.int a1, .int a2]) (rest := [.int (nI 0), .ref out]) dL_entries_5 rfl gL_entries_X3_entries rfl (by decide +kernel) rfl (by decide) W.ob (Nat.le_of_ble_eq_true rfl) (Nat.le_of_ble_eq_true rfl) (Nat.le_of_ble_eq_true rfl) (tw_entries htr fx W hg (Nat.le_refl _) (Nat.le_refl _)) (kG_kk (fun a h' G => ?_)) (fun E h' G => ?_)
  · refine J_i2l dL_entries_8 ?_
    obtain ⟨H2, hw, wp⟩ := WP.ok (v := a.toInt64) fx.2.2.1 tlI G rfl
    refine J_last dL_entries_9 hw ?_
    refine J_goto (tgt := 17) dL_entries_10 (by decide) ?_
    refine J_iconst (v := nI 0) dL_entries_17 (by decide) ?_
    exact J_iret dL_entries_18 rfl (Nat.le_of_ble_eq_true rfl) (Nat.le_of_ble_eq_true rfl) ⟨_, rfl, wp⟩
  · obtain ⟨k, k1, kb, rfl, Gx⟩ := kG_x G
    obtain rfl : k = 1 := by omega
    refine ⟨13, ⟨[], (0, 10, 13, 13), [], rfl, fun _ h => absurd h List.not_mem_nil, by decide, by decide, by decide +kernel, by decide, by decide, rfl⟩, fun q => ?_⟩
    refine J_astore (i := 4) (lv' := [(4, .ref q), (0, .ref x), (1, .int a1), (2, .int a2), (3, .ref out)]) dL_entries_13 (by decide) rfl ?_
    refine J_iconst (v := nI 1) dL_entries_15 (by decide) ?_
    exact J_iret dL_entries_16 rfl (Nat.le_of_ble_eq_true rfl) (Nat.le_of_ble_eq_true rfl) ⟨_, rfl, WP.ex tlI (Gx 0) (by decide) (by decide)⟩
set_option maxRecDepth 100000 in
set_option maxHeartbeats 4000000 in
theorem lw_restore {a1 : Int32} (htr : l.stackTraces = false) (fx : FX F m out am) (W : WS K F x m out am H g k0) (hg : g + 1 < 2 ^ 20) :
    MX l K yL_restore wsL_restore 8 133 40 1200 [.ref x, .int a1, .ref out] H (kI fun k H2 => WP .int K F x m out am (g + 1) (mX4_restore l K (.ref m :: [.int a1])) tlI k H2) := by
  refine MX.enterH htr (by decide) rfl (Nat.le_of_ble_eq_true rfl) ?_
  refine J_lveq (lv' := [(0, .ref x), (1, .int a1), (2, .ref out)]) rfl ?_
  refine J_aload_n dL_restore_0 2 rfl ?_
  refine J_iconst (v := nI 0) dL_restore_1 (by decide) ?_
  refine J_aload_n dL_restore_2 0 rfl ?_
  refine J_iload_n dL_restore_3 1 rfl ?_
  refine J_callVc (ci := 3) (n := 1) (As := [.int a1]) (rest := [.int (nI 0), .ref out]) dL_restore_4 rfl gL_restore_X3_restore rfl (by decide +kernel) rfl (by decide) W.ob (Nat.le_of_ble_eq_true rfl) (Nat.le_of_ble_eq_true rfl) (Nat.le_of_ble_eq_true rfl) (tw_restore htr fx W hg (Nat.le_refl _) (Nat.le_refl _)) (kIX_kk (fun a h' G => ?_)) (fun E h' G => ?_)
  · refine J_i2l dL_restore_7 ?_
    obtain ⟨H2, hw, wp⟩ := WP.ok (v := a.toInt64) fx.2.2.1 tlI G rfl
    refine J_last dL_restore_8 hw ?_
    refine J_goto (tgt := 15) dL_restore_9 (by decide) ?_
    refine J_iconst (v := nI 0) dL_restore_15 (by decide) ?_
    exact J_iret dL_restore_16 rfl (Nat.le_of_ble_eq_true rfl) (Nat.le_of_ble_eq_true rfl) ⟨_, rfl, wp⟩
  · obtain ⟨k, k1, kb, rfl, Gx⟩ := kIX_x G
    obtain rfl : k = 1 := by omega
    refine ⟨12, ⟨[], (0, 9, 12, 13), [], rfl, fun _ h => absurd h List.not_mem_nil, by decide, by decide, by decide +kernel, by decide, by decide, rfl⟩, fun q => ?_⟩
    refine J_astore_n (i := 3) (lv' := [(3, .ref q), (0, .ref x), (1, .int a1), (2, .ref out)]) dL_restore_12 rfl (by decide) rfl ?_
    refine J_iconst (v := nI 1) dL_restore_13 (by decide) ?_
    exact J_iret dL_restore_14 rfl (Nat.le_of_ble_eq_true rfl) (Nat.le_of_ble_eq_true rfl) ⟨_, rfl, WP.ex tlI (Gx 0) (by decide) (by decide)⟩
set_option maxRecDepth 100000 in
set_option maxHeartbeats 4000000 in
theorem lw_move {a1 : Int32} {a2 : Int32} {a3 : Int32} (htr : l.stackTraces = false) (fx : FX F m out am) (W : WS K F x m out am H g k0) (hg : g + 1 < 2 ^ 20) :
    MX l K yL_move wsL_move 8 180 400 7000 [.ref x, .int a1, .int a2, .int a3, .ref out] H (kI fun k H2 => WP .int K F x m out am (g + 1) (mX4_move l K (.ref m :: [.int a1, .int a2, .int a3])) tlI k H2) := by
  refine MX.enterH htr (by decide) rfl (Nat.le_of_ble_eq_true rfl) ?_
  refine J_lveq (lv' := [(0, .ref x), (1, .int a1), (2, .int a2), (3, .int a3), (4, .ref out)]) rfl ?_
  refine J_aload dL_move_0 4 rfl ?_
  refine J_iconst (v := nI 0) dL_move_2 (by decide) ?_
  refine J_aload_n dL_move_3 0 rfl ?_
  refine J_iload_n dL_move_4 1 rfl ?_
  refine J_iload_n dL_move_5 2 rfl ?_
  refine J_iload_n dL_move_6 3 rfl ?_
  refine J_callVc (ci := 3) (n := 3) (As := [.int a1, .int a2, .int a3]) (rest := [.int (nI 0), .ref out]) dL_move_7 rfl gL_move_X3_move rfl (by decide +kernel) rfl (by decide) W.ob (Nat.le_of_ble_eq_true rfl) (Nat.le_of_ble_eq_true rfl) (Nat.le_of_ble_eq_true rfl) (tw_move htr fx W hg (Nat.le_refl _) (Nat.le_refl _)) (kIX_kk (fun a h' G => ?_)) (fun E h' G => ?_)
  · refine J_i2l dL_move_10 ?_
    obtain ⟨H2, hw, wp⟩ := WP.ok (v := a.toInt64) fx.2.2.1 tlI G rfl
    refine J_last dL_move_11 hw ?_
    refine J_goto (tgt := 19) dL_move_12 (by decide) ?_
    refine J_iconst (v := nI 0) dL_move_19 (by decide) ?_
    exact J_iret dL_move_20 rfl (Nat.le_of_ble_eq_true rfl) (Nat.le_of_ble_eq_true rfl) ⟨_, rfl, wp⟩
  · obtain ⟨k, k1, kb, rfl, Gx⟩ := kIX_x G
    obtain rfl : k = 1 := by omega
    refine ⟨15, ⟨[], (0, 12, 15, 13), [], rfl, fun _ h => absurd h List.not_mem_nil, by decide, by decide, by decide +kernel, by decide, by decide, rfl⟩, fun q => ?_⟩
    refine J_astore (i := 5) (lv' := [(5, .ref q), (0, .ref x), (1, .int a1), (2, .int a2), (3, .int a3), (4, .ref out)]) dL_move_15 (by decide) rfl ?_
    refine J_iconst (v := nI 1) dL_move_17 (by decide) ?_
    exact J_iret dL_move_18 rfl (Nat.le_of_ble_eq_true rfl) (Nat.le_of_ble_eq_true rfl) ⟨_, rfl, WP.ex tlI (Gx 0) (by decide) (by decide)⟩
set_option maxRecDepth 100000 in
set_option maxHeartbeats 4000000 in
theorem lw_of {a1 : Int32} {a2 : Int32} (htr : l.stackTraces = false) (fx : FX F m out am) (W : WS K F x m out am H g k0) (hg : g + 1 < 2 ^ 20) :
    MX l K yL_of wsL_of 8 133 40 1200 [.ref x, .int a1, .int a2, .ref out] H (kI fun k H2 => WP .int K F x m out am (g + 1) (mX4_of l K (.ref m :: [.int a1, .int a2])) tlI k H2) := by
  refine MX.enterH htr (by decide) rfl (Nat.le_of_ble_eq_true rfl) ?_
  refine J_lveq (lv' := [(0, .ref x), (1, .int a1), (2, .int a2), (3, .ref out)]) rfl ?_
  refine J_aload_n dL_of_0 3 rfl ?_
  refine J_iconst (v := nI 0) dL_of_1 (by decide) ?_
  refine J_aload_n dL_of_2 0 rfl ?_
  refine J_iload_n dL_of_3 1 rfl ?_
  refine J_iload_n dL_of_4 2 rfl ?_
  refine J_callVc (ci := 3) (n := 2) (As := [.int a1, .int a2]) (rest := [.int (nI 0), .ref out]) dL_of_5 rfl gL_of_X3_of rfl (by decide +kernel) rfl (by decide) W.ob (Nat.le_of_ble_eq_true rfl) (Nat.le_of_ble_eq_true rfl) (Nat.le_of_ble_eq_true rfl) (tw_of htr fx W hg (Nat.le_refl _) (Nat.le_refl _)) (kG_kk (fun a h' G => ?_)) (fun E h' G => ?_)
  · refine J_i2l dL_of_8 ?_
    obtain ⟨H2, hw, wp⟩ := WP.ok (v := a.toInt64) fx.2.2.1 tlI G rfl
    refine J_last dL_of_9 hw ?_
    refine J_goto (tgt := 17) dL_of_10 (by decide) ?_
    refine J_iconst (v := nI 0) dL_of_17 (by decide) ?_
    exact J_iret dL_of_18 rfl (Nat.le_of_ble_eq_true rfl) (Nat.le_of_ble_eq_true rfl) ⟨_, rfl, wp⟩
  · obtain ⟨k, k1, kb, rfl, Gx⟩ := kG_x G
    obtain rfl : k = 1 := by omega
    refine ⟨13, ⟨[], (0, 10, 13, 13), [], rfl, fun _ h => absurd h List.not_mem_nil, by decide, by decide, by decide +kernel, by decide, by decide, rfl⟩, fun q => ?_⟩
    refine J_astore (i := 4) (lv' := [(4, .ref q), (0, .ref x), (1, .int a1), (2, .int a2), (3, .ref out)]) dL_of_13 (by decide) rfl ?_
    refine J_iconst (v := nI 1) dL_of_15 (by decide) ?_
    exact J_iret dL_of_16 rfl (Nat.le_of_ble_eq_true rfl) (Nat.le_of_ble_eq_true rfl) ⟨_, rfl, WP.ex tlI (Gx 0) (by decide) (by decide)⟩
end Wr
