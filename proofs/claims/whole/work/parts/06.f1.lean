set_option maxRecDepth 20000 in
theorem in_X1_isShared_1 : ∀ w ∈ u_ws RX1 TX1 2, w ∈ wsX1_isShared := by decide +kernel
set_option maxRecDepth 20000 in
theorem lk_X1_isShared_17 : Cond.fieldLink RX1 17 (TX1 1).1 (TX1 1).2.1 (TX1 1).2.2.1 ∈ wsX1_isShared := by decide +kernel
set_option maxRecDepth 20000 in
theorem in_X0_isAt_0 : ∀ w ∈ u_ws RX0 TX0 6, w ∈ wsX0_isAt := by decide +kernel
set_option maxRecDepth 20000 in
theorem lk_X0_isAt_19 : Cond.fieldLink RX0 19 (TX0 2).1 (TX0 2).2.1 (TX0 2).2.2.1 ∈ wsX0_isAt := by decide +kernel
set_option maxRecDepth 20000 in
theorem lk_X0_isAt_15 : Cond.fieldLink RX0 15 (TX0 1).1 (TX0 1).2.1 (TX0 1).2.2.1 ∈ wsX0_isAt := by decide +kernel
set_option maxRecDepth 20000 in
theorem lk_X0_isAt_9 : Cond.fieldLink RX0 9 (TX0 0).1 (TX0 0).2.1 (TX0 0).2.2.1 ∈ wsX0_isAt := by decide +kernel
set_option maxRecDepth 20000 in
theorem in_X1_rowOf_1 : ∀ w ∈ u_ws RX1 TX1 2, w ∈ wsX1_rowOf := by decide +kernel
set_option maxRecDepth 20000 in
theorem lk_X1_rowOf_11 : Cond.fieldLink RX1 11 (TX1 0).1 (TX1 0).2.1 (TX1 0).2.2.1 ∈ wsX1_rowOf := by decide +kernel
set_option maxRecDepth 20000 in
theorem in_X0_isNone_0 : ∀ w ∈ u_ws RX0 TX0 6, w ∈ wsX0_isNone := by decide +kernel
set_option maxRecDepth 20000 in
theorem lk_X0_isNone_26 : Cond.fieldLink RX0 26 (TX0 3).1 (TX0 3).2.1 (TX0 3).2.2.1 ∈ wsX0_isNone := by decide +kernel
set_option maxRecDepth 20000 in
theorem in_X0_hasMember_0 : ∀ w ∈ u_ws RX0 TX0 6, w ∈ wsX0_hasMember := by decide +kernel
set_option maxRecDepth 20000 in
theorem lk_X0_hasMember_29 : Cond.fieldLink RX0 29 (TX0 4).1 (TX0 4).2.1 (TX0 4).2.2.1 ∈ wsX0_hasMember := by decide +kernel
set_option maxRecDepth 20000 in
theorem in_X1_init_1 : ∀ w ∈ u_ws RX1 TX1 2, w ∈ wsX1_init := by decide +kernel
set_option maxRecDepth 20000 in
theorem lk_X1_init_17 : Cond.fieldLink RX1 17 (TX1 1).1 (TX1 1).2.1 (TX1 1).2.2.1 ∈ wsX1_init := by decide +kernel
set_option maxRecDepth 20000 in
theorem lk_X1_init_11 : Cond.fieldLink RX1 11 (TX1 0).1 (TX1 0).2.1 (TX1 0).2.2.1 ∈ wsX1_init := by decide +kernel
set_option maxRecDepth 20000 in
theorem wd_X1_init_k9 : Cond.classLink RX1 9 RX0 ∈ wsX1_init := by decide +kernel
set_option maxRecDepth 20000 in
theorem wd_X1_init_m3 : Cond.methodLink RX1 3 Lib.objectInit ∈ wsX1_init := by decide +kernel
set_option maxRecDepth 20000 in
theorem wd_X1_init_oi : Cond.instanceMethod Lib.objectInit ∈ wsX1_init := by decide +kernel
set_option maxRecDepth 20000 in
theorem wd_X1_init_oc : Cond.code Lib.objectInit ⟨#[0xb1]⟩ 1 none ∈ wsX1_init := by decide +kernel
abbrev mX1_isShared (l : Launch) (K : Kx) (As : List Value) (h : Hp) (Post : Rs → Hp → Prop) : Prop := MX l K yX1_isShared wsX1_isShared 0 0 0 0 As h Post
set_option maxRecDepth 100000 in
set_option maxHeartbeats 4000000 in
theorem fX1_isShared {l : Launch} {K : Kx} {a0 : Nat} {h : Hp} {Post : Rs → Hp → Prop} (htr : l.stackTraces = false)
    (F : (∃ v1, gf h a0 1 1 = some (.int v1) ∧ ((v1 ≤ nI 0 → (Post (.inl (some (.int (nI 0)))) h)) ∧ (¬ v1 ≤ nI 0 → (Post (.inl (some (.int (nI 1)))) h))))) :
    mX1_isShared l K [.ref a0] h Post := by
  refine MX.enter htr (by decide) rfl (Nat.le_of_ble_eq_true rfl) ?_
  refine J_lveq (lv' := [(0, .ref a0)]) rfl ?_
  refine J_aload_n dX1_isShared_0 0 rfl ?_
  obtain ⟨v1, g9, F⟩ := F
  refine J_get (ci := 1) (k := 1) dX1_isShared_1 rfl in_X1_isShared_1 (by decide) lk_X1_isShared_17 g9 ?_
  refine J_if_le (tgt := 11) dX1_isShared_4 (by decide) (fun c => ?_) (fun c => ?_)
  · replace F := F.1 c
    refine J_iconst (v := nI 0) dX1_isShared_11 (by decide) ?_
    exact J_zret dX1_isShared_12 rfl (by decide) (Nat.le_refl _) (Nat.le_refl _) F
  · replace F := F.2 c
    refine J_iconst (v := nI 1) dX1_isShared_7 (by decide) ?_
    refine J_goto (tgt := 12) dX1_isShared_8 (by decide) ?_
    exact J_zret dX1_isShared_12 rfl (by decide) (Nat.le_refl _) (Nat.le_refl _) F

abbrev mX0_isAt (l : Launch) (K : Kx) (As : List Value) (h : Hp) (Post : Rs → Hp → Prop) : Prop := MX l K yX0_isAt wsX0_isAt 0 0 0 0 As h Post
set_option maxRecDepth 100000 in
set_option maxHeartbeats 4000000 in
theorem fX0_isAt {l : Launch} {K : Kx} {a0 : Nat} {x1 : Int32} {x2 : Int64} {x3 : Int32} {h : Hp} {Post : Rs → Hp → Prop} (htr : l.stackTraces = false)
    (F : (∃ v1, gf h a0 0 0 = some (.int v1) ∧ ((¬ v1 = x1 → (Post (.inl (some (.int (nI 0)))) h)) ∧ (v1 = x1 → (∃ u2, gf h a0 0 1 = some (.long u2) ∧ ((¬ u2 = x2 → (Post (.inl (some (.int (nI 0)))) h)) ∧ (u2 = x2 → (∃ v3, gf h a0 0 2 = some (.int v3) ∧ ((¬ v3 = x3 → (Post (.inl (some (.int (nI 0)))) h)) ∧ (v3 = x3 → (Post (.inl (some (.int (nI 1)))) h))))))))))) :
    mX0_isAt l K [.ref a0, .int x1, .long x2, .int x3] h Post := by
  refine MX.enter htr (by decide) rfl (Nat.le_of_ble_eq_true rfl) ?_
  refine J_lveq (lv' := [(0, .ref a0), (1, .int x1), (2, .long x2), (4, .int x3)]) rfl ?_
  refine J_aload_n dX0_isAt_0 0 rfl ?_
  obtain ⟨v1, g9, F⟩ := F
  refine J_get (ci := 0) (k := 0) dX0_isAt_1 rfl in_X0_isAt_0 (by decide) lk_X0_isAt_9 g9 ?_
  refine J_iload_n dX0_isAt_4 1 rfl ?_
  refine J_icmp_ne (tgt := 30) dX0_isAt_5 (by decide) (fun c => ?_) (fun c => ?_)
  · replace F := F.1 c
    refine J_iconst (v := nI 0) dX0_isAt_30 (by decide) ?_
    exact J_zret dX0_isAt_31 rfl (by decide) (Nat.le_refl _) (Nat.le_refl _) F
  · replace F := F.2 c
    refine J_aload_n dX0_isAt_8 0 rfl ?_
    obtain ⟨u2, g9, F⟩ := F
    refine J_get (ci := 0) (k := 1) dX0_isAt_9 rfl in_X0_isAt_0 (by decide) lk_X0_isAt_15 g9 ?_
    refine J_lload_n dX0_isAt_12 2 rfl ?_
    refine J_lcmp dX0_isAt_13 ?_
    refine J_if_ne (tgt := 30) dX0_isAt_14 (by decide) (fun c => ?_) (fun c => ?_)
    · replace F := F.1 (fun e9 => c ((lg_cmp_eq _ _).mpr e9))
      refine J_iconst (v := nI 0) dX0_isAt_30 (by decide) ?_
      exact J_zret dX0_isAt_31 rfl (by decide) (Nat.le_refl _) (Nat.le_refl _) F
    · replace F := F.2 ((lg_cmp_eq _ _).mp c)
      refine J_aload_n dX0_isAt_17 0 rfl ?_
      obtain ⟨v3, g9, F⟩ := F
      refine J_get (ci := 0) (k := 2) dX0_isAt_18 rfl in_X0_isAt_0 (by decide) lk_X0_isAt_19 g9 ?_
      refine J_iload dX0_isAt_21 3 rfl ?_
      refine J_icmp_ne (tgt := 30) dX0_isAt_23 (by decide) (fun c => ?_) (fun c => ?_)
      · replace F := F.1 c
        refine J_iconst (v := nI 0) dX0_isAt_30 (by decide) ?_
        exact J_zret dX0_isAt_31 rfl (by decide) (Nat.le_refl _) (Nat.le_refl _) F
      · replace F := F.2 c
        refine J_iconst (v := nI 1) dX0_isAt_26 (by decide) ?_
        refine J_goto (tgt := 31) dX0_isAt_27 (by decide) ?_
        exact J_zret dX0_isAt_31 rfl (by decide) (Nat.le_refl _) (Nat.le_refl _) F

abbrev mX1_rowOf (l : Launch) (K : Kx) (As : List Value) (h : Hp) (Post : Rs → Hp → Prop) : Prop := MX l K yX1_rowOf wsX1_rowOf 1 24 0 0 As h Post
set_option maxRecDepth 100000 in
set_option maxHeartbeats 4000000 in
theorem fX1_rowOf {l : Launch} {K : Kx} {a0 : Nat} {x1 : Int32} {x2 : Int64} {x3 : Int32} {h : Hp} {Post : Rs → Hp → Prop} (htr : l.stackTraces = false)
    (F : (∀ X3 : Int32 → Hp → Prop, (∀ (i1 : Int32) (h2 : Hp), ((∃ p4, gf h2 a0 1 0 = some (.ref p4) ∧ (∃ n5, alen K 3 h2 p4 = some n5 ∧ ((n5 ≤ i1 → (Post (.inl (some (.int (-nI 1)))) h2)) ∧ (¬ n5 ≤ i1 → (∃ p6, gf h2 a0 1 0 = some (.ref p6) ∧ (∃ o7, aQ K 3 h2 p6 i1 = some o7 ∧ ((o7 = none → X3 (i1 + nI 1) h2) ∧ (∀ a8, o7 = some a8 → (∃ p9, gf h2 a0 1 0 = some (.ref p9) ∧ (∃ o10, aQ K 3 h2 p9 i1 = some o10 ∧ (∃ a11, o10 = some a11 ∧ ((∃ fs, h2 a11 = some (xO 0 fs)) ∧ mX0_isAt l K [.ref a11, .int x1, .long x2, .int x3] h2 (kI (fun v13 h12 => ((v13 = nI 0 → X3 (i1 + nI 1) h12) ∧ (¬ v13 = nI 0 → (Post (.inl (some (.int i1))) h12)))))))))))))))))) → X3 i1 h2) → X3 (nI 0) h)) :
    mX1_rowOf l K [.ref a0, .int x1, .long x2, .int x3] h Post := by
  refine MX.enter htr (by decide) rfl (Nat.le_of_ble_eq_true rfl) ?_
  refine J_lveq (lv' := [(0, .ref a0), (1, .int x1), (2, .long x2), (4, .int x3)]) rfl ?_
  refine J_iconst (v := nI 0) dX1_rowOf_0 (by decide) ?_
  refine J_istore (lv' := [(5, .int (nI 0)), (0, .ref a0), (1, .int x1), (2, .long x2), (4, .int x3)]) dX1_rowOf_1 (by decide) rfl ?_
  refine J_sub [1, 2, 3, 4, 0] rfl ?_
  refine F (fun (i1 : Int32) (h2 : Hp) => J l K yX1_rowOf.cls cX1_rowOf 6 (some .int) wsX1_rowOf [] yX1_rowOf.name 1 24 0 0 (QM K 0 0 Post) 3 [] [(0, .ref a0), (1, .int x1), (2, .long x2), (4, .int x3), (5, .int i1)] h2 0 0) ?_
  intro i1 h2 F
  refine J_iload dX1_rowOf_3 4 rfl ?_
  refine J_aload_n dX1_rowOf_5 0 rfl ?_
  obtain ⟨p4, g9, F⟩ := F
  refine J_get (ci := 1) (k := 0) dX1_rowOf_6 rfl in_X1_rowOf_1 (by decide) lk_X1_rowOf_11 g9 ?_
  obtain ⟨n5, g9, F⟩ := F
  refine J_alen (t := 3) dX1_rowOf_9 rfl g9 ?_
  refine J_icmp_ge (tgt := 49) dX1_rowOf_10 (by decide) (fun c => ?_) (fun c => ?_)
  · replace F := F.1 c
    refine J_iconst (v := -nI 1) dX1_rowOf_49 (by decide) ?_
    exact J_iret dX1_rowOf_50 rfl (Nat.le_refl _) (Nat.le_refl _) F
  · replace F := F.2 c
    refine J_aload_n dX1_rowOf_13 0 rfl ?_
    obtain ⟨p6, g9, F⟩ := F
    refine J_get (ci := 1) (k := 0) dX1_rowOf_14 rfl in_X1_rowOf_1 (by decide) lk_X1_rowOf_11 g9 ?_
    refine J_iload dX1_rowOf_17 4 rfl ?_
    obtain ⟨o7, g9, F⟩ := F
    refine J_aald (t := 3) dX1_rowOf_19 rfl g9 ?_
    refine J_ifnull (tgt := 43) dX1_rowOf_20 (by decide) ?_ ?_
    · intro c
      replace F := F.1 c
      subst c
      refine J_iinc (v := i1 + nI 1) (lv' := [(5, .int (i1 + nI 1)), (0, .ref a0), (1, .int x1), (2, .long x2), (4, .int x3)]) dX1_rowOf_43 4 rfl rfl (by decide) rfl ?_
      refine J_goto (tgt := 3) dX1_rowOf_46 (by decide) ?_
      exact J_sub [1, 2, 3, 4, 0] rfl F
    · intro a8 c
      replace F := F.2 a8 c
      subst c
      refine J_aload_n dX1_rowOf_23 0 rfl ?_
      obtain ⟨p9, g9, F⟩ := F
      refine J_get (ci := 1) (k := 0) dX1_rowOf_24 rfl in_X1_rowOf_1 (by decide) lk_X1_rowOf_11 g9 ?_
      refine J_iload dX1_rowOf_27 4 rfl ?_
      obtain ⟨o10, g9, F⟩ := F
      refine J_aald (t := 3) dX1_rowOf_29 rfl g9 ?_
      refine J_iload_n dX1_rowOf_30 1 rfl ?_
      refine J_lload_n dX1_rowOf_31 2 rfl ?_
      refine J_iload dX1_rowOf_32 3 rfl ?_
      obtain ⟨a11, hq9, F⟩ := F
      subst hq9
      obtain ⟨b9, F⟩ := F
      refine J_callV0 (ci := 0) (n := 3) (As := [.int x1, .long x2, .int x3]) (rest := []) dX1_rowOf_34 rfl gX1_rowOf_X0_isAt rfl (by decide +kernel) rfl (by decide) b9 (Nat.le_of_ble_eq_true rfl) (Nat.le_refl _) (Nat.le_refl _) F kI_no (kI_kk (fun v13 h12 F => ?_))
      refine J_if_eq (tgt := 43) dX1_rowOf_37 (by decide) (fun c => ?_) (fun c => ?_)
      · replace F := F.1 c
        refine J_iinc (v := i1 + nI 1) (lv' := [(5, .int (i1 + nI 1)), (0, .ref a0), (1, .int x1), (2, .long x2), (4, .int x3)]) dX1_rowOf_43 4 rfl rfl (by decide) rfl ?_
        refine J_goto (tgt := 3) dX1_rowOf_46 (by decide) ?_
        exact J_sub [1, 2, 3, 4, 0] rfl F
      · replace F := F.2 c
        refine J_iload dX1_rowOf_40 4 rfl ?_
        exact J_iret dX1_rowOf_42 rfl (Nat.le_refl _) (Nat.le_refl _) F

abbrev mX0_isNone (l : Launch) (K : Kx) (As : List Value) (h : Hp) (Post : Rs → Hp → Prop) : Prop := MX l K yX0_isNone wsX0_isNone 0 0 0 0 As h Post
set_option maxRecDepth 100000 in
set_option maxHeartbeats 4000000 in
theorem fX0_isNone {l : Launch} {K : Kx} {a0 : Nat} {h : Hp} {Post : Rs → Hp → Prop} (htr : l.stackTraces = false)
    (F : (∃ p1, gf h a0 0 3 = some (.ref p1) ∧ (∃ n2, alen K 1 h p1 = some n2 ∧ ((¬ n2 = nI 0 → (Post (.inl (some (.int (nI 0)))) h)) ∧ (n2 = nI 0 → (Post (.inl (some (.int (nI 1)))) h)))))) :
    mX0_isNone l K [.ref a0] h Post := by
  refine MX.enter htr (by decide) rfl (Nat.le_of_ble_eq_true rfl) ?_
  refine J_lveq (lv' := [(0, .ref a0)]) rfl ?_
  refine J_aload_n dX0_isNone_0 0 rfl ?_
  obtain ⟨p1, g9, F⟩ := F
  refine J_get (ci := 0) (k := 3) dX0_isNone_1 rfl in_X0_isNone_0 (by decide) lk_X0_isNone_26 g9 ?_
  obtain ⟨n2, g9, F⟩ := F
  refine J_alen (t := 1) dX0_isNone_4 rfl g9 ?_
  refine J_if_ne (tgt := 12) dX0_isNone_5 (by decide) (fun c => ?_) (fun c => ?_)
  · replace F := F.1 c
    refine J_iconst (v := nI 0) dX0_isNone_12 (by decide) ?_
    exact J_zret dX0_isNone_13 rfl (by decide) (Nat.le_refl _) (Nat.le_refl _) F
  · replace F := F.2 c
    refine J_iconst (v := nI 1) dX0_isNone_8 (by decide) ?_
    refine J_goto (tgt := 13) dX0_isNone_9 (by decide) ?_
    exact J_zret dX0_isNone_13 rfl (by decide) (Nat.le_refl _) (Nat.le_refl _) F

abbrev mX0_hasMember (l : Launch) (K : Kx) (As : List Value) (h : Hp) (Post : Rs → Hp → Prop) : Prop := MX l K yX0_hasMember wsX0_hasMember 0 0 0 0 As h Post
set_option maxRecDepth 100000 in
set_option maxHeartbeats 4000000 in
theorem fX0_hasMember {l : Launch} {K : Kx} {a0 : Nat} {x1 : Int32} {x2 : Int64} {h : Hp} {Post : Rs → Hp → Prop} (htr : l.stackTraces = false)
    (F : (∃ p1, gf h a0 0 4 = some (.ref p1) ∧ (∃ n2, alen K 1 h p1 = some n2 ∧ ((n2 ≤ x1 → (Post (.inl (some (.int (nI 0)))) h)) ∧ (¬ n2 ≤ x1 → (∃ p3, gf h a0 0 4 = some (.ref p3) ∧ (∃ u4, aJ K h p3 x1 = some u4 ∧ ((¬ u4 = x2 → (Post (.inl (some (.int (nI 0)))) h)) ∧ (u4 = x2 → (Post (.inl (some (.int (nI 1)))) h)))))))))) :
    mX0_hasMember l K [.ref a0, .int x1, .long x2] h Post := by
  refine MX.enter htr (by decide) rfl (Nat.le_of_ble_eq_true rfl) ?_
  refine J_lveq (lv' := [(0, .ref a0), (1, .int x1), (2, .long x2)]) rfl ?_
  refine J_iload_n dX0_hasMember_0 1 rfl ?_
  refine J_aload_n dX0_hasMember_1 0 rfl ?_
  obtain ⟨p1, g9, F⟩ := F
  refine J_get (ci := 0) (k := 4) dX0_hasMember_2 rfl in_X0_hasMember_0 (by decide) lk_X0_hasMember_29 g9 ?_
  obtain ⟨n2, g9, F⟩ := F
  refine J_alen (t := 1) dX0_hasMember_5 rfl g9 ?_
  refine J_icmp_ge (tgt := 24) dX0_hasMember_6 (by decide) (fun c => ?_) (fun c => ?_)
  · replace F := F.1 c
    refine J_iconst (v := nI 0) dX0_hasMember_24 (by decide) ?_
    exact J_zret dX0_hasMember_25 rfl (by decide) (Nat.le_refl _) (Nat.le_refl _) F
  · replace F := F.2 c
    refine J_aload_n dX0_hasMember_9 0 rfl ?_
    obtain ⟨p3, g9, F⟩ := F
    refine J_get (ci := 0) (k := 4) dX0_hasMember_10 rfl in_X0_hasMember_0 (by decide) lk_X0_hasMember_29 g9 ?_
    refine J_iload_n dX0_hasMember_13 1 rfl ?_
    obtain ⟨u4, g9, F⟩ := F
    refine J_lald dX0_hasMember_14 g9 ?_
    refine J_lload_n dX0_hasMember_15 2 rfl ?_
    refine J_lcmp dX0_hasMember_16 ?_
    refine J_if_ne (tgt := 24) dX0_hasMember_17 (by decide) (fun c => ?_) (fun c => ?_)
    · replace F := F.1 (fun e9 => c ((lg_cmp_eq _ _).mpr e9))
      refine J_iconst (v := nI 0) dX0_hasMember_24 (by decide) ?_
      exact J_zret dX0_hasMember_25 rfl (by decide) (Nat.le_refl _) (Nat.le_refl _) F
    · replace F := F.2 ((lg_cmp_eq _ _).mp c)
      refine J_iconst (v := nI 1) dX0_hasMember_20 (by decide) ?_
      refine J_goto (tgt := 25) dX0_hasMember_21 (by decide) ?_
      exact J_zret dX0_hasMember_25 rfl (by decide) (Nat.le_refl _) (Nat.le_refl _) F

abbrev mX1_init (l : Launch) (K : Kx) (mc ms : Nat) (As : List Value) (h : Hp) (Post : Rs → Hp → Prop) : Prop := MX l K yX1_init wsX1_init 1 60 mc ms As h Post
set_option maxRecDepth 100000 in
set_option maxHeartbeats 4000000 in
theorem fX1_init {l : Launch} {K : Kx} {mc ms : Nat} {a0 : Nat} {h : Hp} {Post : Rs → Hp → Prop} (htr : l.stackTraces = false)
    (F : (∃ N3, nI 4 = nI N3 ∧ N3 ≤ 60000000 ∧ 0 + 1 ≤ mc ∧ 0 + N3 ≤ ms ∧ ∀ (q1 : Nat) (h2 : Hp), h q1 = none → kB K ≤ q1 → h2 = va_up h q1 (some (xQ K 3 N3 (fun _ => none))) → (∃ h4, pf h2 a0 1 0 (.ref q1) = some h4 ∧ (∃ h5, pf h4 a0 1 1 (.int (nI 0)) = some h5 ∧ (((0 + 1) ≤ mc ∧ (0 + N3) ≤ ms) ∧ Post (.inl none) h5))))) :
    mX1_init l K mc ms [.ref a0] h Post := by
  refine MX.enter htr (by decide) rfl (Nat.le_of_ble_eq_true rfl) ?_
  refine J_lveq (lv' := [(0, .ref a0)]) rfl ?_
  refine J_aload_n dX1_init_0 0 rfl ?_
  refine J_objInit dX1_init_1 wd_X1_init_m3 wd_X1_init_oi wd_X1_init_oc (by decide) (Nat.le_of_ble_eq_true rfl) ?_
  refine J_aload_n dX1_init_4 0 rfl ?_
  refine J_iconst (v := nI 4) dX1_init_5 (by decide) ?_
  obtain ⟨N3, e9, b9, k9, w9, F⟩ := F
  refine J_anew (t := 3) (N' := N3) dX1_init_6 wd_X1_init_k9 rfl (fun U k9 => k9.2.2.2.2.2.2.2.2.2.1) e9 b9 k9 w9 (fun q1 h9 i9 => ?_)
  replace F := F q1 _ h9 i9 rfl
  generalize va_up h q1 (some (xQ K 3 N3 (fun _ => none))) = h2 at F ⊢
  obtain ⟨h4, g9, F⟩ := F
  refine J_put (ci := 1) (k := 0) dX1_init_9 rfl in_X1_init_1 tyX1 tyX1_ok nmX1 (by decide) lk_X1_init_11 rfl rfl rfl rfl g9 ?_
  refine J_aload_n dX1_init_12 0 rfl ?_
  refine J_iconst (v := nI 0) dX1_init_13 (by decide) ?_
  obtain ⟨h5, g9, F⟩ := F
  refine J_put (ci := 1) (k := 1) dX1_init_14 rfl in_X1_init_1 tyX1 tyX1_ok nmX1 (by decide) lk_X1_init_17 rfl rfl rfl rfl g9 ?_
  obtain ⟨k9, F⟩ := F
  exact J_vret dX1_init_17 rfl k9.1 k9.2 F

