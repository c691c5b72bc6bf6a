/-! ===== value, get, ask: with the right words ===== -/
def wsX3_value9 : List Cond := .code yX3_value cX3_value 3 (some .long) :: ((wsX3_value_r1 ++ (wsX3_value_r2 ++ wsX3_value_r3)) ++ wsX00 ++ wsX30 ++ wsX20 ++ wsX10 ++ (nt_at RX3 97).filter goodWord ++ (vx_atS RX3 250 "java/lang/IllegalArgumentException" ["java/lang/RuntimeException", "java/lang/Exception"]).filter goodWord ++ (vx_atS RX3 176 "java/lang/IndexOutOfBoundsException" ["java/lang/RuntimeException", "java/lang/Exception"]).filter goodWord ++ (vx_atS RX3 245 "java/lang/IllegalStateException" ["java/lang/RuntimeException", "java/lang/Exception"]).filter goodWord)
def wsX3_get9 : List Cond := .code yX3_get cX3_get 6 (some .long) :: ((wsX3_get_r1 ++ (wsX3_get_r2 ++ (wsX3_get_r3 ++ wsX3_get_r4))) ++ wsX00 ++ wsX30 ++ wsX20 ++ wsX10 ++ (nt_at RX3 97).filter goodWord ++ (vx_atS RX3 250 "java/lang/IllegalArgumentException" ["java/lang/RuntimeException", "java/lang/Exception"]).filter goodWord ++ (vx_atS RX3 176 "java/lang/IndexOutOfBoundsException" ["java/lang/RuntimeException", "java/lang/Exception"]).filter goodWord ++ (vx_atS RX3 245 "java/lang/IllegalStateException" ["java/lang/RuntimeException", "java/lang/Exception"]).filter goodWord)
def wsX3_ask9 : List Cond := .code yX3_ask cX3_ask 9 (some .long) :: ((wsX3_ask_r1 ++ (wsX3_ask_r2 ++ wsX3_ask_r3)) ++ wsX00 ++ wsX30 ++ wsX20 ++ wsX10 ++ (nt_at RX3 97).filter goodWord ++ (vx_atS RX3 176 "java/lang/IndexOutOfBoundsException" ["java/lang/RuntimeException", "java/lang/Exception"]).filter goodWord)
def wsL_value9 : List Cond := .codeWith yL_value cL_value 4 (some .int) [(0, 8, 11, 13), (0, 8, 14, 15), (0, 8, 17, 17), (0, 8, 20, 23)] :: ((wsL_value_r1 ++ (wsL_value_r2 ++ (wsL_value_r3 ++ wsL_value_r4))) ++ wsX00 ++ wsX30 ++ wsX20 ++ wsX10 ++ (nt_at RX3 97).filter goodWord ++ (vx_atS RX3 250 "java/lang/IllegalArgumentException" ["java/lang/RuntimeException", "java/lang/Exception"]).filter goodWord ++ (vx_atS RX3 176 "java/lang/IndexOutOfBoundsException" ["java/lang/RuntimeException", "java/lang/Exception"]).filter goodWord ++ (vx_atS RX3 245 "java/lang/IllegalStateException" ["java/lang/RuntimeException", "java/lang/Exception"]).filter goodWord)
def wsL_get9 : List Cond := .codeWith yL_get cL_get 6 (some .int) [(0, 10, 13, 13), (0, 10, 17, 15), (0, 10, 21, 17), (0, 10, 25, 23)] :: ((wsL_get_r1 ++ (wsL_get_r2 ++ (wsL_get_r3 ++ wsL_get_r4))) ++ wsX00 ++ wsX30 ++ wsX20 ++ wsX10 ++ (nt_at RX3 97).filter goodWord ++ (vx_atS RX3 250 "java/lang/IllegalArgumentException" ["java/lang/RuntimeException", "java/lang/Exception"]).filter goodWord ++ (vx_atS RX3 176 "java/lang/IndexOutOfBoundsException" ["java/lang/RuntimeException", "java/lang/Exception"]).filter goodWord ++ (vx_atS RX3 245 "java/lang/IllegalStateException" ["java/lang/RuntimeException", "java/lang/Exception"]).filter goodWord)
def wsL_ask9 : List Cond := .codeWith yL_ask cL_ask 9 (some .int) [(0, 15, 18, 13), (0, 15, 22, 23)] :: ((wsL_ask_r1 ++ (wsL_ask_r2 ++ wsL_ask_r3)) ++ wsX00 ++ wsX30 ++ wsX20 ++ wsX10 ++ (nt_at RX3 97).filter goodWord ++ (vx_atS RX3 176 "java/lang/IndexOutOfBoundsException" ["java/lang/RuntimeException", "java/lang/Exception"]).filter goodWord)
def wsL_law9 : List Cond := wsL_law0 ++ (vx_atS RX3 250 "java/lang/IllegalArgumentException" ["java/lang/RuntimeException", "java/lang/Exception"]).filter goodWord ++ (vx_atS RX3 176 "java/lang/IndexOutOfBoundsException" ["java/lang/RuntimeException", "java/lang/Exception"]).filter goodWord ++ (vx_atS RX3 245 "java/lang/IllegalStateException" ["java/lang/RuntimeException", "java/lang/Exception"]).filter goodWord ++ (nt_at RX3 97).filter goodWord
theorem atn9_97 : ∀ w ∈ (nt_at RX3 97).filter (fun w => !goodWord w), w ∈ [Cond.castable ntX ntX, Cond.declares ⟨"java/lang/RuntimeException", "<init>", "(Ljava/lang/String;)V"⟩, Cond.declares ⟨"java/lang/Exception", "<init>", "(Ljava/lang/String;)V"⟩, Cond.declares ⟨"java/lang/Throwable", "<init>", "(Ljava/lang/String;)V"⟩] := by decide +kernel
theorem gd9_93_97 : ∀ w ∈ Cond.classLink RX3 93 ntX :: Cond.initialized ntX :: nt_at RX3 97, vx_ot w = true := by decide +kernel
set_option maxRecDepth 20000 in
theorem ggX3_value_X3_needToRead9 : GoodIn wsX3_value9 wsX3_needToRead := goodIn_ca (goodIn_ca (goodIn_ca (goodIn_r _ [8, 9, 10, 11, 12, 13, 14, 15, 7, 16, 17, 18, 19, 20, 21, 22, 23, 24, 25, 26, 77, 78, 79, 80, 81, 82, 83, 84, 85, 86, 87, 88, 89, 90] (by decide +kernel) (by decide +kernel)) (goodIn_sub (fun _ h => List.mem_cons_of_mem _ (List.mem_append_left _ (List.mem_append_left _ (List.mem_append_right _ h)))) (by decide +kernel))) (goodIn_sub (fun _ h => List.mem_cons_of_mem _ (List.mem_append_left _ (List.mem_append_right _ h))) (by decide +kernel))) (goodIn_sub (fun _ h => List.mem_cons_of_mem _ (List.mem_append_right _ h)) (by decide +kernel))
set_option maxRecDepth 20000 in
theorem gX3_value_X3_needToRead9 : GoodIn wsX3_value9 (wsV RX3 89 RX3 yX3_needToRead wsX3_needToRead) := goodIn_app (goodIn_of _ (by decide +kernel)) ggX3_value_X3_needToRead9
set_option maxRecDepth 20000 in
theorem ggX3_value_X3_entryAtHand9 : GoodIn wsX3_value9 wsX3_entryAtHand := goodIn_r _ [30, 11, 31, 32, 33, 34, 35, 36, 37, 38, 39, 40, 41, 42, 43, 7, 44, 45, 46, 47, 48, 49, 50, 51, 52, 53, 54, 55, 56, 57, 58, 59, 60, 61, 62, 63, 64, 65, 66, 77, 78, 79, 80, 81, 82, 83, 84, 85, 86, 87, 88, 89, 90, 71, 72, 73, 74, 75, 76, 91, 92] (by decide +kernel) (by decide +kernel)
set_option maxRecDepth 20000 in
theorem gX3_value_X3_entryAtHand9 : GoodIn wsX3_value9 (wsV RX3 67 RX3 yX3_entryAtHand wsX3_entryAtHand) := goodIn_app (goodIn_of _ (by decide +kernel)) ggX3_value_X3_entryAtHand9
set_option maxRecDepth 20000 in
theorem ggX3_value_X0_isNone9 : GoodIn wsX3_value9 wsX0_isNone := goodIn_r _ [70, 64, 71, 72, 73, 74, 75, 76] (by decide +kernel) (by decide +kernel)
set_option maxRecDepth 20000 in
theorem gX3_value_X0_isNone9 : GoodIn wsX3_value9 (wsV RX3 85 RX0 yX0_isNone wsX0_isNone) := goodIn_app (goodIn_of _ (by decide +kernel)) ggX3_value_X0_isNone9
set_option maxRecDepth 20000 in
theorem ggX3_get_X3_needToRead9 : GoodIn wsX3_get9 wsX3_needToRead := goodIn_ca (goodIn_ca (goodIn_ca (goodIn_r _ [8, 9, 10, 11, 12, 13, 14, 15, 7, 16, 17, 18, 19, 20, 21, 22, 23, 24, 25, 26, 83, 84, 85, 86, 87, 88, 89, 90, 91, 92, 93, 94, 95, 96] (by decide +kernel) (by decide +kernel)) (goodIn_sub (fun _ h => List.mem_cons_of_mem _ (List.mem_append_left _ (List.mem_append_left _ (List.mem_append_right _ h)))) (by decide +kernel))) (goodIn_sub (fun _ h => List.mem_cons_of_mem _ (List.mem_append_left _ (List.mem_append_right _ h))) (by decide +kernel))) (goodIn_sub (fun _ h => List.mem_cons_of_mem _ (List.mem_append_right _ h)) (by decide +kernel))
set_option maxRecDepth 20000 in
theorem gX3_get_X3_needToRead9 : GoodIn wsX3_get9 (wsV RX3 89 RX3 yX3_needToRead wsX3_needToRead) := goodIn_app (goodIn_of _ (by decide +kernel)) ggX3_get_X3_needToRead9
set_option maxRecDepth 20000 in
theorem ggX3_get_X3_entryAtHand9 : GoodIn wsX3_get9 wsX3_entryAtHand := goodIn_r _ [30, 11, 31, 32, 33, 34, 35, 36, 37, 38, 39, 40, 41, 42, 43, 7, 44, 45, 46, 47, 48, 49, 50, 51, 52, 53, 54, 55, 56, 57, 58, 59, 60, 61, 62, 63, 64, 65, 66, 83, 84, 85, 86, 87, 88, 89, 90, 91, 92, 93, 94, 95, 96, 77, 78, 79, 80, 81, 82, 97, 98] (by decide +kernel) (by decide +kernel)
set_option maxRecDepth 20000 in
theorem gX3_get_X3_entryAtHand9 : GoodIn wsX3_get9 (wsV RX3 67 RX3 yX3_entryAtHand wsX3_entryAtHand) := goodIn_app (goodIn_of _ (by decide +kernel)) ggX3_get_X3_entryAtHand9
set_option maxRecDepth 20000 in
theorem ggX3_get_X0_placeOf9 : GoodIn wsX3_get9 wsX0_placeOf := goodIn_r _ [70, 65, 71, 7, 72, 77, 78, 79, 80, 81, 82] (by decide +kernel) (by decide +kernel)
set_option maxRecDepth 20000 in
theorem gX3_get_X0_placeOf9 : GoodIn wsX3_get9 (wsV RX3 110 RX0 yX0_placeOf wsX0_placeOf) := goodIn_app (goodIn_of _ (by decide +kernel)) ggX3_get_X0_placeOf9
set_option maxRecDepth 20000 in
theorem ggX3_get_X0_hasMember9 : GoodIn wsX3_get9 wsX0_hasMember := goodIn_r _ [76, 65, 77, 78, 79, 80, 81, 82] (by decide +kernel) (by decide +kernel)
set_option maxRecDepth 20000 in
theorem gX3_get_X0_hasMember9 : GoodIn wsX3_get9 (wsV RX3 114 RX0 yX0_hasMember wsX0_hasMember) := goodIn_app (goodIn_of _ (by decide +kernel)) ggX3_get_X0_hasMember9
set_option maxRecDepth 20000 in
theorem ggX3_ask_X3_pictureOf9 : GoodIn wsX3_ask9 wsX3_pictureOf := goodIn_ca (goodIn_r _ [8, 9, 10, 11, 12, 7, 13, 14, 15, 16, 17, 18, 19, 20, 21, 67, 68, 69, 70, 71, 72, 73, 74, 75, 76, 77, 78, 79, 80] (by decide +kernel) (by decide +kernel)) (goodIn_sub (fun _ h => List.mem_cons_of_mem _ (List.mem_append_right _ h)) (by decide +kernel))
set_option maxRecDepth 20000 in
theorem gX3_ask_X3_pictureOf9 : GoodIn wsX3_ask9 (wsV RX3 197 RX3 yX3_pictureOf wsX3_pictureOf) := goodIn_app (goodIn_of _ (by decide +kernel)) ggX3_ask_X3_pictureOf9
set_option maxRecDepth 20000 in
theorem ggX3_ask_X3_needState9 : GoodIn wsX3_ask9 wsX3_needState := goodIn_ca (goodIn_r _ [25, 20, 21, 9, 26, 67, 68, 69, 70, 71, 72, 73, 74, 75, 76, 77, 78, 79, 80] (by decide +kernel) (by decide +kernel)) (goodIn_sub (fun _ h => List.mem_cons_of_mem _ (List.mem_append_right _ h)) (by decide +kernel))
set_option maxRecDepth 20000 in
theorem gX3_ask_X3_needState9 : GoodIn wsX3_ask9 (wsV RX3 140 RX3 yX3_needState wsX3_needState) := goodIn_app (goodIn_of _ (by decide +kernel)) ggX3_ask_X3_needState9
set_option maxRecDepth 20000 in
theorem ggX3_ask_X2_entryOf9 : GoodIn wsX3_ask9 wsX2_entryOf := goodIn_r _ [31, 32, 33, 34, 35, 36, 37, 7, 38, 39, 40, 41, 42, 43, 44, 45, 46, 47, 48, 49, 50, 51, 52, 53, 54, 55, 56, 57, 58, 59, 60, 76, 77, 78, 79, 80, 61, 62, 63, 64, 65, 66, 81, 82] (by decide +kernel) (by decide +kernel)
set_option maxRecDepth 20000 in
theorem gX3_ask_X2_entryOf9 : GoodIn wsX3_ask9 (wsV RX3 200 RX2 yX2_entryOf wsX2_entryOf) := goodIn_app (goodIn_of _ (by decide +kernel)) ggX3_ask_X2_entryOf9
set_option maxRecDepth 20000 in
theorem at_X3_ask_979 : ∀ w ∈ (nt_at RX3 97).filter goodWord, w ∈ wsX3_ask9 := by decide +kernel
set_option maxRecDepth 20000 in
theorem wd_X3_ask_k939 : Cond.classLink RX3 93 "java/util/NoSuchElementException" ∈ wsX3_ask9 := by decide +kernel
set_option maxRecDepth 20000 in
theorem wd_X3_ask_i_NoSuchElementException9 : Cond.initialized "java/util/NoSuchElementException" ∈ wsX3_ask9 := by decide +kernel
set_option maxRecDepth 20000 in
theorem in_X3_ask_09 : ∀ w ∈ u_ws RX0 TX0 6, w ∈ wsX3_ask9 := by decide +kernel
set_option maxRecDepth 20000 in
theorem lk_X3_ask_1009 : Cond.fieldLink RX3 100 (TX0 3).1 (TX0 3).2.1 (TX0 3).2.2.1 ∈ wsX3_ask9 := by decide +kernel
set_option maxRecDepth 20000 in
theorem in_X3_get_09 : ∀ w ∈ u_ws RX0 TX0 6, w ∈ wsX3_get9 := by decide +kernel
set_option maxRecDepth 20000 in
theorem lk_X3_get_1009 : Cond.fieldLink RX3 100 (TX0 3).1 (TX0 3).2.1 (TX0 3).2.2.1 ∈ wsX3_get9 := by decide +kernel
set_option maxRecDepth 20000 in
theorem at_X3_get_979 : ∀ w ∈ (nt_at RX3 97).filter goodWord, w ∈ wsX3_get9 := by decide +kernel
set_option maxRecDepth 20000 in
theorem wd_X3_get_k939 : Cond.classLink RX3 93 "java/util/NoSuchElementException" ∈ wsX3_get9 := by decide +kernel
set_option maxRecDepth 20000 in
theorem wd_X3_get_i_NoSuchElementException9 : Cond.initialized "java/util/NoSuchElementException" ∈ wsX3_get9 := by decide +kernel
set_option maxRecDepth 20000 in
theorem in_X3_value_09 : ∀ w ∈ u_ws RX0 TX0 6, w ∈ wsX3_value9 := by decide +kernel
set_option maxRecDepth 20000 in
theorem lk_X3_value_1009 : Cond.fieldLink RX3 100 (TX0 3).1 (TX0 3).2.1 (TX0 3).2.2.1 ∈ wsX3_value9 := by decide +kernel
set_option maxRecDepth 20000 in
theorem at_X3_value_979 : ∀ w ∈ (nt_at RX3 97).filter goodWord, w ∈ wsX3_value9 := by decide +kernel
set_option maxRecDepth 20000 in
theorem wd_X3_value_k939 : Cond.classLink RX3 93 "java/util/NoSuchElementException" ∈ wsX3_value9 := by decide +kernel
set_option maxRecDepth 20000 in
theorem wd_X3_value_i_NoSuchElementException9 : Cond.initialized "java/util/NoSuchElementException" ∈ wsX3_value9 := by decide +kernel
abbrev mX3_ask9 (l : Launch) (K : Kx) (mc ms : Nat) (As : List Value) (h : Hp) (Post : Rs → Hp → Prop) : Prop := MX l K yX3_ask wsX3_ask9 8 133 mc ms As h Post
set_option maxRecDepth 100000 in
set_option maxHeartbeats 4000000 in
theorem fX3_ask9 {l : Launch} {K : Kx} {mc ms : Nat} {a0 : Nat} {x1 : Int32} {x2 : Int32} {x3 : Int64} {x4 : Int32} {x5 : Int32} {h : Hp} {Post : Rs → Hp → Prop} (htr : l.stackTraces = false)
    (F : ((∃ fs, h a0 = some (xO 3 fs)) ∧ (∃ c_2 w_3, 0 + c_2 ≤ mc ∧ 0 + w_3 ≤ ms ∧ mX3_pictureOf l K c_2 w_3 [.ref a0, .int x1] h (kQX (fun o_4 h_1 => ((∃ fs, h_1 a0 = some (xO 3 fs)) ∧ (∃ c_6 w_7, (0 + c_2) + c_6 ≤ mc ∧ (0 + w_3) + w_7 ≤ ms ∧ mX3_needState l K c_6 w_7 [.ref a0, .int x2] h_1 (kVX (fun h_5 => (∃ a_8, o_4 = some a_8 ∧ ((∃ fs, h_5 a_8 = some (xO 2 fs)) ∧ (∃ c_10 w_11, ((0 + c_2) + c_6) + c_10 ≤ mc ∧ ((0 + w_3) + w_7) + w_11 ≤ ms ∧ mX2_entryOf l K c_10 w_11 [.ref a_8, .int x2, .long x3, .int x4] h_5 (kQ (fun o_12 h_9 => (∃ a_13, o_12 = some a_13 ∧ (∃ p_14, gf h_9 a_13 0 3 = some (.ref p_14) ∧ ((x5 < nI 0 → ((((0 + c_2) + c_6) + c_10) + 1 ≤ mc ∧ (((0 + w_3) + w_7) + w_11) + 6 ≤ ms ∧ Post (.inr "java/util/NoSuchElementException") h_9)) ∧ (¬ x5 < nI 0 → (∃ n_15, alen K 1 h_9 p_14 = some n_15 ∧ ((x5 < n_15 → (∃ u_16, aJ K h_9 p_14 x5 = some u_16 ∧ (((((0 + c_2) + c_6) + c_10) ≤ mc ∧ (((0 + w_3) + w_7) + w_11) ≤ ms) ∧ Post (.inl (some (.long u_16))) h_9))) ∧ (¬ x5 < n_15 → ((((0 + c_2) + c_6) + c_10) + 1 ≤ mc ∧ (((0 + w_3) + w_7) + w_11) + 6 ≤ ms ∧ Post (.inr "java/util/NoSuchElementException") h_9)))))))))))))) (fun E9 h9 => Post (.inr E9) h9))))) (fun E9 h9 => Post (.inr E9) h9))))) :
    mX3_ask9 l K mc ms [.ref a0, .int x1, .int x2, .long x3, .int x4, .int x5] h Post := by
  refine MX.enter htr (by decide) rfl (Nat.le_of_ble_eq_true rfl) ?_
  refine J_lveq (lv' := [(0, .ref a0), (1, .int x1), (2, .int x2), (3, .long x3), (5, .int x4), (6, .int x5)]) rfl ?_
  refine J_aload_n dX3_ask_0 0 rfl ?_
  refine J_iload_n dX3_ask_1 1 rfl ?_
  obtain ⟨b9, F⟩ := F
  obtain ⟨c_2, w_3, k9, w9, F⟩ := F
  refine J_callV (ci := 3) (n := 1) (As := [.int x1]) (rest := []) dX3_ask_2 rfl gX3_ask_X3_pictureOf9 rfl (by decide +kernel) rfl (by decide) b9 (Nat.le_of_ble_eq_true rfl) k9 w9 F (kQX_kk (fun o_4 h_1 F => ?_)) (fun _ _ q9 => kQX_x q9)
  refine J_astoreq (lv' := [(7, va_rf o_4), (0, .ref a0), (1, .int x1), (2, .int x2), (3, .long x3), (5, .int x4), (6, .int x5)]) dX3_ask_5 (by decide) rfl ?_
  refine J_aload_n dX3_ask_7 1 rfl ?_
  refine J_iload_n dX3_ask_8 3 rfl ?_
  obtain ⟨b9, F⟩ := F
  obtain ⟨c_6, w_7, k9, w9, F⟩ := F
  refine J_callV (ci := 3) (n := 1) (As := [.int x2]) (rest := []) dX3_ask_9 rfl gX3_ask_X3_needState9 rfl (by decide +kernel) rfl (by decide) b9 (Nat.le_of_ble_eq_true rfl) k9 w9 F (kVX_kk (fun h_5 F => ?_)) (fun _ _ q9 => kVX_x q9)
  refine J_aloadq dX3_ask_12 0 rfl ?_
  refine J_iload_n dX3_ask_14 3 rfl ?_
  refine J_lload_n dX3_ask_15 4 rfl ?_
  refine J_iload dX3_ask_16 5 rfl ?_
  obtain ⟨a_8, hq9, F⟩ := F
  rw [hq9]
  obtain ⟨b9, F⟩ := F
  obtain ⟨c_10, w_11, k9, w9, F⟩ := F
  refine J_callV0 (ci := 2) (n := 3) (As := [.int x2, .long x3, .int x4]) (rest := []) dX3_ask_18 rfl gX3_ask_X2_entryOf9 rfl (by decide +kernel) rfl (by decide) b9 (Nat.le_of_ble_eq_true rfl) k9 w9 F kQ_no (kQ_kk (fun o_12 h_9 F => ?_))
  obtain ⟨a_13, hq9, F⟩ := F
  rw [hq9]
  obtain ⟨p_14, g9, F⟩ := F
  refine J_get (ci := 0) (k := 3) dX3_ask_21 rfl in_X3_ask_09 (by decide) lk_X3_ask_1009 g9 ?_
  refine J_astore (lv' := [(8, .ref p_14), (7, .ref a_8), (0, .ref a0), (1, .int x1), (2, .int x2), (3, .long x3), (5, .int x4), (6, .int x5)]) dX3_ask_24 (by decide) rfl ?_
  refine J_iload dX3_ask_26 7 rfl ?_
  refine J_if_lt (tgt := 39) dX3_ask_28 (by decide) (fun c => ?_) (fun c => ?_)
  · replace F := F.1 c
    exact J_throwN (text := "no such entry or number") dX3_ask_39 dX3_ask_42 dX3_ask_43 dX3_ask_45 dX3_ask_48 wd_X3_ask_k939 wd_X3_ask_i_NoSuchElementException9 (by decide +kernel) at_X3_ask_979 atn9_97 (by decide +kernel) gd9_93_97 (by decide) (Nat.le_of_ble_eq_true rfl) F.1 F.2.1 F.2.2
  · replace F := F.2 c
    refine J_iload dX3_ask_31 7 rfl ?_
    refine J_aload dX3_ask_33 0 rfl ?_
    obtain ⟨n_15, g9, F⟩ := F
    refine J_alen (t := 1) dX3_ask_35 rfl g9 ?_
    refine J_icmp_lt (tgt := 49) dX3_ask_36 (by decide) (fun c => ?_) (fun c => ?_)
    · replace F := F.1 c
      refine J_aload dX3_ask_49 0 rfl ?_
      refine J_iload dX3_ask_51 7 rfl ?_
      obtain ⟨u_16, g9, F⟩ := F
      refine J_lald dX3_ask_53 g9 ?_
      obtain ⟨k9, F⟩ := F
      exact J_lret dX3_ask_54 rfl k9.1 k9.2 F
    · replace F := F.2 c
      exact J_throwN (text := "no such entry or number") dX3_ask_39 dX3_ask_42 dX3_ask_43 dX3_ask_45 dX3_ask_48 wd_X3_ask_k939 wd_X3_ask_i_NoSuchElementException9 (by decide +kernel) at_X3_ask_979 atn9_97 (by decide +kernel) gd9_93_97 (by decide) (Nat.le_of_ble_eq_true rfl) F.1 F.2.1 F.2.2

abbrev mX3_get9 (l : Launch) (K : Kx) (mc ms : Nat) (As : List Value) (h : Hp) (Post : Rs → Hp → Prop) : Prop := MX l K yX3_get wsX3_get9 8 134 mc ms As h Post
set_option maxRecDepth 100000 in
set_option maxHeartbeats 4000000 in
theorem fX3_get9 {l : Launch} {K : Kx} {mc ms : Nat} {a0 : Nat} {x1 : Int32} {x2 : Int64} {h : Hp} {Post : Rs → Hp → Prop} (htr : l.stackTraces = false)
    (F : ((∃ fs, h a0 = some (xO 3 fs)) ∧ (∃ c_2 w_3, 0 + c_2 ≤ mc ∧ 0 + w_3 ≤ ms ∧ mX3_needToRead l K c_2 w_3 [.ref a0, .int x1, .int (nI 2), .int (nI 2)] h (kVX (fun h_1 => ((∃ fs, h_1 a0 = some (xO 3 fs)) ∧ (∃ c_5 w_6, (0 + c_2) + c_5 ≤ mc ∧ (0 + w_3) + w_6 ≤ ms ∧ mX3_entryAtHand l K c_5 w_6 [.ref a0, .int x1] h_1 (kQ (fun o_7 h_4 => (∃ a_8, o_7 = some a_8 ∧ ((∃ fs, h_4 a_8 = some (xO 0 fs)) ∧ (((0 + c_2) + c_5) + 0 ≤ mc ∧ ((0 + w_3) + w_6) + 0 ≤ ms ∧ mX0_placeOf l K [.ref a_8, .long x2] h_4 (kI (fun v_10 h_9 => ((∃ fs, h_9 a_8 = some (xO 0 fs)) ∧ ((((0 + c_2) + c_5) + 0) + 0 ≤ mc ∧ (((0 + w_3) + w_6) + 0) + 0 ≤ ms ∧ mX0_hasMember l K [.ref a_8, .int v_10, .long x2] h_9 (kI (fun v_12 h_11 => ((¬ v_12 = nI 0 → (∃ p_13, gf h_11 a_8 0 3 = some (.ref p_13) ∧ (∃ u_14, aJ K h_11 p_13 v_10 = some u_14 ∧ ((((((0 + c_2) + c_5) + 0) + 0) ≤ mc ∧ ((((0 + w_3) + w_6) + 0) + 0) ≤ ms) ∧ Post (.inl (some (.long u_14))) h_11)))) ∧ (v_12 = nI 0 → (((((0 + c_2) + c_5) + 0) + 0) + 1 ≤ mc ∧ ((((0 + w_3) + w_6) + 0) + 0) + 6 ≤ ms ∧ Post (.inr "java/util/NoSuchElementException") h_11))))))))))))))))) (fun E9 h9 => Post (.inr E9) h9))))) :
    mX3_get9 l K mc ms [.ref a0, .int x1, .long x2] h Post := by
  refine MX.enter htr (by decide) rfl (Nat.le_of_ble_eq_true rfl) ?_
  refine J_lveq (lv' := [(0, .ref a0), (1, .int x1), (2, .long x2)]) rfl ?_
  refine J_aload_n dX3_get_0 0 rfl ?_
  refine J_iload_n dX3_get_1 1 rfl ?_
  refine J_iconst (v := nI 2) dX3_get_2 (by decide) ?_
  refine J_iconst (v := nI 2) dX3_get_3 (by decide) ?_
  obtain ⟨b9, F⟩ := F
  obtain ⟨c_2, w_3, k9, w9, F⟩ := F
  refine J_callV (ci := 3) (n := 3) (As := [.int x1, .int (nI 2), .int (nI 2)]) (rest := []) dX3_get_4 rfl gX3_get_X3_needToRead9 rfl (by decide +kernel) rfl (by decide) b9 (Nat.le_of_ble_eq_true rfl) k9 w9 F (kVX_kk (fun h_1 F => ?_)) (fun _ _ q9 => kVX_x q9)
  refine J_aload_n dX3_get_7 0 rfl ?_
  refine J_iload_n dX3_get_8 1 rfl ?_
  obtain ⟨b9, F⟩ := F
  obtain ⟨c_5, w_6, k9, w9, F⟩ := F
  refine J_callV0 (ci := 3) (n := 1) (As := [.int x1]) (rest := []) dX3_get_9 rfl gX3_get_X3_entryAtHand9 rfl (by decide +kernel) rfl (by decide) b9 (Nat.le_of_ble_eq_true rfl) k9 w9 F kQ_no (kQ_kk (fun o_7 h_4 F => ?_))
  refine J_astoreq (lv' := [(4, va_rf o_7), (0, .ref a0), (1, .int x1), (2, .long x2)]) dX3_get_12 (by decide) rfl ?_
  refine J_aloadq dX3_get_14 0 rfl ?_
  refine J_lload_n dX3_get_16 3 rfl ?_
  obtain ⟨a_8, hq9, F⟩ := F
  rw [hq9]
  obtain ⟨b9, F⟩ := F
  obtain ⟨k9, w9, F⟩ := F
  refine J_callV0 (ci := 0) (n := 1) (As := [.long x2]) (rest := []) dX3_get_17 rfl gX3_get_X0_placeOf9 rfl (by decide +kernel) rfl (by decide) b9 (Nat.le_of_ble_eq_true rfl) k9 w9 F kI_no (kI_kk (fun v_10 h_9 F => ?_))
  refine J_istore (lv' := [(5, .int v_10), (4, .ref a_8), (0, .ref a0), (1, .int x1), (2, .long x2)]) dX3_get_20 (by decide) rfl ?_
  refine J_aload dX3_get_22 1 rfl ?_
  refine J_iload dX3_get_24 0 rfl ?_
  refine J_lload_n dX3_get_26 4 rfl ?_
  obtain ⟨b9, F⟩ := F
  obtain ⟨k9, w9, F⟩ := F
  refine J_callV0 (ci := 0) (n := 2) (As := [.int v_10, .long x2]) (rest := []) dX3_get_27 rfl gX3_get_X0_hasMember9 rfl (by decide +kernel) rfl (by decide) b9 (Nat.le_of_ble_eq_true rfl) k9 w9 F kI_no (kI_kk (fun v_12 h_11 F => ?_))
  refine J_if_ne (tgt := 43) dX3_get_30 (by decide) (fun c => ?_) (fun c => ?_)
  · replace F := F.1 c
    refine J_aload dX3_get_43 1 rfl ?_
    obtain ⟨p_13, g9, F⟩ := F
    refine J_get (ci := 0) (k := 3) dX3_get_45 rfl in_X3_get_09 (by decide) lk_X3_get_1009 g9 ?_
    refine J_iload dX3_get_48 0 rfl ?_
    obtain ⟨u_14, g9, F⟩ := F
    refine J_lald dX3_get_50 g9 ?_
    obtain ⟨k9, F⟩ := F
    exact J_lret dX3_get_51 rfl k9.1 k9.2 F
  · replace F := F.2 c
    exact J_throwN (text := "the member is not there") dX3_get_33 dX3_get_36 dX3_get_37 dX3_get_39 dX3_get_42 wd_X3_get_k939 wd_X3_get_i_NoSuchElementException9 (by decide +kernel) at_X3_get_979 atn9_97 (by decide +kernel) gd9_93_97 (by decide) (Nat.le_of_ble_eq_true rfl) F.1 F.2.1 F.2.2

abbrev mX3_value9 (l : Launch) (K : Kx) (mc ms : Nat) (As : List Value) (h : Hp) (Post : Rs → Hp → Prop) : Prop := MX l K yX3_value wsX3_value9 8 134 mc ms As h Post
set_option maxRecDepth 100000 in
set_option maxHeartbeats 4000000 in
theorem fX3_value9 {l : Launch} {K : Kx} {mc ms : Nat} {a0 : Nat} {x1 : Int32} {h : Hp} {Post : Rs → Hp → Prop} (htr : l.stackTraces = false)
    (F : ((∃ fs, h a0 = some (xO 3 fs)) ∧ (∃ c_2 w_3, 0 + c_2 ≤ mc ∧ 0 + w_3 ≤ ms ∧ mX3_needToRead l K c_2 w_3 [.ref a0, .int x1, .int (nI 0), .int (nI 3)] h (kVX (fun h_1 => ((∃ fs, h_1 a0 = some (xO 3 fs)) ∧ (∃ c_5 w_6, (0 + c_2) + c_5 ≤ mc ∧ (0 + w_3) + w_6 ≤ ms ∧ mX3_entryAtHand l K c_5 w_6 [.ref a0, .int x1] h_1 (kQ (fun o_7 h_4 => (∃ a_8, o_7 = some a_8 ∧ ((∃ fs, h_4 a_8 = some (xO 0 fs)) ∧ (((0 + c_2) + c_5) + 0 ≤ mc ∧ ((0 + w_3) + w_6) + 0 ≤ ms ∧ mX0_isNone l K [.ref a_8] h_4 (kI (fun v_10 h_9 => ((v_10 = nI 0 → (∃ p_11, gf h_9 a_8 0 3 = some (.ref p_11) ∧ (∃ u_12, aJ K h_9 p_11 (nI 0) = some u_12 ∧ (((((0 + c_2) + c_5) + 0) ≤ mc ∧ (((0 + w_3) + w_6) + 0) ≤ ms) ∧ Post (.inl (some (.long u_12))) h_9)))) ∧ (¬ v_10 = nI 0 → ((((0 + c_2) + c_5) + 0) + 1 ≤ mc ∧ (((0 + w_3) + w_6) + 0) + 6 ≤ ms ∧ Post (.inr "java/util/NoSuchElementException") h_9))))))))))))) (fun E9 h9 => Post (.inr E9) h9))))) :
    mX3_value9 l K mc ms [.ref a0, .int x1] h Post := by
  refine MX.enter htr (by decide) rfl (Nat.le_of_ble_eq_true rfl) ?_
  refine J_lveq (lv' := [(0, .ref a0), (1, .int x1)]) rfl ?_
  refine J_aload_n dX3_value_0 0 rfl ?_
  refine J_iload_n dX3_value_1 1 rfl ?_
  refine J_iconst (v := nI 0) dX3_value_2 (by decide) ?_
  refine J_iconst (v := nI 3) dX3_value_3 (by decide) ?_
  obtain ⟨b9, F⟩ := F
  obtain ⟨c_2, w_3, k9, w9, F⟩ := F
  refine J_callV (ci := 3) (n := 3) (As := [.int x1, .int (nI 0), .int (nI 3)]) (rest := []) dX3_value_4 rfl gX3_value_X3_needToRead9 rfl (by decide +kernel) rfl (by decide) b9 (Nat.le_of_ble_eq_true rfl) k9 w9 F (kVX_kk (fun h_1 F => ?_)) (fun _ _ q9 => kVX_x q9)
  refine J_aload_n dX3_value_7 0 rfl ?_
  refine J_iload_n dX3_value_8 1 rfl ?_
  obtain ⟨b9, F⟩ := F
  obtain ⟨c_5, w_6, k9, w9, F⟩ := F
  refine J_callV0 (ci := 3) (n := 1) (As := [.int x1]) (rest := []) dX3_value_9 rfl gX3_value_X3_entryAtHand9 rfl (by decide +kernel) rfl (by decide) b9 (Nat.le_of_ble_eq_true rfl) k9 w9 F kQ_no (kQ_kk (fun o_7 h_4 F => ?_))
  refine J_astore_nq (lv' := [(2, va_rf o_7), (0, .ref a0), (1, .int x1)]) dX3_value_12 rfl (by decide) rfl ?_
  refine J_aload_nq dX3_value_13 0 rfl ?_
  obtain ⟨a_8, hq9, F⟩ := F
  rw [hq9]
  obtain ⟨b9, F⟩ := F
  obtain ⟨k9, w9, F⟩ := F
  refine J_callV0 (ci := 0) (n := 0) (As := []) (rest := []) dX3_value_14 rfl gX3_value_X0_isNone9 rfl (by decide +kernel) rfl (by decide) b9 (Nat.le_of_ble_eq_true rfl) k9 w9 F kI_no (kI_kk (fun v_10 h_9 F => ?_))
  refine J_if_eq (tgt := 30) dX3_value_17 (by decide) (fun c => ?_) (fun c => ?_)
  · replace F := F.1 c
    refine J_aload_n dX3_value_30 0 rfl ?_
    obtain ⟨p_11, g9, F⟩ := F
    refine J_get (ci := 0) (k := 3) dX3_value_31 rfl in_X3_value_09 (by decide) lk_X3_value_1009 g9 ?_
    refine J_iconst (v := nI 0) dX3_value_34 (by decide) ?_
    obtain ⟨u_12, g9, F⟩ := F
    refine J_lald dX3_value_35 g9 ?_
    obtain ⟨k9, F⟩ := F
    exact J_lret dX3_value_36 rfl k9.1 k9.2 F
  · replace F := F.2 c
    exact J_throwN (text := "there is no entry") dX3_value_20 dX3_value_23 dX3_value_24 dX3_value_26 dX3_value_29 wd_X3_value_k939 wd_X3_value_i_NoSuchElementException9 (by decide +kernel) at_X3_value_979 atn9_97 (by decide +kernel) gd9_93_97 (by decide) (Nat.le_of_ble_eq_true rfl) F.1 F.2.1 F.2.2

set_option maxRecDepth 20000 in
theorem ggL_value_X3_value9 : GoodIn wsL_value9 wsX3_value9 := goodIn_ca (goodIn_ca (goodIn_ca (goodIn_ca (goodIn_r _ [9, 10, 11, 12, 13, 14, 15, 8, 16, 17, 18, 19, 20, 21, 22, 23, 24, 25, 26, 27, 28, 29, 30, 31, 32, 33, 34, 35, 36, 37, 38, 39, 40, 41, 42, 43, 44, 45, 46, 47, 48, 49, 50, 51, 52, 53, 54, 55, 56, 57, 58, 59, 60, 61, 62, 63, 64, 65, 66, 67, 68, 69, 70, 71, 72, 73, 74, 75, 76, 77, 78, 79, 80, 81, 82, 83, 84, 85, 86, 87, 88, 89, 90, 91, 92, 93, 94, 95, 96, 97, 98, 99, 100] (by decide +kernel) (by decide +kernel)) (goodIn_sub (fun _ h => List.mem_cons_of_mem _ (List.mem_append_left _ (List.mem_append_left _ (List.mem_append_left _ (List.mem_append_right _ h))))) (by decide +kernel))) (goodIn_sub (fun _ h => List.mem_cons_of_mem _ (List.mem_append_left _ (List.mem_append_left _ (List.mem_append_right _ h)))) (by decide +kernel))) (goodIn_sub (fun _ h => List.mem_cons_of_mem _ (List.mem_append_left _ (List.mem_append_right _ h))) (by decide +kernel))) (goodIn_sub (fun _ h => List.mem_cons_of_mem _ (List.mem_append_right _ h)) (by decide +kernel))
set_option maxRecDepth 20000 in
theorem gL_value_X3_value9 : GoodIn wsL_value9 (wsV RL 19 RX3 yX3_value wsX3_value9) := goodIn_app (goodIn_of _ (by decide +kernel)) ggL_value_X3_value9
set_option maxRecDepth 20000 in
theorem ggL_get_X3_get9 : GoodIn wsL_get9 wsX3_get9 := goodIn_ca (goodIn_ca (goodIn_ca (goodIn_ca (goodIn_r _ [9, 10, 11, 12, 13, 14, 15, 8, 16, 17, 18, 19, 20, 21, 22, 23, 24, 25, 26, 27, 28, 29, 30, 31, 32, 33, 34, 35, 36, 37, 38, 39, 40, 41, 42, 43, 44, 45, 46, 47, 48, 49, 50, 51, 52, 53, 54, 55, 56, 57, 58, 59, 60, 61, 62, 63, 64, 65, 66, 67, 68, 69, 70, 71, 72, 73, 74, 75, 76, 77, 78, 79, 80, 81, 82, 83, 84, 85, 86, 87, 88, 89, 90, 91, 92, 93, 94, 95, 96, 97, 98, 99, 100, 101, 102, 103, 104, 105, 106] (by decide +kernel) (by decide +kernel)) (goodIn_sub (fun _ h => List.mem_cons_of_mem _ (List.mem_append_left _ (List.mem_append_left _ (List.mem_append_left _ (List.mem_append_right _ h))))) (by decide +kernel))) (goodIn_sub (fun _ h => List.mem_cons_of_mem _ (List.mem_append_left _ (List.mem_append_left _ (List.mem_append_right _ h)))) (by decide +kernel))) (goodIn_sub (fun _ h => List.mem_cons_of_mem _ (List.mem_append_left _ (List.mem_append_right _ h))) (by decide +kernel))) (goodIn_sub (fun _ h => List.mem_cons_of_mem _ (List.mem_append_right _ h)) (by decide +kernel))
set_option maxRecDepth 20000 in
theorem gL_get_X3_get9 : GoodIn wsL_get9 (wsV RL 36 RX3 yX3_get wsX3_get9) := goodIn_app (goodIn_of _ (by decide +kernel)) ggL_get_X3_get9
set_option maxRecDepth 20000 in
theorem ggL_ask_X3_ask9 : GoodIn wsL_ask9 wsX3_ask9 := goodIn_ca (goodIn_ca (goodIn_r _ [7, 8, 9, 10, 11, 12, 13, 6, 14, 15, 16, 17, 18, 19, 20, 21, 22, 23, 24, 25, 26, 27, 28, 29, 30, 31, 32, 33, 34, 35, 36, 37, 38, 39, 40, 41, 42, 43, 44, 45, 46, 47, 48, 49, 50, 51, 52, 53, 54, 55, 56, 57, 58, 59, 60, 61, 62, 63, 64, 65, 66, 67, 68, 69, 70, 71, 72, 73, 74, 75, 76, 77, 78, 79, 80, 81, 82, 83, 84, 85, 86, 87, 88] (by decide +kernel) (by decide +kernel)) (goodIn_sub (fun _ h => List.mem_cons_of_mem _ (List.mem_append_left _ (List.mem_append_right _ h))) (by decide +kernel))) (goodIn_sub (fun _ h => List.mem_cons_of_mem _ (List.mem_append_right _ h)) (by decide +kernel))
set_option maxRecDepth 20000 in
theorem gL_ask_X3_ask9 : GoodIn wsL_ask9 (wsV RL 67 RX3 yX3_ask wsX3_ask9) := goodIn_app (goodIn_of _ (by decide +kernel)) ggL_ask_X3_ask9
