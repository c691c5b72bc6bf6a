/-! ===== the law: its cases ===== -/
section Law
variable {b L : Nat} {xs : Nat → Int32} {l : Launch} {K : Kx} {F : List Nat} {x m out : Nat} {am : Nat → Nat} {hh : List (Nat × Nat × Nat × Nat)} {nm : String} {H : Hp} {g k0 : Nat}
set_option maxRecDepth 100000 in
set_option maxHeartbeats 4000000 in
theorem law_9 (htr : l.stackTraces = false) (fx : FX F m out am) (W : WS K F x m out am H g k0) (hg : 7 * g + 7 ≤ L) (hL : L ≤ 3584) (kend : ∀ H3 k, WS K F x m out am H3 (g + 1) k → JL (b, L, xs) l K hh nm 1899 [] [(4, .int (nI (7 * g))), (0, .ref b), (1, .ref x), (2, .ref m), (3, .ref out)] H3 (77 + 400 * (g + 1)) (25893 + 7000 * (g + 1))) :
    JL (b, L, xs) l K hh nm 768 [] [(4, .int (nI (7 * g))), (0, .ref b), (1, .ref x), (2, .ref m), (3, .ref out)] H (77 + 400 * g) (25893 + 7000 * g) := by
  have hg9 : g + 1 < 2 ^ 20 := by omega
  refine JX_aload_n dL_law_768 2 rfl ?_
  refine JL_rd (j := 1) dL_law_769 dL_law_770 dL_law_772 (by decide) dL_law_773 dL_law_774 (q0 := 1) (q4 := 0) rfl rfl (by omega) (by omega) ?_
  refine JL_rd (j := 2) dL_law_775 dL_law_776 dL_law_778 (by decide) dL_law_779 dL_law_780 (q0 := 1) (q4 := 0) rfl rfl (by omega) (by omega) ?_
  refine JX_i2l dL_law_781 ?_
  refine JX_bipush (v := nI 32) dL_law_782 (by decide) ?_
  refine JX_lshl dL_law_784 ?_
  refine JL_rd (j := 3) dL_law_785 dL_law_786 dL_law_788 (by decide) dL_law_789 dL_law_790 (q0 := 1) (q4 := 0) rfl rfl (by omega) (by omega) ?_
  refine JX_i2l dL_law_791 ?_
  refine JX_ldc2 (v := 4294967295) dL_law_792 law_k93 ?_
  refine JX_land dL_law_795 ?_
  refine JX_lor dL_law_796 ?_
  refine JX_aload_n dL_law_797 4 rfl ?_
  refine JX_callSW (n := 4) (As := [.ref x, .int (xs (7 * g + 1)), .long (((((xs (7 * g + 2)).toInt64) <<< ((nI 32).toInt64 &&& 63)) ||| (((xs (7 * g + 3)).toInt64) &&& 4294967295))), .ref out]) (rest := []) dL_law_798 gL_law_L_get rfl (by decide +kernel) rfl (by decide) (Nat.le_of_ble_eq_true rfl) (by omega) (by omega) (lw_get htr fx W hg9) kI_no (kI_kx (fun kq H2 Gq => ?_))
  obtain ⟨kn, r, rfl, k5, hom, ⟨f, hf, hf0⟩, Gq⟩ := Gq
  refine JX_istore (lv' := [(5, .int (nI kn)), (4, .int (nI (7 * g))), (0, .ref b), (1, .ref x), (2, .ref m), (3, .ref out)]) dL_law_801 (by decide) rfl ?_
  refine JX_aload_n dL_law_803 4 rfl ?_
  refine JL_rd (j := 1) dL_law_804 dL_law_805 dL_law_807 (by decide) dL_law_808 dL_law_809 (q0 := 2) (q4 := 1) rfl rfl (by omega) (by omega) ?_
  refine JL_rd (j := 2) dL_law_810 dL_law_811 dL_law_813 (by decide) dL_law_814 dL_law_815 (q0 := 2) (q4 := 1) rfl rfl (by omega) (by omega) ?_
  refine JX_i2l dL_law_816 ?_
  refine JX_bipush (v := nI 32) dL_law_817 (by decide) ?_
  refine JX_lshl dL_law_819 ?_
  refine JL_rd (j := 3) dL_law_820 dL_law_821 dL_law_823 (by decide) dL_law_824 dL_law_825 (q0 := 2) (q4 := 1) rfl rfl (by omega) (by omega) ?_
  refine JX_i2l dL_law_826 ?_
  refine JX_ldc2 (v := 4294967295) dL_law_827 law_k93 ?_
  refine JX_land dL_law_830 ?_
  refine JX_lor dL_law_831 ?_
  refine JX_callV0 (ci := 4) (n := 2) (As := [.int (xs (7 * g + 1)), .long (((((xs (7 * g + 2)).toInt64) <<< ((nI 32).toInt64 &&& 63)) ||| (((xs (7 * g + 3)).toInt64) &&& 4294967295)))]) (rest := []) dL_law_832 rfl gL_law_X4_get rfl (by decide +kernel) rfl (by decide) hom (Nat.le_of_ble_eq_true rfl) (by omega) (by omega) Gq kH_no (kH_kx (fun r' H3 Gr => ?_))
  obtain ⟨W3, o3, hr⟩ := Gr
  refine JX_lstore (lv' := [(6, .long r'), (5, .int (nI kn)), (4, .int (nI (7 * g))), (0, .ref b), (1, .ref x), (2, .ref m), (3, .ref out)]) dL_law_835 (by decide) rfl ?_
  refine JX_aload_n dL_law_837 5 rfl ?_
  refine JX_callV0 (ci := 4) (n := 0) (As := []) (rest := []) dL_law_838 rfl gL_law_X4_thrown rfl (by decide +kernel) rfl (by decide) W3.om (Nat.le_of_ble_eq_true rfl) (by omega) (by omega) (W3.thr htr) kI_no (kI_kx (fun tq H4 Gt => ?_))
  obtain ⟨rfl, rfl⟩ := Gt
  refine JX_iload dL_law_841 1 rfl ?_
  refine JX_icmp_eq (tgt := 848) dL_law_843 (by decide) (fun _ => ?_) (fun c => absurd rfl c)
  refine JX_iload dL_law_848 1 rfl ?_
  refine JX_if_ne (tgt := 864) dL_law_850 (by decide) (fun _ => ?_) (fun c => ?_)
  · skip
    refine JX_goto (tgt := 1899) dL_law_864 (by decide) ?_
    exact JX_sub [2, 3, 4, 5, 6] rfl (JX_wide (by omega) (by omega) (kend _ _ W3))
  · have kn0 : kn = 0 := (nI_eq (by omega) (by omega)).mp c
    have hrr := hr kn0
    have hff := hf0 kn0
    refine JX_aload_n dL_law_853 6 rfl ?_
    refine JX_iconst (v := nI 0) dL_law_854 (by decide) ?_
    refine JX_lald (v := f 0) dL_law_855 (aJ_x (o3.trans hf) (by decide) (by decide)) ?_
    refine JX_lload dL_law_856 0 rfl ?_
    refine JX_lcmp dL_law_858 ?_
    refine JX_if_eq (tgt := 864) dL_law_859 (by decide) (fun _ => ?_) (fun c9 => absurd (by rw [hff, ← hrr]; exact cmp_self _) c9)
    refine JX_goto (tgt := 1899) dL_law_864 (by decide) ?_
    exact JX_sub [2, 3, 4, 5, 6] rfl (JX_wide (by omega) (by omega) (kend _ _ W3))
set_option maxRecDepth 100000 in
set_option maxHeartbeats 4000000 in
theorem law_10 (htr : l.stackTraces = false) (fx : FX F m out am) (W : WS K F x m out am H g k0) (hg : 7 * g + 7 ≤ L) (hL : L ≤ 3584) (kend : ∀ H3 k, WS K F x m out am H3 (g + 1) k → JL (b, L, xs) l K hh nm 1899 [] [(4, .int (nI (7 * g))), (0, .ref b), (1, .ref x), (2, .ref m), (3, .ref out)] H3 (77 + 400 * (g + 1)) (25893 + 7000 * (g + 1))) :
    JL (b, L, xs) l K hh nm 867 [] [(4, .int (nI (7 * g))), (0, .ref b), (1, .ref x), (2, .ref m), (3, .ref out)] H (77 + 400 * g) (25893 + 7000 * g) := by
  have hg9 : g + 1 < 2 ^ 20 := by omega
  refine JX_aload_n dL_law_867 2 rfl ?_
  refine JL_rd (j := 1) dL_law_868 dL_law_869 dL_law_871 (by decide) dL_law_872 dL_law_873 (q0 := 1) (q4 := 0) rfl rfl (by omega) (by omega) ?_
  refine JL_rd (j := 2) dL_law_874 dL_law_875 dL_law_877 (by decide) dL_law_878 dL_law_879 (q0 := 1) (q4 := 0) rfl rfl (by omega) (by omega) ?_
  refine JX_aload_n dL_law_880 4 rfl ?_
  refine JX_callSW (n := 4) (As := [.ref x, .int (xs (7 * g + 1)), .int (xs (7 * g + 2)), .ref out]) (rest := []) dL_law_881 gL_law_L_member rfl (by decide +kernel) rfl (by decide) (Nat.le_of_ble_eq_true rfl) (by omega) (by omega) (lw_member htr fx W hg9) kI_no (kI_kx (fun kq H2 Gq => ?_))
  obtain ⟨kn, r, rfl, k5, hom, ⟨f, hf, hf0⟩, Gq⟩ := Gq
  refine JX_istore (lv' := [(5, .int (nI kn)), (4, .int (nI (7 * g))), (0, .ref b), (1, .ref x), (2, .ref m), (3, .ref out)]) dL_law_884 (by decide) rfl ?_
  refine JX_aload_n dL_law_886 4 rfl ?_
  refine JL_rd (j := 1) dL_law_887 dL_law_888 dL_law_890 (by decide) dL_law_891 dL_law_892 (q0 := 2) (q4 := 1) rfl rfl (by omega) (by omega) ?_
  refine JL_rd (j := 2) dL_law_893 dL_law_894 dL_law_896 (by decide) dL_law_897 dL_law_898 (q0 := 2) (q4 := 1) rfl rfl (by omega) (by omega) ?_
  refine JX_callV0 (ci := 4) (n := 2) (As := [.int (xs (7 * g + 1)), .int (xs (7 * g + 2))]) (rest := []) dL_law_899 rfl gL_law_X4_member rfl (by decide +kernel) rfl (by decide) hom (Nat.le_of_ble_eq_true rfl) (by omega) (by omega) Gq kH_no (kH_kx (fun r' H3 Gr => ?_))
  obtain ⟨W3, o3, hr⟩ := Gr
  refine JX_lstore (lv' := [(6, .long r'), (5, .int (nI kn)), (4, .int (nI (7 * g))), (0, .ref b), (1, .ref x), (2, .ref m), (3, .ref out)]) dL_law_902 (by decide) rfl ?_
  refine JX_aload_n dL_law_904 5 rfl ?_
  refine JX_callV0 (ci := 4) (n := 0) (As := []) (rest := []) dL_law_905 rfl gL_law_X4_thrown rfl (by decide +kernel) rfl (by decide) W3.om (Nat.le_of_ble_eq_true rfl) (by omega) (by omega) (W3.thr htr) kI_no (kI_kx (fun tq H4 Gt => ?_))
  obtain ⟨rfl, rfl⟩ := Gt
  refine JX_iload dL_law_908 1 rfl ?_
  refine JX_icmp_eq (tgt := 915) dL_law_910 (by decide) (fun _ => ?_) (fun c => absurd rfl c)
  refine JX_iload dL_law_915 1 rfl ?_
  refine JX_if_ne (tgt := 931) dL_law_917 (by decide) (fun _ => ?_) (fun c => ?_)
  · skip
    refine JX_goto (tgt := 1899) dL_law_931 (by decide) ?_
    exact JX_sub [2, 3, 4, 5, 6] rfl (JX_wide (by omega) (by omega) (kend _ _ W3))
  · have kn0 : kn = 0 := (nI_eq (by omega) (by omega)).mp c
    have hrr := hr kn0
    have hff := hf0 kn0
    refine JX_aload_n dL_law_920 6 rfl ?_
    refine JX_iconst (v := nI 0) dL_law_921 (by decide) ?_
    refine JX_lald (v := f 0) dL_law_922 (aJ_x (o3.trans hf) (by decide) (by decide)) ?_
    refine JX_lload dL_law_923 0 rfl ?_
    refine JX_lcmp dL_law_925 ?_
    refine JX_if_eq (tgt := 931) dL_law_926 (by decide) (fun _ => ?_) (fun c9 => absurd (by rw [hff, ← hrr]; exact cmp_self _) c9)
    refine JX_goto (tgt := 1899) dL_law_931 (by decide) ?_
    exact JX_sub [2, 3, 4, 5, 6] rfl (JX_wide (by omega) (by omega) (kend _ _ W3))
set_option maxRecDepth 100000 in
set_option maxHeartbeats 4000000 in
theorem law_11 (htr : l.stackTraces = false) (fx : FX F m out am) (W : WS K F x m out am H g k0) (hg : 7 * g + 7 ≤ L) (hL : L ≤ 3584) (kend : ∀ H3 k, WS K F x m out am H3 (g + 1) k → JL (b, L, xs) l K hh nm 1899 [] [(4, .int (nI (7 * g))), (0, .ref b), (1, .ref x), (2, .ref m), (3, .ref out)] H3 (77 + 400 * (g + 1)) (25893 + 7000 * (g + 1))) :
    JL (b, L, xs) l K hh nm 934 [] [(4, .int (nI (7 * g))), (0, .ref b), (1, .ref x), (2, .ref m), (3, .ref out)] H (77 + 400 * g) (25893 + 7000 * g) := by
  have hg9 : g + 1 < 2 ^ 20 := by omega
  refine JX_aload_n dL_law_934 2 rfl ?_
  refine JL_rd (j := 1) dL_law_935 dL_law_936 dL_law_938 (by decide) dL_law_939 dL_law_940 (q0 := 1) (q4 := 0) rfl rfl (by omega) (by omega) ?_
  refine JL_rd (j := 2) dL_law_941 dL_law_942 dL_law_944 (by decide) dL_law_945 dL_law_946 (q0 := 1) (q4 := 0) rfl rfl (by omega) (by omega) ?_
  refine JX_i2l dL_law_947 ?_
  refine JX_bipush (v := nI 32) dL_law_948 (by decide) ?_
  refine JX_lshl dL_law_950 ?_
  refine JL_rd (j := 3) dL_law_951 dL_law_952 dL_law_954 (by decide) dL_law_955 dL_law_956 (q0 := 1) (q4 := 0) rfl rfl (by omega) (by omega) ?_
  refine JX_i2l dL_law_957 ?_
  refine JX_ldc2 (v := 4294967295) dL_law_958 law_k93 ?_
  refine JX_land dL_law_961 ?_
  refine JX_lor dL_law_962 ?_
  refine JX_aload_n dL_law_963 4 rfl ?_
  refine JX_callSW (n := 4) (As := [.ref x, .int (xs (7 * g + 1)), .long (((((xs (7 * g + 2)).toInt64) <<< ((nI 32).toInt64 &&& 63)) ||| (((xs (7 * g + 3)).toInt64) &&& 4294967295))), .ref out]) (rest := []) dL_law_964 gL_law_L_remove rfl (by decide +kernel) rfl (by decide) (Nat.le_of_ble_eq_true rfl) (by omega) (by omega) (lw_remove htr fx W hg9) kI_no (kI_kx (fun kq H2 Gq => ?_))
  obtain ⟨kn, r, rfl, k5, hom, ⟨f, hf, hf0⟩, Gq⟩ := Gq
  refine JX_istore (lv' := [(5, .int (nI kn)), (4, .int (nI (7 * g))), (0, .ref b), (1, .ref x), (2, .ref m), (3, .ref out)]) dL_law_967 (by decide) rfl ?_
  refine JX_aload_n dL_law_969 4 rfl ?_
  refine JL_rd (j := 1) dL_law_970 dL_law_971 dL_law_973 (by decide) dL_law_974 dL_law_975 (q0 := 2) (q4 := 1) rfl rfl (by omega) (by omega) ?_
  refine JL_rd (j := 2) dL_law_976 dL_law_977 dL_law_979 (by decide) dL_law_980 dL_law_981 (q0 := 2) (q4 := 1) rfl rfl (by omega) (by omega) ?_
  refine JX_i2l dL_law_982 ?_
  refine JX_bipush (v := nI 32) dL_law_983 (by decide) ?_
  refine JX_lshl dL_law_985 ?_
  refine JL_rd (j := 3) dL_law_986 dL_law_987 dL_law_989 (by decide) dL_law_990 dL_law_991 (q0 := 2) (q4 := 1) rfl rfl (by omega) (by omega) ?_
  refine JX_i2l dL_law_992 ?_
  refine JX_ldc2 (v := 4294967295) dL_law_993 law_k93 ?_
  refine JX_land dL_law_996 ?_
  refine JX_lor dL_law_997 ?_
  refine JX_callV0 (ci := 4) (n := 2) (As := [.int (xs (7 * g + 1)), .long (((((xs (7 * g + 2)).toInt64) <<< ((nI 32).toInt64 &&& 63)) ||| (((xs (7 * g + 3)).toInt64) &&& 4294967295)))]) (rest := []) dL_law_998 rfl gL_law_X4_remove rfl (by decide +kernel) rfl (by decide) hom (Nat.le_of_ble_eq_true rfl) (by omega) (by omega) Gq kH_no (kH_kx (fun r' H3 Gr => ?_))
  obtain ⟨W3, o3, hr⟩ := Gr
  refine JX_istore (lv' := [(6, .int r'), (5, .int (nI kn)), (4, .int (nI (7 * g))), (0, .ref b), (1, .ref x), (2, .ref m), (3, .ref out)]) dL_law_1001 (by decide) rfl ?_
  refine JX_aload_n dL_law_1003 5 rfl ?_
  refine JX_callV0 (ci := 4) (n := 0) (As := []) (rest := []) dL_law_1004 rfl gL_law_X4_thrown rfl (by decide +kernel) rfl (by decide) W3.om (Nat.le_of_ble_eq_true rfl) (by omega) (by omega) (W3.thr htr) kI_no (kI_kx (fun tq H4 Gt => ?_))
  obtain ⟨rfl, rfl⟩ := Gt
  refine JX_iload dL_law_1007 1 rfl ?_
  refine JX_icmp_eq (tgt := 1014) dL_law_1009 (by decide) (fun _ => ?_) (fun c => absurd rfl c)
  refine JX_iload dL_law_1014 1 rfl ?_
  refine JX_if_ne (tgt := 1038) dL_law_1016 (by decide) (fun _ => ?_) (fun c => ?_)
  · skip
    refine JX_goto (tgt := 1899) dL_law_1038 (by decide) ?_
    exact JX_sub [2, 3, 4, 5, 6] rfl (JX_wide (by omega) (by omega) (kend _ _ W3))
  · have kn0 : kn = 0 := (nI_eq (by omega) (by omega)).mp c
    have hrr := hr kn0
    have hff := hf0 kn0
    refine JX_aload_n dL_law_1019 6 rfl ?_
    refine JX_iconst (v := nI 0) dL_law_1020 (by decide) ?_
    refine JX_lald (v := f 0) dL_law_1021 (aJ_x (o3.trans hf) (by decide) (by decide)) ?_
    refine JX_iload dL_law_1022 0 rfl ?_
    refine JX_if_eq (tgt := 1031) dL_law_1024 (by decide) (fun c2 => ?_) (fun c2 => ?_)
    · refine JX_lconst (v := 0) dL_law_1031 (by decide) ?_
      refine JX_lcmp dL_law_1032 ?_
      refine JX_if_eq (tgt := 1038) dL_law_1033 (by decide) (fun _ => ?_) (fun c9 => absurd (by rw [hff, ← hrr, tlZ, if_pos c2]; exact cmp_self _) c9)
      refine JX_goto (tgt := 1899) dL_law_1038 (by decide) ?_
      exact JX_sub [2, 3, 4, 5, 6] rfl (JX_wide (by omega) (by omega) (kend _ _ W3))
    · refine JX_lconst (v := 1) dL_law_1027 (by decide) ?_
      refine JX_goto (tgt := 1032) dL_law_1028 (by decide) ?_
      refine JX_lcmp dL_law_1032 ?_
      refine JX_if_eq (tgt := 1038) dL_law_1033 (by decide) (fun _ => ?_) (fun c9 => absurd (by rw [hff, ← hrr, tlZ, if_neg c2]; exact cmp_self _) c9)
      refine JX_goto (tgt := 1899) dL_law_1038 (by decide) ?_
      exact JX_sub [2, 3, 4, 5, 6] rfl (JX_wide (by omega) (by omega) (kend _ _ W3))
set_option maxRecDepth 100000 in
set_option maxHeartbeats 4000000 in
theorem law_12 (htr : l.stackTraces = false) (fx : FX F m out am) (W : WS K F x m out am H g k0) (hg : 7 * g + 7 ≤ L) (hL : L ≤ 3584) (kend : ∀ H3 k, WS K F x m out am H3 (g + 1) k → JL (b, L, xs) l K hh nm 1899 [] [(4, .int (nI (7 * g))), (0, .ref b), (1, .ref x), (2, .ref m), (3, .ref out)] H3 (77 + 400 * (g + 1)) (25893 + 7000 * (g + 1))) :
    JL (b, L, xs) l K hh nm 1041 [] [(4, .int (nI (7 * g))), (0, .ref b), (1, .ref x), (2, .ref m), (3, .ref out)] H (77 + 400 * g) (25893 + 7000 * g) := by
  have hg9 : g + 1 < 2 ^ 20 := by omega
  refine JX_aload_n dL_law_1041 2 rfl ?_
  refine JL_rd (j := 1) dL_law_1042 dL_law_1043 dL_law_1045 (by decide) dL_law_1046 dL_law_1047 (q0 := 1) (q4 := 0) rfl rfl (by omega) (by omega) ?_
  refine JL_rd (j := 2) dL_law_1048 dL_law_1049 dL_law_1051 (by decide) dL_law_1052 dL_law_1053 (q0 := 1) (q4 := 0) rfl rfl (by omega) (by omega) ?_
  refine JX_i2l dL_law_1054 ?_
  refine JX_bipush (v := nI 32) dL_law_1055 (by decide) ?_
  refine JX_lshl dL_law_1057 ?_
  refine JL_rd (j := 3) dL_law_1058 dL_law_1059 dL_law_1061 (by decide) dL_law_1062 dL_law_1063 (q0 := 1) (q4 := 0) rfl rfl (by omega) (by omega) ?_
  refine JX_i2l dL_law_1064 ?_
  refine JX_ldc2 (v := 4294967295) dL_law_1065 law_k93 ?_
  refine JX_land dL_law_1068 ?_
  refine JX_lor dL_law_1069 ?_
  refine JX_aload_n dL_law_1070 4 rfl ?_
  refine JX_callSW (n := 4) (As := [.ref x, .int (xs (7 * g + 1)), .long (((((xs (7 * g + 2)).toInt64) <<< ((nI 32).toInt64 &&& 63)) ||| (((xs (7 * g + 3)).toInt64) &&& 4294967295))), .ref out]) (rest := []) dL_law_1071 gL_law_L_fold rfl (by decide +kernel) rfl (by decide) (Nat.le_of_ble_eq_true rfl) (by omega) (by omega) (lw_fold htr fx W hg9) kI_no (kI_kx (fun kq H2 Gq => ?_))
  obtain ⟨kn, r, rfl, k5, hom, ⟨f, hf, hf0⟩, Gq⟩ := Gq
  refine JX_istore (lv' := [(5, .int (nI kn)), (4, .int (nI (7 * g))), (0, .ref b), (1, .ref x), (2, .ref m), (3, .ref out)]) dL_law_1074 (by decide) rfl ?_
  refine JX_aload_n dL_law_1076 4 rfl ?_
  refine JL_rd (j := 1) dL_law_1077 dL_law_1078 dL_law_1080 (by decide) dL_law_1081 dL_law_1082 (q0 := 2) (q4 := 1) rfl rfl (by omega) (by omega) ?_
  refine JL_rd (j := 2) dL_law_1083 dL_law_1084 dL_law_1086 (by decide) dL_law_1087 dL_law_1088 (q0 := 2) (q4 := 1) rfl rfl (by omega) (by omega) ?_
  refine JX_i2l dL_law_1089 ?_
  refine JX_bipush (v := nI 32) dL_law_1090 (by decide) ?_
  refine JX_lshl dL_law_1092 ?_
  refine JL_rd (j := 3) dL_law_1093 dL_law_1094 dL_law_1096 (by decide) dL_law_1097 dL_law_1098 (q0 := 2) (q4 := 1) rfl rfl (by omega) (by omega) ?_
  refine JX_i2l dL_law_1099 ?_
  refine JX_ldc2 (v := 4294967295) dL_law_1100 law_k93 ?_
  refine JX_land dL_law_1103 ?_
  refine JX_lor dL_law_1104 ?_
  refine JX_callV0 (ci := 4) (n := 2) (As := [.int (xs (7 * g + 1)), .long (((((xs (7 * g + 2)).toInt64) <<< ((nI 32).toInt64 &&& 63)) ||| (((xs (7 * g + 3)).toInt64) &&& 4294967295)))]) (rest := []) dL_law_1105 rfl gL_law_X4_fold rfl (by decide +kernel) rfl (by decide) hom (Nat.le_of_ble_eq_true rfl) (by omega) (by omega) Gq kH_no (kH_kx (fun r' H3 Gr => ?_))
  obtain ⟨W3, o3, hr⟩ := Gr
  refine JX_istore (lv' := [(6, .int r'), (5, .int (nI kn)), (4, .int (nI (7 * g))), (0, .ref b), (1, .ref x), (2, .ref m), (3, .ref out)]) dL_law_1108 (by decide) rfl ?_
  refine JX_aload_n dL_law_1110 5 rfl ?_
  refine JX_callV0 (ci := 4) (n := 0) (As := []) (rest := []) dL_law_1111 rfl gL_law_X4_thrown rfl (by decide +kernel) rfl (by decide) W3.om (Nat.le_of_ble_eq_true rfl) (by omega) (by omega) (W3.thr htr) kI_no (kI_kx (fun tq H4 Gt => ?_))
  obtain ⟨rfl, rfl⟩ := Gt
  refine JX_iload dL_law_1114 1 rfl ?_
  refine JX_icmp_eq (tgt := 1121) dL_law_1116 (by decide) (fun _ => ?_) (fun c => absurd rfl c)
  refine JX_iload dL_law_1121 1 rfl ?_
  refine JX_if_ne (tgt := 1138) dL_law_1123 (by decide) (fun _ => ?_) (fun c => ?_)
  · skip
    refine JX_goto (tgt := 1899) dL_law_1138 (by decide) ?_
    exact JX_sub [2, 3, 4, 5, 6] rfl (JX_wide (by omega) (by omega) (kend _ _ W3))
  · have kn0 : kn = 0 := (nI_eq (by omega) (by omega)).mp c
    have hrr := hr kn0
    have hff := hf0 kn0
    refine JX_aload_n dL_law_1126 6 rfl ?_
    refine JX_iconst (v := nI 0) dL_law_1127 (by decide) ?_
    refine JX_lald (v := f 0) dL_law_1128 (aJ_x (o3.trans hf) (by decide) (by decide)) ?_
    refine JX_iload dL_law_1129 0 rfl ?_
    refine JX_i2l dL_law_1131 ?_
    refine JX_lcmp dL_law_1132 ?_
    refine JX_if_eq (tgt := 1138) dL_law_1133 (by decide) (fun _ => ?_) (fun c9 => absurd (by rw [hff, ← hrr]; exact cmp_self _) c9)
    refine JX_goto (tgt := 1899) dL_law_1138 (by decide) ?_
    exact JX_sub [2, 3, 4, 5, 6] rfl (JX_wide (by omega) (by omega) (kend _ _ W3))
set_option maxRecDepth 100000 in
set_option maxHeartbeats 4000000 in
theorem law_13 (htr : l.stackTraces = false) (fx : FX F m out am) (W : WS K F x m out am H g k0) (hg : 7 * g + 7 ≤ L) (hL : L ≤ 3584) (kend : ∀ H3 k, WS K F x m out am H3 (g + 1) k → JL (b, L, xs) l K hh nm 1899 [] [(4, .int (nI (7 * g))), (0, .ref b), (1, .ref x), (2, .ref m), (3, .ref out)] H3 (77 + 400 * (g + 1)) (25893 + 7000 * (g + 1))) :
    JL (b, L, xs) l K hh nm 1141 [] [(4, .int (nI (7 * g))), (0, .ref b), (1, .ref x), (2, .ref m), (3, .ref out)] H (77 + 400 * g) (25893 + 7000 * g) := by
  have hg9 : g + 1 < 2 ^ 20 := by omega
  refine JX_aload_n dL_law_1141 2 rfl ?_
  refine JL_rd (j := 1) dL_law_1142 dL_law_1143 dL_law_1145 (by decide) dL_law_1146 dL_law_1147 (q0 := 1) (q4 := 0) rfl rfl (by omega) (by omega) ?_
  refine JX_aload_n dL_law_1148 4 rfl ?_
  refine JX_callSW (n := 3) (As := [.ref x, .int (xs (7 * g + 1)), .ref out]) (rest := []) dL_law_1149 gL_law_L_size rfl (by decide +kernel) rfl (by decide) (Nat.le_of_ble_eq_true rfl) (by omega) (by omega) (lw_size htr fx W hg9) kI_no (kI_kx (fun kq H2 Gq => ?_))
  obtain ⟨kn, r, rfl, k5, hom, ⟨f, hf, hf0⟩, Gq⟩ := Gq
  refine JX_istore (lv' := [(5, .int (nI kn)), (4, .int (nI (7 * g))), (0, .ref b), (1, .ref x), (2, .ref m), (3, .ref out)]) dL_law_1152 (by decide) rfl ?_
  refine JX_aload_n dL_law_1154 4 rfl ?_
  refine JL_rd (j := 1) dL_law_1155 dL_law_1156 dL_law_1158 (by decide) dL_law_1159 dL_law_1160 (q0 := 2) (q4 := 1) rfl rfl (by omega) (by omega) ?_
  refine JX_callV0 (ci := 4) (n := 1) (As := [.int (xs (7 * g + 1))]) (rest := []) dL_law_1161 rfl gL_law_X4_size rfl (by decide +kernel) rfl (by decide) hom (Nat.le_of_ble_eq_true rfl) (by omega) (by omega) Gq kH_no (kH_kx (fun r' H3 Gr => ?_))
  obtain ⟨W3, o3, hr⟩ := Gr
  refine JX_istore (lv' := [(6, .int r'), (5, .int (nI kn)), (4, .int (nI (7 * g))), (0, .ref b), (1, .ref x), (2, .ref m), (3, .ref out)]) dL_law_1164 (by decide) rfl ?_
  refine JX_aload_n dL_law_1166 5 rfl ?_
  refine JX_callV0 (ci := 4) (n := 0) (As := []) (rest := []) dL_law_1167 rfl gL_law_X4_thrown rfl (by decide +kernel) rfl (by decide) W3.om (Nat.le_of_ble_eq_true rfl) (by omega) (by omega) (W3.thr htr) kI_no (kI_kx (fun tq H4 Gt => ?_))
  obtain ⟨rfl, rfl⟩ := Gt
  refine JX_iload dL_law_1170 1 rfl ?_
  refine JX_icmp_eq (tgt := 1177) dL_law_1172 (by decide) (fun _ => ?_) (fun c => absurd rfl c)
  refine JX_iload dL_law_1177 1 rfl ?_
  refine JX_if_ne (tgt := 1194) dL_law_1179 (by decide) (fun _ => ?_) (fun c => ?_)
  · skip
    refine JX_goto (tgt := 1899) dL_law_1194 (by decide) ?_
    exact JX_sub [2, 3, 4, 5, 6] rfl (JX_wide (by omega) (by omega) (kend _ _ W3))
  · have kn0 : kn = 0 := (nI_eq (by omega) (by omega)).mp c
    have hrr := hr kn0
    have hff := hf0 kn0
    refine JX_aload_n dL_law_1182 6 rfl ?_
    refine JX_iconst (v := nI 0) dL_law_1183 (by decide) ?_
    refine JX_lald (v := f 0) dL_law_1184 (aJ_x (o3.trans hf) (by decide) (by decide)) ?_
    refine JX_iload dL_law_1185 0 rfl ?_
    refine JX_i2l dL_law_1187 ?_
    refine JX_lcmp dL_law_1188 ?_
    refine JX_if_eq (tgt := 1194) dL_law_1189 (by decide) (fun _ => ?_) (fun c9 => absurd (by rw [hff, ← hrr]; exact cmp_self _) c9)
    refine JX_goto (tgt := 1899) dL_law_1194 (by decide) ?_
    exact JX_sub [2, 3, 4, 5, 6] rfl (JX_wide (by omega) (by omega) (kend _ _ W3))
end Law
