/-! ===== the law: its cases ===== -/
theorem law_k93 : Cond.constantLong RL 93 (4294967295) ∈ wsL_law9 := by decide +kernel
section Law
variable {b L : Nat} {xs : Nat → Int32} {l : Launch} {K : Kx} {F : List Nat} {x m out : Nat} {am : Nat → Nat} {hh : List (Nat × Nat × Nat × Nat)} {nm : String} {H : Hp} {g k0 : Nat}
set_option maxRecDepth 100000 in
set_option maxHeartbeats 4000000 in
theorem law_0 (htr : l.stackTraces = false) (fx : FX F m out am) (W : WS K F x m out am H g k0) (hg : 7 * g + 7 ≤ L) (hL : L ≤ 3584) (kend : ∀ H3 k, WS K F x m out am H3 (g + 1) k → JL (b, L, xs) l K hh nm 1899 [] [(4, .int (nI (7 * g))), (0, .ref b), (1, .ref x), (2, .ref m), (3, .ref out)] H3 (77 + 400 * (g + 1)) (25893 + 7000 * (g + 1))) :
    JL (b, L, xs) l K hh nm 160 [] [(4, .int (nI (7 * g))), (0, .ref b), (1, .ref x), (2, .ref m), (3, .ref out)] H (77 + 400 * g) (25893 + 7000 * g) := by
  have hg9 : g + 1 < 2 ^ 20 := by omega
  refine JX_aload_n dL_law_160 2 rfl ?_
  refine JL_rd (j := 1) dL_law_161 dL_law_162 dL_law_164 (by decide) dL_law_165 dL_law_166 (q0 := 1) (q4 := 0) rfl rfl (by omega) (by omega) ?_
  refine JL_rd (j := 2) dL_law_167 dL_law_168 dL_law_170 (by decide) dL_law_171 dL_law_172 (q0 := 1) (q4 := 0) rfl rfl (by omega) (by omega) ?_
  refine JL_rd (j := 3) dL_law_173 dL_law_174 dL_law_176 (by decide) dL_law_177 dL_law_178 (q0 := 1) (q4 := 0) rfl rfl (by omega) (by omega) ?_
  refine JX_callV0 (ci := 3) (n := 3) (As := [.int (xs (7 * g + 1)), .int (xs (7 * g + 2)), .int (xs (7 * g + 3))]) (rest := []) dL_law_179 rfl gL_law_X3_state rfl (by decide +kernel) rfl (by decide) W.ob (Nat.le_of_ble_eq_true rfl) (by omega) (by omega) (tw_state htr fx W hg9) kI_no (kI_kx (fun a H2 Gq => ?_))
  obtain ⟨⟨⟨f, hf⟩, hom⟩, Gq⟩ := Gq
  refine JX_aload_n dL_law_182 3 rfl ?_
  refine JL_rd (j := 1) dL_law_183 dL_law_184 dL_law_186 (by decide) dL_law_187 dL_law_188 (q0 := 1) (q4 := 0) rfl rfl (by omega) (by omega) ?_
  refine JL_rd (j := 2) dL_law_189 dL_law_190 dL_law_192 (by decide) dL_law_193 dL_law_194 (q0 := 1) (q4 := 0) rfl rfl (by omega) (by omega) ?_
  refine JL_rd (j := 3) dL_law_195 dL_law_196 dL_law_198 (by decide) dL_law_199 dL_law_200 (q0 := 1) (q4 := 0) rfl rfl (by omega) (by omega) ?_
  refine JX_callV0 (ci := 4) (n := 3) (As := [.int (xs (7 * g + 1)), .int (xs (7 * g + 2)), .int (xs (7 * g + 3))]) (rest := [.int a]) dL_law_201 rfl gL_law_X4_state rfl (by decide +kernel) rfl (by decide) hom (Nat.le_of_ble_eq_true rfl) (by omega) (by omega) (Gq _ ⟨fun _ _ => rfl, f, hf⟩) kH_no (kH_kx (fun r' H3 Gr => ?_))
  obtain ⟨W3, o3, hr⟩ := Gr
  refine JX_icmp_eq (tgt := 1899) dL_law_204 (by decide) (fun _ => ?_) (fun c => absurd (hr rfl).symm c)
  exact JX_sub [0, 1, 2, 3, 4] rfl (JX_wide (by omega) (by omega) (kend _ _ W3))
set_option maxRecDepth 100000 in
set_option maxHeartbeats 4000000 in
theorem law_1 (htr : l.stackTraces = false) (fx : FX F m out am) (W : WS K F x m out am H g k0) (hg : 7 * g + 7 ≤ L) (hL : L ≤ 3584) (kend : ∀ H3 k, WS K F x m out am H3 (g + 1) k → JL (b, L, xs) l K hh nm 1899 [] [(4, .int (nI (7 * g))), (0, .ref b), (1, .ref x), (2, .ref m), (3, .ref out)] H3 (77 + 400 * (g + 1)) (25893 + 7000 * (g + 1))) :
    JL (b, L, xs) l K hh nm 209 [] [(4, .int (nI (7 * g))), (0, .ref b), (1, .ref x), (2, .ref m), (3, .ref out)] H (77 + 400 * g) (25893 + 7000 * g) := by
  have hg9 : g + 1 < 2 ^ 20 := by omega
  refine JX_aload_n dL_law_209 2 rfl ?_
  refine JL_rd (j := 1) dL_law_210 dL_law_211 dL_law_213 (by decide) dL_law_214 dL_law_215 (q0 := 1) (q4 := 0) rfl rfl (by omega) (by omega) ?_
  refine JX_i2l dL_law_216 ?_
  refine JX_bipush (v := nI 32) dL_law_217 (by decide) ?_
  refine JX_lshl dL_law_219 ?_
  refine JL_rd (j := 2) dL_law_220 dL_law_221 dL_law_223 (by decide) dL_law_224 dL_law_225 (q0 := 1) (q4 := 0) rfl rfl (by omega) (by omega) ?_
  refine JX_i2l dL_law_226 ?_
  refine JX_ldc2 (v := 4294967295) dL_law_227 law_k93 ?_
  refine JX_land dL_law_230 ?_
  refine JX_lor dL_law_231 ?_
  refine JX_callV0 (ci := 3) (n := 1) (As := [.long (((((xs (7 * g + 1)).toInt64) <<< ((nI 32).toInt64 &&& 63)) ||| (((xs (7 * g + 2)).toInt64) &&& 4294967295)))]) (rest := []) dL_law_232 rfl gL_law_X3_key rfl (by decide +kernel) rfl (by decide) W.ob (Nat.le_of_ble_eq_true rfl) (by omega) (by omega) (tw_key htr fx W hg9) kV_no (kV_kx (fun H2 Gq => ?_))
  obtain ⟨⟨⟨f, hf⟩, hom⟩, Gq⟩ := Gq
  refine JX_aload_n dL_law_235 3 rfl ?_
  refine JL_rd (j := 1) dL_law_236 dL_law_237 dL_law_239 (by decide) dL_law_240 dL_law_241 (q0 := 1) (q4 := 0) rfl rfl (by omega) (by omega) ?_
  refine JX_i2l dL_law_242 ?_
  refine JX_bipush (v := nI 32) dL_law_243 (by decide) ?_
  refine JX_lshl dL_law_245 ?_
  refine JL_rd (j := 2) dL_law_246 dL_law_247 dL_law_249 (by decide) dL_law_250 dL_law_251 (q0 := 1) (q4 := 0) rfl rfl (by omega) (by omega) ?_
  refine JX_i2l dL_law_252 ?_
  refine JX_ldc2 (v := 4294967295) dL_law_253 law_k93 ?_
  refine JX_land dL_law_256 ?_
  refine JX_lor dL_law_257 ?_
  refine JX_callV0 (ci := 4) (n := 1) (As := [.long (((((xs (7 * g + 1)).toInt64) <<< ((nI 32).toInt64 &&& 63)) ||| (((xs (7 * g + 2)).toInt64) &&& 4294967295)))]) (rest := []) dL_law_258 rfl gL_law_X4_key rfl (by decide +kernel) rfl (by decide) hom (Nat.le_of_ble_eq_true rfl) (by omega) (by omega) (Gq _ ⟨fun _ _ => rfl, f, hf⟩) kV_no (kV_kx (fun H3 Gr => ?_))
  obtain ⟨W3, o3⟩ := Gr
  refine JX_goto (tgt := 1899) dL_law_261 (by decide) ?_
  exact JX_sub [0, 1, 2, 3, 4] rfl (JX_wide (by omega) (by omega) (kend _ _ W3))
set_option maxRecDepth 100000 in
set_option maxHeartbeats 4000000 in
theorem law_2 (htr : l.stackTraces = false) (fx : FX F m out am) (W : WS K F x m out am H g k0) (hg : 7 * g + 7 ≤ L) (hL : L ≤ 3584) (kend : ∀ H3 k, WS K F x m out am H3 (g + 1) k → JL (b, L, xs) l K hh nm 1899 [] [(4, .int (nI (7 * g))), (0, .ref b), (1, .ref x), (2, .ref m), (3, .ref out)] H3 (77 + 400 * (g + 1)) (25893 + 7000 * (g + 1))) :
    JL (b, L, xs) l K hh nm 264 [] [(4, .int (nI (7 * g))), (0, .ref b), (1, .ref x), (2, .ref m), (3, .ref out)] H (77 + 400 * g) (25893 + 7000 * g) := by
  have hg9 : g + 1 < 2 ^ 20 := by omega
  refine JX_aload_n dL_law_264 2 rfl ?_
  refine JX_callV0 (ci := 3) (n := 0) (As := []) (rest := []) dL_law_265 rfl gL_law_X3_leave rfl (by decide +kernel) rfl (by decide) W.ob (Nat.le_of_ble_eq_true rfl) (by omega) (by omega) (tw_leave htr fx W hg9) kI_no (kI_kx (fun a H2 Gq => ?_))
  obtain ⟨⟨⟨f, hf⟩, hom⟩, Gq⟩ := Gq
  refine JX_aload_n dL_law_268 3 rfl ?_
  refine JX_callV0 (ci := 4) (n := 0) (As := []) (rest := [.int a]) dL_law_269 rfl gL_law_X4_leave rfl (by decide +kernel) rfl (by decide) hom (Nat.le_of_ble_eq_true rfl) (by omega) (by omega) (Gq _ ⟨fun _ _ => rfl, f, hf⟩) kH_no (kH_kx (fun r' H3 Gr => ?_))
  obtain ⟨W3, o3, hr⟩ := Gr
  refine JX_icmp_eq (tgt := 1899) dL_law_272 (by decide) (fun _ => ?_) (fun c => absurd (hr rfl).symm c)
  exact JX_sub [0, 1, 2, 3, 4] rfl (JX_wide (by omega) (by omega) (kend _ _ W3))
set_option maxRecDepth 100000 in
set_option maxHeartbeats 4000000 in
theorem law_3 (htr : l.stackTraces = false) (fx : FX F m out am) (W : WS K F x m out am H g k0) (hg : 7 * g + 7 ≤ L) (hL : L ≤ 3584) (kend : ∀ H3 k, WS K F x m out am H3 (g + 1) k → JL (b, L, xs) l K hh nm 1899 [] [(4, .int (nI (7 * g))), (0, .ref b), (1, .ref x), (2, .ref m), (3, .ref out)] H3 (77 + 400 * (g + 1)) (25893 + 7000 * (g + 1))) :
    JL (b, L, xs) l K hh nm 277 [] [(4, .int (nI (7 * g))), (0, .ref b), (1, .ref x), (2, .ref m), (3, .ref out)] H (77 + 400 * g) (25893 + 7000 * g) := by
  have hg9 : g + 1 < 2 ^ 20 := by omega
  refine JX_aload_n dL_law_277 2 rfl ?_
  refine JL_rd (j := 1) dL_law_278 dL_law_279 dL_law_281 (by decide) dL_law_282 dL_law_283 (q0 := 1) (q4 := 0) rfl rfl (by omega) (by omega) ?_
  refine JX_callV0 (ci := 3) (n := 1) (As := [.int (xs (7 * g + 1))]) (rest := []) dL_law_284 rfl gL_law_X3_span rfl (by decide +kernel) rfl (by decide) W.ob (Nat.le_of_ble_eq_true rfl) (by omega) (by omega) (tw_span htr fx W hg9) kI_no (kI_kx (fun a H2 Gq => ?_))
  obtain ⟨⟨⟨f, hf⟩, hom⟩, Gq⟩ := Gq
  refine JX_aload_n dL_law_287 3 rfl ?_
  refine JL_rd (j := 1) dL_law_288 dL_law_289 dL_law_291 (by decide) dL_law_292 dL_law_293 (q0 := 1) (q4 := 0) rfl rfl (by omega) (by omega) ?_
  refine JX_callV0 (ci := 4) (n := 1) (As := [.int (xs (7 * g + 1))]) (rest := [.int a]) dL_law_294 rfl gL_law_X4_span rfl (by decide +kernel) rfl (by decide) hom (Nat.le_of_ble_eq_true rfl) (by omega) (by omega) (Gq _ ⟨fun _ _ => rfl, f, hf⟩) kH_no (kH_kx (fun r' H3 Gr => ?_))
  obtain ⟨W3, o3, hr⟩ := Gr
  refine JX_icmp_eq (tgt := 1899) dL_law_297 (by decide) (fun _ => ?_) (fun c => absurd (hr rfl).symm c)
  exact JX_sub [0, 1, 2, 3, 4] rfl (JX_wide (by omega) (by omega) (kend _ _ W3))
end Law
