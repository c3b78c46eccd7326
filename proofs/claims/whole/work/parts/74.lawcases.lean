set_option maxRecDepth 100000 in
set_option maxHeartbeats 4000000 in
theorem law_c0 {p : Program} {l : Launch} {e : Env} {s : State} {m : MethodId} {b Ls : Nat} {xs : Nat → Int32} {below : List Frame} {meth : Method} {c : Code} {b0 sq sw : Nat} {cA : Nat → ClassId} {D : va_G} {Rel : zS → zS → Prop} (hb0 : b0 = s.heap.size) (hC : zC p c s m #[Value.ref b] meth code 4 (some .boolean) (Cond.initialized "PaidHouseLaw") "PaidHouseLaw" cA D) (hG : zGq (zA b0 zLC) sq sw s s.heap) (hX : va_X b Ls xs s s.heap) (hbl : b < s.heap.size) (hop : op_rows Rel) {k : Nat} (hin : ∀ (v : Int32) (n : Nat), v = nI n → n < 6 → vp_in (nI k + v) Ls) (K : ∀ (σ τ : zS) (ls : Array Slot), Rel σ τ → lv_has ls 4 [(0, .ref b), (1, .ref (b0 + 0)), (2, .ref (b0 + 173 + 0)), (3, .int (nI k))] → zLW p l e s m b below meth c b0 cA D σ τ 1045 ls []) (σ τ : zS) (ls : Array Slot) (hR : Rel σ τ) (hl : lv_has ls 4 [(0, .ref b), (1, .ref (b0 + 0)), (2, .ref (b0 + 173 + 0)), (3, .int (nI k))]) : zLW p l e s m b below meth c b0 cA D σ τ 160 ls [] := by
  obtain ⟨r, σ', τ', h1, h2, h3⟩ := hop σ τ hR (xs (nI k + (1 : Int32)).toNatClampNeg)
  refine zl_aload_n (pc' := 161) hC dL_law_160 rfl rfl (lv_at hl 1 rfl) ?_
  refine zl_aload_n (pc' := 162) hC dL_law_161 rfl rfl (lv_at hl 0 rfl) ?_
  refine zl_iload_n (pc' := 163) hC dL_law_162 rfl rfl (lv_at hl 3 rfl) ?_
  refine zl_iconst (pc' := 164) (v := (1 : Int32)) hC dL_law_163 rfl rfl ?_
  refine zl_iadd (pc' := 165) hC dL_law_164 rfl ?_
  refine zl_sld (pc' := 166) hC hb0 hX hbl (hin (1 : Int32) 1 rfl (by decide)) dL_law_165 rfl ?_
  refine zl_callCz (pc' := 169) (rest := []) hb0 hC (kX6_rows l b0 cA D zLC 0 ((xs (nI k + (1 : Int32)).toNatClampNeg)) σ zLC_0) h1 tw_2_10 tw_2_7 tw_2_8 tw_2_9 tw_1_1 ddX6_rows rfl ⟨rfl, rfl⟩ ⟨by decide, by decide⟩ hl.1 (Nat.le_of_ble_eq_true rfl) rfl dL_law_166 rfl ?_
  refine zl_aload_n (pc' := 170) hC dL_law_169 rfl rfl (lv_at hl 2 rfl) ?_
  refine zl_aload_n (pc' := 171) hC dL_law_170 rfl rfl (lv_at hl 0 rfl) ?_
  refine zl_iload_n (pc' := 172) hC dL_law_171 rfl rfl (lv_at hl 3 rfl) ?_
  refine zl_iconst (pc' := 173) (v := (1 : Int32)) hC dL_law_172 rfl rfl ?_
  refine zl_iadd (pc' := 174) hC dL_law_173 rfl ?_
  refine zl_sld (pc' := 175) hC hb0 hX hbl (hin (1 : Int32) 1 rfl (by decide)) dL_law_174 rfl ?_
  refine zl_callMz (pc' := 178) (rest := [.int r]) hb0 hC (kX7_rows l (b0 + 173) cA D zLM 0 ((xs (nI k + (1 : Int32)).toNatClampNeg)) τ zLM_0) h2 tw_4_211 tw_4_208 tw_4_209 tw_4_210 tw_1_8 ddX7_rows rfl ⟨rfl, rfl⟩ ⟨by decide, by decide⟩ hl.1 (Nat.le_of_ble_eq_true rfl) rfl dL_law_175 rfl ?_
  refine zl_eq (tgt := 1045) hC dL_law_178 (by decide) ?_
  exact K σ' τ' ls h3 hl
set_option maxRecDepth 100000 in
set_option maxHeartbeats 4000000 in
theorem law_c1 {p : Program} {l : Launch} {e : Env} {s : State} {m : MethodId} {b Ls : Nat} {xs : Nat → Int32} {below : List Frame} {meth : Method} {c : Code} {b0 sq sw : Nat} {cA : Nat → ClassId} {D : va_G} {Rel : zS → zS → Prop} (hb0 : b0 = s.heap.size) (hC : zC p c s m #[Value.ref b] meth code 4 (some .boolean) (Cond.initialized "PaidHouseLaw") "PaidHouseLaw" cA D) (hG : zGq (zA b0 zLC) sq sw s s.heap) (hX : va_X b Ls xs s s.heap) (hbl : b < s.heap.size) (hop : op_seat Rel) {k : Nat} (hin : ∀ (v : Int32) (n : Nat), v = nI n → n < 6 → vp_in (nI k + v) Ls) (K : ∀ (σ τ : zS) (ls : Array Slot), Rel σ τ → lv_has ls 4 [(0, .ref b), (1, .ref (b0 + 0)), (2, .ref (b0 + 173 + 0)), (3, .int (nI k))] → zLW p l e s m b below meth c b0 cA D σ τ 1045 ls []) (σ τ : zS) (ls : Array Slot) (hR : Rel σ τ) (hl : lv_has ls 4 [(0, .ref b), (1, .ref (b0 + 0)), (2, .ref (b0 + 173 + 0)), (3, .int (nI k))]) : zLW p l e s m b below meth c b0 cA D σ τ 183 ls [] := by
  obtain ⟨r, σ', τ', h1, h2, h3⟩ := hop σ τ hR (xs (nI k + (1 : Int32)).toNatClampNeg) (xs (nI k + (2 : Int32)).toNatClampNeg) (xs (nI k + (3 : Int32)).toNatClampNeg)
  refine zl_aload_n (pc' := 184) hC dL_law_183 rfl rfl (lv_at hl 1 rfl) ?_
  refine zl_aload_n (pc' := 185) hC dL_law_184 rfl rfl (lv_at hl 0 rfl) ?_
  refine zl_iload_n (pc' := 186) hC dL_law_185 rfl rfl (lv_at hl 3 rfl) ?_
  refine zl_iconst (pc' := 187) (v := (1 : Int32)) hC dL_law_186 rfl rfl ?_
  refine zl_iadd (pc' := 188) hC dL_law_187 rfl ?_
  refine zl_sld (pc' := 189) hC hb0 hX hbl (hin (1 : Int32) 1 rfl (by decide)) dL_law_188 rfl ?_
  refine zl_aload_n (pc' := 190) hC dL_law_189 rfl rfl (lv_at hl 0 rfl) ?_
  refine zl_iload_n (pc' := 191) hC dL_law_190 rfl rfl (lv_at hl 3 rfl) ?_
  refine zl_iconst (pc' := 192) (v := (2 : Int32)) hC dL_law_191 rfl rfl ?_
  refine zl_iadd (pc' := 193) hC dL_law_192 rfl ?_
  refine zl_sld (pc' := 194) hC hb0 hX hbl (hin (2 : Int32) 2 rfl (by decide)) dL_law_193 rfl ?_
  refine zl_aload_n (pc' := 195) hC dL_law_194 rfl rfl (lv_at hl 0 rfl) ?_
  refine zl_iload_n (pc' := 196) hC dL_law_195 rfl rfl (lv_at hl 3 rfl) ?_
  refine zl_iconst (pc' := 197) (v := (3 : Int32)) hC dL_law_196 rfl rfl ?_
  refine zl_iadd (pc' := 198) hC dL_law_197 rfl ?_
  refine zl_sld (pc' := 199) hC hb0 hX hbl (hin (3 : Int32) 3 rfl (by decide)) dL_law_198 rfl ?_
  refine zl_callCz (pc' := 202) (rest := []) hb0 hC (kX6_seat l b0 cA D zLC 0 ((xs (nI k + (1 : Int32)).toNatClampNeg)) ((xs (nI k + (2 : Int32)).toNatClampNeg)) ((xs (nI k + (3 : Int32)).toNatClampNeg)) σ zLC_0) h1 tw_2_17 tw_2_14 tw_2_15 tw_2_16 tw_1_1 ddX6_seat rfl ⟨rfl, rfl⟩ ⟨by decide, by decide⟩ hl.1 (Nat.le_of_ble_eq_true rfl) rfl dL_law_199 rfl ?_
  refine zl_aload_n (pc' := 203) hC dL_law_202 rfl rfl (lv_at hl 2 rfl) ?_
  refine zl_aload_n (pc' := 204) hC dL_law_203 rfl rfl (lv_at hl 0 rfl) ?_
  refine zl_iload_n (pc' := 205) hC dL_law_204 rfl rfl (lv_at hl 3 rfl) ?_
  refine zl_iconst (pc' := 206) (v := (1 : Int32)) hC dL_law_205 rfl rfl ?_
  refine zl_iadd (pc' := 207) hC dL_law_206 rfl ?_
  refine zl_sld (pc' := 208) hC hb0 hX hbl (hin (1 : Int32) 1 rfl (by decide)) dL_law_207 rfl ?_
  refine zl_aload_n (pc' := 209) hC dL_law_208 rfl rfl (lv_at hl 0 rfl) ?_
  refine zl_iload_n (pc' := 210) hC dL_law_209 rfl rfl (lv_at hl 3 rfl) ?_
  refine zl_iconst (pc' := 211) (v := (2 : Int32)) hC dL_law_210 rfl rfl ?_
  refine zl_iadd (pc' := 212) hC dL_law_211 rfl ?_
  refine zl_sld (pc' := 213) hC hb0 hX hbl (hin (2 : Int32) 2 rfl (by decide)) dL_law_212 rfl ?_
  refine zl_aload_n (pc' := 214) hC dL_law_213 rfl rfl (lv_at hl 0 rfl) ?_
  refine zl_iload_n (pc' := 215) hC dL_law_214 rfl rfl (lv_at hl 3 rfl) ?_
  refine zl_iconst (pc' := 216) (v := (3 : Int32)) hC dL_law_215 rfl rfl ?_
  refine zl_iadd (pc' := 217) hC dL_law_216 rfl ?_
  refine zl_sld (pc' := 218) hC hb0 hX hbl (hin (3 : Int32) 3 rfl (by decide)) dL_law_217 rfl ?_
  refine zl_callMz (pc' := 221) (rest := [.int r]) hb0 hC (kX7_seat l (b0 + 173) cA D zLM 0 ((xs (nI k + (1 : Int32)).toNatClampNeg)) ((xs (nI k + (2 : Int32)).toNatClampNeg)) ((xs (nI k + (3 : Int32)).toNatClampNeg)) τ zLM_0) h2 tw_4_226 tw_4_223 tw_4_224 tw_4_225 tw_1_8 ddX7_seat rfl ⟨rfl, rfl⟩ ⟨by decide, by decide⟩ hl.1 (Nat.le_of_ble_eq_true rfl) rfl dL_law_218 rfl ?_
  refine zl_eq (tgt := 1045) hC dL_law_221 (by decide) ?_
  exact K σ' τ' ls h3 hl
set_option maxRecDepth 100000 in
set_option maxHeartbeats 4000000 in
theorem law_c2 {p : Program} {l : Launch} {e : Env} {s : State} {m : MethodId} {b Ls : Nat} {xs : Nat → Int32} {below : List Frame} {meth : Method} {c : Code} {b0 sq sw : Nat} {cA : Nat → ClassId} {D : va_G} {Rel : zS → zS → Prop} (hb0 : b0 = s.heap.size) (hC : zC p c s m #[Value.ref b] meth code 4 (some .boolean) (Cond.initialized "PaidHouseLaw") "PaidHouseLaw" cA D) (hG : zGq (zA b0 zLC) sq sw s s.heap) (hX : va_X b Ls xs s s.heap) (hbl : b < s.heap.size) (hop : op_paid Rel) {k : Nat} (hin : ∀ (v : Int32) (n : Nat), v = nI n → n < 6 → vp_in (nI k + v) Ls) (K : ∀ (σ τ : zS) (ls : Array Slot), Rel σ τ → lv_has ls 4 [(0, .ref b), (1, .ref (b0 + 0)), (2, .ref (b0 + 173 + 0)), (3, .int (nI k))] → zLW p l e s m b below meth c b0 cA D σ τ 1045 ls []) (σ τ : zS) (ls : Array Slot) (hR : Rel σ τ) (hl : lv_has ls 4 [(0, .ref b), (1, .ref (b0 + 0)), (2, .ref (b0 + 173 + 0)), (3, .int (nI k))]) : zLW p l e s m b below meth c b0 cA D σ τ 226 ls [] := by
  obtain ⟨r, σ', τ', h1, h2, h3⟩ := hop σ τ hR (xs (nI k + (1 : Int32)).toNatClampNeg) (xs (nI k + (2 : Int32)).toNatClampNeg)
  refine zl_aload_n (pc' := 227) hC dL_law_226 rfl rfl (lv_at hl 1 rfl) ?_
  refine zl_aload_n (pc' := 228) hC dL_law_227 rfl rfl (lv_at hl 0 rfl) ?_
  refine zl_iload_n (pc' := 229) hC dL_law_228 rfl rfl (lv_at hl 3 rfl) ?_
  refine zl_iconst (pc' := 230) (v := (1 : Int32)) hC dL_law_229 rfl rfl ?_
  refine zl_iadd (pc' := 231) hC dL_law_230 rfl ?_
  refine zl_sld (pc' := 232) hC hb0 hX hbl (hin (1 : Int32) 1 rfl (by decide)) dL_law_231 rfl ?_
  refine zl_aload_n (pc' := 233) hC dL_law_232 rfl rfl (lv_at hl 0 rfl) ?_
  refine zl_iload_n (pc' := 234) hC dL_law_233 rfl rfl (lv_at hl 3 rfl) ?_
  refine zl_iconst (pc' := 235) (v := (2 : Int32)) hC dL_law_234 rfl rfl ?_
  refine zl_iadd (pc' := 236) hC dL_law_235 rfl ?_
  refine zl_sld (pc' := 237) hC hb0 hX hbl (hin (2 : Int32) 2 rfl (by decide)) dL_law_236 rfl ?_
  refine zl_callCz (pc' := 240) (rest := []) hb0 hC (kX6_paid l b0 cA D zLC 0 ((xs (nI k + (1 : Int32)).toNatClampNeg)) ((xs (nI k + (2 : Int32)).toNatClampNeg)) σ zLC_0) h1 tw_2_36 tw_2_33 tw_2_34 tw_2_35 tw_1_1 ddX6_paid rfl ⟨rfl, rfl⟩ ⟨by decide, by decide⟩ hl.1 (Nat.le_of_ble_eq_true rfl) rfl dL_law_237 rfl ?_
  refine zl_aload_n (pc' := 241) hC dL_law_240 rfl rfl (lv_at hl 2 rfl) ?_
  refine zl_aload_n (pc' := 242) hC dL_law_241 rfl rfl (lv_at hl 0 rfl) ?_
  refine zl_iload_n (pc' := 243) hC dL_law_242 rfl rfl (lv_at hl 3 rfl) ?_
  refine zl_iconst (pc' := 244) (v := (1 : Int32)) hC dL_law_243 rfl rfl ?_
  refine zl_iadd (pc' := 245) hC dL_law_244 rfl ?_
  refine zl_sld (pc' := 246) hC hb0 hX hbl (hin (1 : Int32) 1 rfl (by decide)) dL_law_245 rfl ?_
  refine zl_aload_n (pc' := 247) hC dL_law_246 rfl rfl (lv_at hl 0 rfl) ?_
  refine zl_iload_n (pc' := 248) hC dL_law_247 rfl rfl (lv_at hl 3 rfl) ?_
  refine zl_iconst (pc' := 249) (v := (2 : Int32)) hC dL_law_248 rfl rfl ?_
  refine zl_iadd (pc' := 250) hC dL_law_249 rfl ?_
  refine zl_sld (pc' := 251) hC hb0 hX hbl (hin (2 : Int32) 2 rfl (by decide)) dL_law_250 rfl ?_
  refine zl_callMz (pc' := 254) (rest := [.int r]) hb0 hC (kX7_paid l (b0 + 173) cA D zLM 0 ((xs (nI k + (1 : Int32)).toNatClampNeg)) ((xs (nI k + (2 : Int32)).toNatClampNeg)) τ zLM_0) h2 tw_4_233 tw_4_230 tw_4_231 tw_4_232 tw_1_8 ddX7_paid rfl ⟨rfl, rfl⟩ ⟨by decide, by decide⟩ hl.1 (Nat.le_of_ble_eq_true rfl) rfl dL_law_251 rfl ?_
  refine zl_eq (tgt := 1045) hC dL_law_254 (by decide) ?_
  exact K σ' τ' ls h3 hl
set_option maxRecDepth 100000 in
set_option maxHeartbeats 4000000 in
theorem law_c3 {p : Program} {l : Launch} {e : Env} {s : State} {m : MethodId} {b Ls : Nat} {xs : Nat → Int32} {below : List Frame} {meth : Method} {c : Code} {b0 sq sw : Nat} {cA : Nat → ClassId} {D : va_G} {Rel : zS → zS → Prop} (hb0 : b0 = s.heap.size) (hC : zC p c s m #[Value.ref b] meth code 4 (some .boolean) (Cond.initialized "PaidHouseLaw") "PaidHouseLaw" cA D) (hG : zGq (zA b0 zLC) sq sw s s.heap) (hX : va_X b Ls xs s s.heap) (hbl : b < s.heap.size) (hop : op_seconds Rel) {k : Nat} (hin : ∀ (v : Int32) (n : Nat), v = nI n → n < 6 → vp_in (nI k + v) Ls) (K : ∀ (σ τ : zS) (ls : Array Slot), Rel σ τ → lv_has ls 4 [(0, .ref b), (1, .ref (b0 + 0)), (2, .ref (b0 + 173 + 0)), (3, .int (nI k))] → zLW p l e s m b below meth c b0 cA D σ τ 1045 ls []) (σ τ : zS) (ls : Array Slot) (hR : Rel σ τ) (hl : lv_has ls 4 [(0, .ref b), (1, .ref (b0 + 0)), (2, .ref (b0 + 173 + 0)), (3, .int (nI k))]) : zLW p l e s m b below meth c b0 cA D σ τ 259 ls [] := by
  obtain ⟨r, σ', τ', h1, h2, h3⟩ := hop σ τ hR (xs (nI k + (1 : Int32)).toNatClampNeg)
  refine zl_aload_n (pc' := 260) hC dL_law_259 rfl rfl (lv_at hl 1 rfl) ?_
  refine zl_aload_n (pc' := 261) hC dL_law_260 rfl rfl (lv_at hl 0 rfl) ?_
  refine zl_iload_n (pc' := 262) hC dL_law_261 rfl rfl (lv_at hl 3 rfl) ?_
  refine zl_iconst (pc' := 263) (v := (1 : Int32)) hC dL_law_262 rfl rfl ?_
  refine zl_iadd (pc' := 264) hC dL_law_263 rfl ?_
  refine zl_sld (pc' := 265) hC hb0 hX hbl (hin (1 : Int32) 1 rfl (by decide)) dL_law_264 rfl ?_
  refine zl_callCz (pc' := 268) (rest := []) hb0 hC (kX6_seconds l b0 cA D zLC 0 ((xs (nI k + (1 : Int32)).toNatClampNeg)) σ zLC_0) h1 tw_2_45 tw_2_42 tw_2_43 tw_2_44 tw_1_1 ddX6_seconds rfl ⟨rfl, rfl⟩ ⟨by decide, by decide⟩ hl.1 (Nat.le_of_ble_eq_true rfl) rfl dL_law_265 rfl ?_
  refine zl_aload_n (pc' := 269) hC dL_law_268 rfl rfl (lv_at hl 2 rfl) ?_
  refine zl_aload_n (pc' := 270) hC dL_law_269 rfl rfl (lv_at hl 0 rfl) ?_
  refine zl_iload_n (pc' := 271) hC dL_law_270 rfl rfl (lv_at hl 3 rfl) ?_
  refine zl_iconst (pc' := 272) (v := (1 : Int32)) hC dL_law_271 rfl rfl ?_
  refine zl_iadd (pc' := 273) hC dL_law_272 rfl ?_
  refine zl_sld (pc' := 274) hC hb0 hX hbl (hin (1 : Int32) 1 rfl (by decide)) dL_law_273 rfl ?_
  refine zl_callMz (pc' := 277) (rest := [.int r]) hb0 hC (kX7_seconds l (b0 + 173) cA D zLM 0 ((xs (nI k + (1 : Int32)).toNatClampNeg)) τ zLM_0) h2 tw_4_237 tw_4_234 tw_4_235 tw_4_236 tw_1_8 ddX7_seconds rfl ⟨rfl, rfl⟩ ⟨by decide, by decide⟩ hl.1 (Nat.le_of_ble_eq_true rfl) rfl dL_law_274 rfl ?_
  refine zl_eq (tgt := 1045) hC dL_law_277 (by decide) ?_
  exact K σ' τ' ls h3 hl
set_option maxRecDepth 100000 in
set_option maxHeartbeats 4000000 in
theorem law_c4 {p : Program} {l : Launch} {e : Env} {s : State} {m : MethodId} {b Ls : Nat} {xs : Nat → Int32} {below : List Frame} {meth : Method} {c : Code} {b0 sq sw : Nat} {cA : Nat → ClassId} {D : va_G} {Rel : zS → zS → Prop} (hb0 : b0 = s.heap.size) (hC : zC p c s m #[Value.ref b] meth code 4 (some .boolean) (Cond.initialized "PaidHouseLaw") "PaidHouseLaw" cA D) (hG : zGq (zA b0 zLC) sq sw s s.heap) (hX : va_X b Ls xs s s.heap) (hbl : b < s.heap.size) (hop : op_good Rel) {k : Nat} (hin : ∀ (v : Int32) (n : Nat), v = nI n → n < 6 → vp_in (nI k + v) Ls) (K : ∀ (σ τ : zS) (ls : Array Slot), Rel σ τ → lv_has ls 4 [(0, .ref b), (1, .ref (b0 + 0)), (2, .ref (b0 + 173 + 0)), (3, .int (nI k))] → zLW p l e s m b below meth c b0 cA D σ τ 1045 ls []) (σ τ : zS) (ls : Array Slot) (hR : Rel σ τ) (hl : lv_has ls 4 [(0, .ref b), (1, .ref (b0 + 0)), (2, .ref (b0 + 173 + 0)), (3, .int (nI k))]) : zLW p l e s m b below meth c b0 cA D σ τ 282 ls [] := by
  obtain ⟨r, σ', τ', h1, h2, h3⟩ := hop σ τ hR (xs (nI k + (1 : Int32)).toNatClampNeg) (xs (nI k + (2 : Int32)).toNatClampNeg) (xs (nI k + (3 : Int32)).toNatClampNeg)
  refine zl_aload_n (pc' := 283) hC dL_law_282 rfl rfl (lv_at hl 1 rfl) ?_
  refine zl_aload_n (pc' := 284) hC dL_law_283 rfl rfl (lv_at hl 0 rfl) ?_
  refine zl_iload_n (pc' := 285) hC dL_law_284 rfl rfl (lv_at hl 3 rfl) ?_
  refine zl_iconst (pc' := 286) (v := (1 : Int32)) hC dL_law_285 rfl rfl ?_
  refine zl_iadd (pc' := 287) hC dL_law_286 rfl ?_
  refine zl_sld (pc' := 288) hC hb0 hX hbl (hin (1 : Int32) 1 rfl (by decide)) dL_law_287 rfl ?_
  refine zl_aload_n (pc' := 289) hC dL_law_288 rfl rfl (lv_at hl 0 rfl) ?_
  refine zl_iload_n (pc' := 290) hC dL_law_289 rfl rfl (lv_at hl 3 rfl) ?_
  refine zl_iconst (pc' := 291) (v := (2 : Int32)) hC dL_law_290 rfl rfl ?_
  refine zl_iadd (pc' := 292) hC dL_law_291 rfl ?_
  refine zl_sld (pc' := 293) hC hb0 hX hbl (hin (2 : Int32) 2 rfl (by decide)) dL_law_292 rfl ?_
  refine zl_aload_n (pc' := 294) hC dL_law_293 rfl rfl (lv_at hl 0 rfl) ?_
  refine zl_iload_n (pc' := 295) hC dL_law_294 rfl rfl (lv_at hl 3 rfl) ?_
  refine zl_iconst (pc' := 296) (v := (3 : Int32)) hC dL_law_295 rfl rfl ?_
  refine zl_iadd (pc' := 297) hC dL_law_296 rfl ?_
  refine zl_sld (pc' := 298) hC hb0 hX hbl (hin (3 : Int32) 3 rfl (by decide)) dL_law_297 rfl ?_
  refine zl_callCz (pc' := 301) (rest := []) hb0 hC (kX6_good l b0 cA D zLC 0 ((xs (nI k + (1 : Int32)).toNatClampNeg)) ((xs (nI k + (2 : Int32)).toNatClampNeg)) ((xs (nI k + (3 : Int32)).toNatClampNeg)) σ zLC_0) h1 tw_2_49 tw_2_46 tw_2_47 tw_2_48 tw_1_1 ddX6_good rfl ⟨rfl, rfl⟩ ⟨by decide, by decide⟩ hl.1 (Nat.le_of_ble_eq_true rfl) rfl dL_law_298 rfl ?_
  refine zl_aload_n (pc' := 302) hC dL_law_301 rfl rfl (lv_at hl 2 rfl) ?_
  refine zl_aload_n (pc' := 303) hC dL_law_302 rfl rfl (lv_at hl 0 rfl) ?_
  refine zl_iload_n (pc' := 304) hC dL_law_303 rfl rfl (lv_at hl 3 rfl) ?_
  refine zl_iconst (pc' := 305) (v := (1 : Int32)) hC dL_law_304 rfl rfl ?_
  refine zl_iadd (pc' := 306) hC dL_law_305 rfl ?_
  refine zl_sld (pc' := 307) hC hb0 hX hbl (hin (1 : Int32) 1 rfl (by decide)) dL_law_306 rfl ?_
  refine zl_aload_n (pc' := 308) hC dL_law_307 rfl rfl (lv_at hl 0 rfl) ?_
  refine zl_iload_n (pc' := 309) hC dL_law_308 rfl rfl (lv_at hl 3 rfl) ?_
  refine zl_iconst (pc' := 310) (v := (2 : Int32)) hC dL_law_309 rfl rfl ?_
  refine zl_iadd (pc' := 311) hC dL_law_310 rfl ?_
  refine zl_sld (pc' := 312) hC hb0 hX hbl (hin (2 : Int32) 2 rfl (by decide)) dL_law_311 rfl ?_
  refine zl_aload_n (pc' := 313) hC dL_law_312 rfl rfl (lv_at hl 0 rfl) ?_
  refine zl_iload_n (pc' := 314) hC dL_law_313 rfl rfl (lv_at hl 3 rfl) ?_
  refine zl_iconst (pc' := 315) (v := (3 : Int32)) hC dL_law_314 rfl rfl ?_
  refine zl_iadd (pc' := 316) hC dL_law_315 rfl ?_
  refine zl_sld (pc' := 317) hC hb0 hX hbl (hin (3 : Int32) 3 rfl (by decide)) dL_law_316 rfl ?_
  refine zl_callMz (pc' := 320) (rest := [.int r]) hb0 hC (kX7_good l (b0 + 173) cA D zLM 0 ((xs (nI k + (1 : Int32)).toNatClampNeg)) ((xs (nI k + (2 : Int32)).toNatClampNeg)) ((xs (nI k + (3 : Int32)).toNatClampNeg)) τ zLM_0) h2 tw_5_1 tw_4_238 tw_4_239 tw_5_0 tw_1_8 ddX7_good rfl ⟨rfl, rfl⟩ ⟨by decide, by decide⟩ hl.1 (Nat.le_of_ble_eq_true rfl) rfl dL_law_317 rfl ?_
  refine zl_eq (tgt := 1045) hC dL_law_320 (by decide) ?_
  exact K σ' τ' ls h3 hl
set_option maxRecDepth 100000 in
set_option maxHeartbeats 4000000 in
theorem law_c5 {p : Program} {l : Launch} {e : Env} {s : State} {m : MethodId} {b Ls : Nat} {xs : Nat → Int32} {below : List Frame} {meth : Method} {c : Code} {b0 sq sw : Nat} {cA : Nat → ClassId} {D : va_G} {Rel : zS → zS → Prop} (hb0 : b0 = s.heap.size) (hC : zC p c s m #[Value.ref b] meth code 4 (some .boolean) (Cond.initialized "PaidHouseLaw") "PaidHouseLaw" cA D) (hG : zGq (zA b0 zLC) sq sw s s.heap) (hX : va_X b Ls xs s s.heap) (hbl : b < s.heap.size) (hop : op_plan Rel) {k : Nat} (hin : ∀ (v : Int32) (n : Nat), v = nI n → n < 6 → vp_in (nI k + v) Ls) (K : ∀ (σ τ : zS) (ls : Array Slot), Rel σ τ → lv_has ls 4 [(0, .ref b), (1, .ref (b0 + 0)), (2, .ref (b0 + 173 + 0)), (3, .int (nI k))] → zLW p l e s m b below meth c b0 cA D σ τ 1045 ls []) (σ τ : zS) (ls : Array Slot) (hR : Rel σ τ) (hl : lv_has ls 4 [(0, .ref b), (1, .ref (b0 + 0)), (2, .ref (b0 + 173 + 0)), (3, .int (nI k))]) : zLW p l e s m b below meth c b0 cA D σ τ 325 ls [] := by
  obtain ⟨r, σ', τ', h1, h2, h3⟩ := hop σ τ hR (xs (nI k + (1 : Int32)).toNatClampNeg) (xs (nI k + (2 : Int32)).toNatClampNeg) (xs (nI k + (3 : Int32)).toNatClampNeg)
  refine zl_aload_n (pc' := 326) hC dL_law_325 rfl rfl (lv_at hl 1 rfl) ?_
  refine zl_aload_n (pc' := 327) hC dL_law_326 rfl rfl (lv_at hl 0 rfl) ?_
  refine zl_iload_n (pc' := 328) hC dL_law_327 rfl rfl (lv_at hl 3 rfl) ?_
  refine zl_iconst (pc' := 329) (v := (1 : Int32)) hC dL_law_328 rfl rfl ?_
  refine zl_iadd (pc' := 330) hC dL_law_329 rfl ?_
  refine zl_sld (pc' := 331) hC hb0 hX hbl (hin (1 : Int32) 1 rfl (by decide)) dL_law_330 rfl ?_
  refine zl_aload_n (pc' := 332) hC dL_law_331 rfl rfl (lv_at hl 0 rfl) ?_
  refine zl_iload_n (pc' := 333) hC dL_law_332 rfl rfl (lv_at hl 3 rfl) ?_
  refine zl_iconst (pc' := 334) (v := (2 : Int32)) hC dL_law_333 rfl rfl ?_
  refine zl_iadd (pc' := 335) hC dL_law_334 rfl ?_
  refine zl_sld (pc' := 336) hC hb0 hX hbl (hin (2 : Int32) 2 rfl (by decide)) dL_law_335 rfl ?_
  refine zl_aload_n (pc' := 337) hC dL_law_336 rfl rfl (lv_at hl 0 rfl) ?_
  refine zl_iload_n (pc' := 338) hC dL_law_337 rfl rfl (lv_at hl 3 rfl) ?_
  refine zl_iconst (pc' := 339) (v := (3 : Int32)) hC dL_law_338 rfl rfl ?_
  refine zl_iadd (pc' := 340) hC dL_law_339 rfl ?_
  refine zl_sld (pc' := 341) hC hb0 hX hbl (hin (3 : Int32) 3 rfl (by decide)) dL_law_340 rfl ?_
  refine zl_callCz (pc' := 344) (rest := []) hb0 hC (kX6_plan l b0 cA D zLC 0 ((xs (nI k + (1 : Int32)).toNatClampNeg)) ((xs (nI k + (2 : Int32)).toNatClampNeg)) ((xs (nI k + (3 : Int32)).toNatClampNeg)) σ zLC_0) h1 tw_2_53 tw_2_50 tw_2_51 tw_2_52 tw_1_1 ddX6_plan rfl ⟨rfl, rfl⟩ ⟨by decide, by decide⟩ hl.1 (Nat.le_of_ble_eq_true rfl) rfl dL_law_341 rfl ?_
  refine zl_aload_n (pc' := 345) hC dL_law_344 rfl rfl (lv_at hl 2 rfl) ?_
  refine zl_aload_n (pc' := 346) hC dL_law_345 rfl rfl (lv_at hl 0 rfl) ?_
  refine zl_iload_n (pc' := 347) hC dL_law_346 rfl rfl (lv_at hl 3 rfl) ?_
  refine zl_iconst (pc' := 348) (v := (1 : Int32)) hC dL_law_347 rfl rfl ?_
  refine zl_iadd (pc' := 349) hC dL_law_348 rfl ?_
  refine zl_sld (pc' := 350) hC hb0 hX hbl (hin (1 : Int32) 1 rfl (by decide)) dL_law_349 rfl ?_
  refine zl_aload_n (pc' := 351) hC dL_law_350 rfl rfl (lv_at hl 0 rfl) ?_
  refine zl_iload_n (pc' := 352) hC dL_law_351 rfl rfl (lv_at hl 3 rfl) ?_
  refine zl_iconst (pc' := 353) (v := (2 : Int32)) hC dL_law_352 rfl rfl ?_
  refine zl_iadd (pc' := 354) hC dL_law_353 rfl ?_
  refine zl_sld (pc' := 355) hC hb0 hX hbl (hin (2 : Int32) 2 rfl (by decide)) dL_law_354 rfl ?_
  refine zl_aload_n (pc' := 356) hC dL_law_355 rfl rfl (lv_at hl 0 rfl) ?_
  refine zl_iload_n (pc' := 357) hC dL_law_356 rfl rfl (lv_at hl 3 rfl) ?_
  refine zl_iconst (pc' := 358) (v := (3 : Int32)) hC dL_law_357 rfl rfl ?_
  refine zl_iadd (pc' := 359) hC dL_law_358 rfl ?_
  refine zl_sld (pc' := 360) hC hb0 hX hbl (hin (3 : Int32) 3 rfl (by decide)) dL_law_359 rfl ?_
  refine zl_callMz (pc' := 363) (rest := [.int r]) hb0 hC (kX7_plan l (b0 + 173) cA D zLM 0 ((xs (nI k + (1 : Int32)).toNatClampNeg)) ((xs (nI k + (2 : Int32)).toNatClampNeg)) ((xs (nI k + (3 : Int32)).toNatClampNeg)) τ zLM_0) h2 tw_5_8 tw_5_5 tw_5_6 tw_5_7 tw_1_8 ddX7_plan rfl ⟨rfl, rfl⟩ ⟨by decide, by decide⟩ hl.1 (Nat.le_of_ble_eq_true rfl) rfl dL_law_360 rfl ?_
  refine zl_eq (tgt := 1045) hC dL_law_363 (by decide) ?_
  exact K σ' τ' ls h3 hl
set_option maxRecDepth 100000 in
set_option maxHeartbeats 4000000 in
theorem law_c6 {p : Program} {l : Launch} {e : Env} {s : State} {m : MethodId} {b Ls : Nat} {xs : Nat → Int32} {below : List Frame} {meth : Method} {c : Code} {b0 sq sw : Nat} {cA : Nat → ClassId} {D : va_G} {Rel : zS → zS → Prop} (hb0 : b0 = s.heap.size) (hC : zC p c s m #[Value.ref b] meth code 4 (some .boolean) (Cond.initialized "PaidHouseLaw") "PaidHouseLaw" cA D) (hG : zGq (zA b0 zLC) sq sw s s.heap) (hX : va_X b Ls xs s s.heap) (hbl : b < s.heap.size) (hop : op_feed Rel) {k : Nat} (hin : ∀ (v : Int32) (n : Nat), v = nI n → n < 6 → vp_in (nI k + v) Ls) (K : ∀ (σ τ : zS) (ls : Array Slot), Rel σ τ → lv_has ls 4 [(0, .ref b), (1, .ref (b0 + 0)), (2, .ref (b0 + 173 + 0)), (3, .int (nI k))] → zLW p l e s m b below meth c b0 cA D σ τ 1045 ls []) (σ τ : zS) (ls : Array Slot) (hR : Rel σ τ) (hl : lv_has ls 4 [(0, .ref b), (1, .ref (b0 + 0)), (2, .ref (b0 + 173 + 0)), (3, .int (nI k))]) : zLW p l e s m b below meth c b0 cA D σ τ 368 ls [] := by
  obtain ⟨r, σ', τ', h1, h2, h3⟩ := hop σ τ hR (xs (nI k + (1 : Int32)).toNatClampNeg) (xs (nI k + (2 : Int32)).toNatClampNeg) (xs (nI k + (3 : Int32)).toNatClampNeg) (xs (nI k + (4 : Int32)).toNatClampNeg) (xs (nI k + (5 : Int32)).toNatClampNeg)
  refine zl_aload_n (pc' := 369) hC dL_law_368 rfl rfl (lv_at hl 1 rfl) ?_
  refine zl_aload_n (pc' := 370) hC dL_law_369 rfl rfl (lv_at hl 0 rfl) ?_
  refine zl_iload_n (pc' := 371) hC dL_law_370 rfl rfl (lv_at hl 3 rfl) ?_
  refine zl_iconst (pc' := 372) (v := (1 : Int32)) hC dL_law_371 rfl rfl ?_
  refine zl_iadd (pc' := 373) hC dL_law_372 rfl ?_
  refine zl_sld (pc' := 374) hC hb0 hX hbl (hin (1 : Int32) 1 rfl (by decide)) dL_law_373 rfl ?_
  refine zl_aload_n (pc' := 375) hC dL_law_374 rfl rfl (lv_at hl 0 rfl) ?_
  refine zl_iload_n (pc' := 376) hC dL_law_375 rfl rfl (lv_at hl 3 rfl) ?_
  refine zl_iconst (pc' := 377) (v := (2 : Int32)) hC dL_law_376 rfl rfl ?_
  refine zl_iadd (pc' := 378) hC dL_law_377 rfl ?_
  refine zl_sld (pc' := 379) hC hb0 hX hbl (hin (2 : Int32) 2 rfl (by decide)) dL_law_378 rfl ?_
  refine zl_aload_n (pc' := 380) hC dL_law_379 rfl rfl (lv_at hl 0 rfl) ?_
  refine zl_iload_n (pc' := 381) hC dL_law_380 rfl rfl (lv_at hl 3 rfl) ?_
  refine zl_iconst (pc' := 382) (v := (3 : Int32)) hC dL_law_381 rfl rfl ?_
  refine zl_iadd (pc' := 383) hC dL_law_382 rfl ?_
  refine zl_sld (pc' := 384) hC hb0 hX hbl (hin (3 : Int32) 3 rfl (by decide)) dL_law_383 rfl ?_
  refine zl_aload_n (pc' := 385) hC dL_law_384 rfl rfl (lv_at hl 0 rfl) ?_
  refine zl_iload_n (pc' := 386) hC dL_law_385 rfl rfl (lv_at hl 3 rfl) ?_
  refine zl_iconst (pc' := 387) (v := (4 : Int32)) hC dL_law_386 rfl rfl ?_
  refine zl_iadd (pc' := 388) hC dL_law_387 rfl ?_
  refine zl_sld (pc' := 389) hC hb0 hX hbl (hin (4 : Int32) 4 rfl (by decide)) dL_law_388 rfl ?_
  refine zl_aload_n (pc' := 390) hC dL_law_389 rfl rfl (lv_at hl 0 rfl) ?_
  refine zl_iload_n (pc' := 391) hC dL_law_390 rfl rfl (lv_at hl 3 rfl) ?_
  refine zl_iconst (pc' := 392) (v := (5 : Int32)) hC dL_law_391 rfl rfl ?_
  refine zl_iadd (pc' := 393) hC dL_law_392 rfl ?_
  refine zl_sld (pc' := 394) hC hb0 hX hbl (hin (5 : Int32) 5 rfl (by decide)) dL_law_393 rfl ?_
  refine zl_callCi (pc' := 397) (rest := []) hb0 hC (kX6_feed l b0 cA D zLC 0 ((xs (nI k + (1 : Int32)).toNatClampNeg)) ((xs (nI k + (2 : Int32)).toNatClampNeg)) ((xs (nI k + (3 : Int32)).toNatClampNeg)) ((xs (nI k + (4 : Int32)).toNatClampNeg)) ((xs (nI k + (5 : Int32)).toNatClampNeg)) σ zLC_0) h1 tw_2_68 tw_2_65 tw_2_66 tw_2_67 tw_1_1 ddX6_feed rfl ⟨rfl, rfl⟩ ⟨by decide, by decide⟩ hl.1 (Nat.le_of_ble_eq_true rfl) rfl dL_law_394 rfl ?_
  refine zl_aload_n (pc' := 398) hC dL_law_397 rfl rfl (lv_at hl 2 rfl) ?_
  refine zl_aload_n (pc' := 399) hC dL_law_398 rfl rfl (lv_at hl 0 rfl) ?_
  refine zl_iload_n (pc' := 400) hC dL_law_399 rfl rfl (lv_at hl 3 rfl) ?_
  refine zl_iconst (pc' := 401) (v := (1 : Int32)) hC dL_law_400 rfl rfl ?_
  refine zl_iadd (pc' := 402) hC dL_law_401 rfl ?_
  refine zl_sld (pc' := 403) hC hb0 hX hbl (hin (1 : Int32) 1 rfl (by decide)) dL_law_402 rfl ?_
  refine zl_aload_n (pc' := 404) hC dL_law_403 rfl rfl (lv_at hl 0 rfl) ?_
  refine zl_iload_n (pc' := 405) hC dL_law_404 rfl rfl (lv_at hl 3 rfl) ?_
  refine zl_iconst (pc' := 406) (v := (2 : Int32)) hC dL_law_405 rfl rfl ?_
  refine zl_iadd (pc' := 407) hC dL_law_406 rfl ?_
  refine zl_sld (pc' := 408) hC hb0 hX hbl (hin (2 : Int32) 2 rfl (by decide)) dL_law_407 rfl ?_
  refine zl_aload_n (pc' := 409) hC dL_law_408 rfl rfl (lv_at hl 0 rfl) ?_
  refine zl_iload_n (pc' := 410) hC dL_law_409 rfl rfl (lv_at hl 3 rfl) ?_
  refine zl_iconst (pc' := 411) (v := (3 : Int32)) hC dL_law_410 rfl rfl ?_
  refine zl_iadd (pc' := 412) hC dL_law_411 rfl ?_
  refine zl_sld (pc' := 413) hC hb0 hX hbl (hin (3 : Int32) 3 rfl (by decide)) dL_law_412 rfl ?_
  refine zl_aload_n (pc' := 414) hC dL_law_413 rfl rfl (lv_at hl 0 rfl) ?_
  refine zl_iload_n (pc' := 415) hC dL_law_414 rfl rfl (lv_at hl 3 rfl) ?_
  refine zl_iconst (pc' := 416) (v := (4 : Int32)) hC dL_law_415 rfl rfl ?_
  refine zl_iadd (pc' := 417) hC dL_law_416 rfl ?_
  refine zl_sld (pc' := 418) hC hb0 hX hbl (hin (4 : Int32) 4 rfl (by decide)) dL_law_417 rfl ?_
  refine zl_aload_n (pc' := 419) hC dL_law_418 rfl rfl (lv_at hl 0 rfl) ?_
  refine zl_iload_n (pc' := 420) hC dL_law_419 rfl rfl (lv_at hl 3 rfl) ?_
  refine zl_iconst (pc' := 421) (v := (5 : Int32)) hC dL_law_420 rfl rfl ?_
  refine zl_iadd (pc' := 422) hC dL_law_421 rfl ?_
  refine zl_sld (pc' := 423) hC hb0 hX hbl (hin (5 : Int32) 5 rfl (by decide)) dL_law_422 rfl ?_
  refine zl_callMi (pc' := 426) (rest := [.int r]) hb0 hC (kX7_feed l (b0 + 173) cA D zLM 0 ((xs (nI k + (1 : Int32)).toNatClampNeg)) ((xs (nI k + (2 : Int32)).toNatClampNeg)) ((xs (nI k + (3 : Int32)).toNatClampNeg)) ((xs (nI k + (4 : Int32)).toNatClampNeg)) ((xs (nI k + (5 : Int32)).toNatClampNeg)) τ zLM_0) h2 tw_5_19 tw_5_16 tw_5_17 tw_5_18 tw_1_8 ddX7_feed rfl ⟨rfl, rfl⟩ ⟨by decide, by decide⟩ hl.1 (Nat.le_of_ble_eq_true rfl) rfl dL_law_423 rfl ?_
  refine zl_eq (tgt := 1045) hC dL_law_426 (by decide) ?_
  exact K σ' τ' ls h3 hl
set_option maxRecDepth 100000 in
set_option maxHeartbeats 4000000 in
theorem law_c7 {p : Program} {l : Launch} {e : Env} {s : State} {m : MethodId} {b Ls : Nat} {xs : Nat → Int32} {below : List Frame} {meth : Method} {c : Code} {b0 sq sw : Nat} {cA : Nat → ClassId} {D : va_G} {Rel : zS → zS → Prop} (hb0 : b0 = s.heap.size) (hC : zC p c s m #[Value.ref b] meth code 4 (some .boolean) (Cond.initialized "PaidHouseLaw") "PaidHouseLaw" cA D) (hG : zGq (zA b0 zLC) sq sw s s.heap) (hX : va_X b Ls xs s s.heap) (hbl : b < s.heap.size) (hop : op_law Rel) {k : Nat} (hin : ∀ (v : Int32) (n : Nat), v = nI n → n < 6 → vp_in (nI k + v) Ls) (K : ∀ (σ τ : zS) (ls : Array Slot), Rel σ τ → lv_has ls 4 [(0, .ref b), (1, .ref (b0 + 0)), (2, .ref (b0 + 173 + 0)), (3, .int (nI k))] → zLW p l e s m b below meth c b0 cA D σ τ 1045 ls []) (σ τ : zS) (ls : Array Slot) (hR : Rel σ τ) (hl : lv_has ls 4 [(0, .ref b), (1, .ref (b0 + 0)), (2, .ref (b0 + 173 + 0)), (3, .int (nI k))]) : zLW p l e s m b below meth c b0 cA D σ τ 431 ls [] := by
  obtain ⟨r, σ', τ', h1, h2, h3⟩ := hop σ τ hR (xs (nI k + (1 : Int32)).toNatClampNeg) (xs (nI k + (2 : Int32)).toNatClampNeg)
  refine zl_aload_n (pc' := 432) hC dL_law_431 rfl rfl (lv_at hl 1 rfl) ?_
  refine zl_aload_n (pc' := 433) hC dL_law_432 rfl rfl (lv_at hl 0 rfl) ?_
  refine zl_iload_n (pc' := 434) hC dL_law_433 rfl rfl (lv_at hl 3 rfl) ?_
  refine zl_iconst (pc' := 435) (v := (1 : Int32)) hC dL_law_434 rfl rfl ?_
  refine zl_iadd (pc' := 436) hC dL_law_435 rfl ?_
  refine zl_sld (pc' := 437) hC hb0 hX hbl (hin (1 : Int32) 1 rfl (by decide)) dL_law_436 rfl ?_
  refine zl_aload_n (pc' := 438) hC dL_law_437 rfl rfl (lv_at hl 0 rfl) ?_
  refine zl_iload_n (pc' := 439) hC dL_law_438 rfl rfl (lv_at hl 3 rfl) ?_
  refine zl_iconst (pc' := 440) (v := (2 : Int32)) hC dL_law_439 rfl rfl ?_
  refine zl_iadd (pc' := 441) hC dL_law_440 rfl ?_
  refine zl_sld (pc' := 442) hC hb0 hX hbl (hin (2 : Int32) 2 rfl (by decide)) dL_law_441 rfl ?_
  refine zl_callCn (pc' := 445) (rest := []) hG hb0 hC (kX6_law l b0 cA D zLC sq sw 0 ((xs (nI k + (1 : Int32)).toNatClampNeg)) ((xs (nI k + (2 : Int32)).toNatClampNeg)) σ zLC_0) h1 tw_2_76 tw_2_73 tw_2_74 tw_2_75 tw_1_1 ddX6_law rfl ⟨rfl, rfl⟩ ⟨by decide, by decide⟩ hl.1 (Nat.le_of_ble_eq_true rfl) rfl dL_law_442 rfl ?_
  refine zl_aload_n (pc' := 446) hC dL_law_445 rfl rfl (lv_at hl 2 rfl) ?_
  refine zl_aload_n (pc' := 447) hC dL_law_446 rfl rfl (lv_at hl 0 rfl) ?_
  refine zl_iload_n (pc' := 448) hC dL_law_447 rfl rfl (lv_at hl 3 rfl) ?_
  refine zl_iconst (pc' := 449) (v := (1 : Int32)) hC dL_law_448 rfl rfl ?_
  refine zl_iadd (pc' := 450) hC dL_law_449 rfl ?_
  refine zl_sld (pc' := 451) hC hb0 hX hbl (hin (1 : Int32) 1 rfl (by decide)) dL_law_450 rfl ?_
  refine zl_aload_n (pc' := 452) hC dL_law_451 rfl rfl (lv_at hl 0 rfl) ?_
  refine zl_iload_n (pc' := 453) hC dL_law_452 rfl rfl (lv_at hl 3 rfl) ?_
  refine zl_iconst (pc' := 454) (v := (2 : Int32)) hC dL_law_453 rfl rfl ?_
  refine zl_iadd (pc' := 455) hC dL_law_454 rfl ?_
  refine zl_sld (pc' := 456) hC hb0 hX hbl (hin (2 : Int32) 2 rfl (by decide)) dL_law_455 rfl ?_
  refine zl_callMi (pc' := 459) (rest := [.int r]) hb0 hC (kX7_law l (b0 + 173) cA D zLM 0 ((xs (nI k + (1 : Int32)).toNatClampNeg)) ((xs (nI k + (2 : Int32)).toNatClampNeg)) τ zLM_0) h2 tw_5_27 tw_5_24 tw_5_25 tw_5_26 tw_1_8 ddX7_law rfl ⟨rfl, rfl⟩ ⟨by decide, by decide⟩ hl.1 (Nat.le_of_ble_eq_true rfl) rfl dL_law_456 rfl ?_
  refine zl_eq (tgt := 1045) hC dL_law_459 (by decide) ?_
  exact K σ' τ' ls h3 hl
set_option maxRecDepth 100000 in
set_option maxHeartbeats 4000000 in
theorem law_c8 {p : Program} {l : Launch} {e : Env} {s : State} {m : MethodId} {b Ls : Nat} {xs : Nat → Int32} {below : List Frame} {meth : Method} {c : Code} {b0 sq sw : Nat} {cA : Nat → ClassId} {D : va_G} {Rel : zS → zS → Prop} (hb0 : b0 = s.heap.size) (hC : zC p c s m #[Value.ref b] meth code 4 (some .boolean) (Cond.initialized "PaidHouseLaw") "PaidHouseLaw" cA D) (hG : zGq (zA b0 zLC) sq sw s s.heap) (hX : va_X b Ls xs s s.heap) (hbl : b < s.heap.size) (hop : op_shows Rel) {k : Nat} (hin : ∀ (v : Int32) (n : Nat), v = nI n → n < 6 → vp_in (nI k + v) Ls) (K : ∀ (σ τ : zS) (ls : Array Slot), Rel σ τ → lv_has ls 4 [(0, .ref b), (1, .ref (b0 + 0)), (2, .ref (b0 + 173 + 0)), (3, .int (nI k))] → zLW p l e s m b below meth c b0 cA D σ τ 1045 ls []) (σ τ : zS) (ls : Array Slot) (hR : Rel σ τ) (hl : lv_has ls 4 [(0, .ref b), (1, .ref (b0 + 0)), (2, .ref (b0 + 173 + 0)), (3, .int (nI k))]) : zLW p l e s m b below meth c b0 cA D σ τ 464 ls [] := by
  obtain ⟨r, σ', τ', h1, h2, h3⟩ := hop σ τ hR (xs (nI k + (1 : Int32)).toNatClampNeg) (xs (nI k + (2 : Int32)).toNatClampNeg)
  refine zl_aload_n (pc' := 465) hC dL_law_464 rfl rfl (lv_at hl 1 rfl) ?_
  refine zl_aload_n (pc' := 466) hC dL_law_465 rfl rfl (lv_at hl 0 rfl) ?_
  refine zl_iload_n (pc' := 467) hC dL_law_466 rfl rfl (lv_at hl 3 rfl) ?_
  refine zl_iconst (pc' := 468) (v := (1 : Int32)) hC dL_law_467 rfl rfl ?_
  refine zl_iadd (pc' := 469) hC dL_law_468 rfl ?_
  refine zl_sld (pc' := 470) hC hb0 hX hbl (hin (1 : Int32) 1 rfl (by decide)) dL_law_469 rfl ?_
  refine zl_aload_n (pc' := 471) hC dL_law_470 rfl rfl (lv_at hl 0 rfl) ?_
  refine zl_iload_n (pc' := 472) hC dL_law_471 rfl rfl (lv_at hl 3 rfl) ?_
  refine zl_iconst (pc' := 473) (v := (2 : Int32)) hC dL_law_472 rfl rfl ?_
  refine zl_iadd (pc' := 474) hC dL_law_473 rfl ?_
  refine zl_sld (pc' := 475) hC hb0 hX hbl (hin (2 : Int32) 2 rfl (by decide)) dL_law_474 rfl ?_
  refine zl_callCi (pc' := 478) (rest := []) hb0 hC (kX6_shows l b0 cA D zLC 0 ((xs (nI k + (1 : Int32)).toNatClampNeg)) ((xs (nI k + (2 : Int32)).toNatClampNeg)) σ zLC_0) h1 tw_3_15 tw_3_12 tw_3_13 tw_3_14 tw_1_1 ddX6_shows rfl ⟨rfl, rfl⟩ ⟨by decide, by decide⟩ hl.1 (Nat.le_of_ble_eq_true rfl) rfl dL_law_475 rfl ?_
  refine zl_aload_n (pc' := 479) hC dL_law_478 rfl rfl (lv_at hl 2 rfl) ?_
  refine zl_aload_n (pc' := 480) hC dL_law_479 rfl rfl (lv_at hl 0 rfl) ?_
  refine zl_iload_n (pc' := 481) hC dL_law_480 rfl rfl (lv_at hl 3 rfl) ?_
  refine zl_iconst (pc' := 482) (v := (1 : Int32)) hC dL_law_481 rfl rfl ?_
  refine zl_iadd (pc' := 483) hC dL_law_482 rfl ?_
  refine zl_sld (pc' := 484) hC hb0 hX hbl (hin (1 : Int32) 1 rfl (by decide)) dL_law_483 rfl ?_
  refine zl_aload_n (pc' := 485) hC dL_law_484 rfl rfl (lv_at hl 0 rfl) ?_
  refine zl_iload_n (pc' := 486) hC dL_law_485 rfl rfl (lv_at hl 3 rfl) ?_
  refine zl_iconst (pc' := 487) (v := (2 : Int32)) hC dL_law_486 rfl rfl ?_
  refine zl_iadd (pc' := 488) hC dL_law_487 rfl ?_
  refine zl_sld (pc' := 489) hC hb0 hX hbl (hin (2 : Int32) 2 rfl (by decide)) dL_law_488 rfl ?_
  refine zl_callMi (pc' := 492) (rest := [.int r]) hb0 hC (kX7_shows l (b0 + 173) cA D zLM 0 ((xs (nI k + (1 : Int32)).toNatClampNeg)) ((xs (nI k + (2 : Int32)).toNatClampNeg)) τ zLM_0) h2 tw_5_110 tw_5_107 tw_5_108 tw_5_109 tw_1_8 ddX7_shows rfl ⟨rfl, rfl⟩ ⟨by decide, by decide⟩ hl.1 (Nat.le_of_ble_eq_true rfl) rfl dL_law_489 rfl ?_
  refine zl_eq (tgt := 1045) hC dL_law_492 (by decide) ?_
  exact K σ' τ' ls h3 hl
set_option maxRecDepth 100000 in
set_option maxHeartbeats 4000000 in
theorem law_c9 {p : Program} {l : Launch} {e : Env} {s : State} {m : MethodId} {b Ls : Nat} {xs : Nat → Int32} {below : List Frame} {meth : Method} {c : Code} {b0 sq sw : Nat} {cA : Nat → ClassId} {D : va_G} {Rel : zS → zS → Prop} (hb0 : b0 = s.heap.size) (hC : zC p c s m #[Value.ref b] meth code 4 (some .boolean) (Cond.initialized "PaidHouseLaw") "PaidHouseLaw" cA D) (hG : zGq (zA b0 zLC) sq sw s s.heap) (hX : va_X b Ls xs s s.heap) (hbl : b < s.heap.size) (hop : op_loud Rel) {k : Nat} (hin : ∀ (v : Int32) (n : Nat), v = nI n → n < 6 → vp_in (nI k + v) Ls) (K : ∀ (σ τ : zS) (ls : Array Slot), Rel σ τ → lv_has ls 4 [(0, .ref b), (1, .ref (b0 + 0)), (2, .ref (b0 + 173 + 0)), (3, .int (nI k))] → zLW p l e s m b below meth c b0 cA D σ τ 1045 ls []) (σ τ : zS) (ls : Array Slot) (hR : Rel σ τ) (hl : lv_has ls 4 [(0, .ref b), (1, .ref (b0 + 0)), (2, .ref (b0 + 173 + 0)), (3, .int (nI k))]) : zLW p l e s m b below meth c b0 cA D σ τ 497 ls [] := by
  obtain ⟨r, σ', τ', h1, h2, h3⟩ := hop σ τ hR (xs (nI k + (1 : Int32)).toNatClampNeg) (xs (nI k + (2 : Int32)).toNatClampNeg)
  refine zl_aload_n (pc' := 498) hC dL_law_497 rfl rfl (lv_at hl 1 rfl) ?_
  refine zl_aload_n (pc' := 499) hC dL_law_498 rfl rfl (lv_at hl 0 rfl) ?_
  refine zl_iload_n (pc' := 500) hC dL_law_499 rfl rfl (lv_at hl 3 rfl) ?_
  refine zl_iconst (pc' := 501) (v := (1 : Int32)) hC dL_law_500 rfl rfl ?_
  refine zl_iadd (pc' := 502) hC dL_law_501 rfl ?_
  refine zl_sld (pc' := 503) hC hb0 hX hbl (hin (1 : Int32) 1 rfl (by decide)) dL_law_502 rfl ?_
  refine zl_aload_n (pc' := 504) hC dL_law_503 rfl rfl (lv_at hl 0 rfl) ?_
  refine zl_iload_n (pc' := 505) hC dL_law_504 rfl rfl (lv_at hl 3 rfl) ?_
  refine zl_iconst (pc' := 506) (v := (2 : Int32)) hC dL_law_505 rfl rfl ?_
  refine zl_iadd (pc' := 507) hC dL_law_506 rfl ?_
  refine zl_sld (pc' := 508) hC hb0 hX hbl (hin (2 : Int32) 2 rfl (by decide)) dL_law_507 rfl ?_
  refine zl_callCi (pc' := 511) (rest := []) hb0 hC (kX6_loud l b0 cA D zLC 0 ((xs (nI k + (1 : Int32)).toNatClampNeg)) ((xs (nI k + (2 : Int32)).toNatClampNeg)) σ zLC_0) h1 tw_3_100 tw_3_97 tw_3_98 tw_3_99 tw_1_1 ddX6_loud rfl ⟨rfl, rfl⟩ ⟨by decide, by decide⟩ hl.1 (Nat.le_of_ble_eq_true rfl) rfl dL_law_508 rfl ?_
  refine zl_aload_n (pc' := 512) hC dL_law_511 rfl rfl (lv_at hl 2 rfl) ?_
  refine zl_aload_n (pc' := 513) hC dL_law_512 rfl rfl (lv_at hl 0 rfl) ?_
  refine zl_iload_n (pc' := 514) hC dL_law_513 rfl rfl (lv_at hl 3 rfl) ?_
  refine zl_iconst (pc' := 515) (v := (1 : Int32)) hC dL_law_514 rfl rfl ?_
  refine zl_iadd (pc' := 516) hC dL_law_515 rfl ?_
  refine zl_sld (pc' := 517) hC hb0 hX hbl (hin (1 : Int32) 1 rfl (by decide)) dL_law_516 rfl ?_
  refine zl_aload_n (pc' := 518) hC dL_law_517 rfl rfl (lv_at hl 0 rfl) ?_
  refine zl_iload_n (pc' := 519) hC dL_law_518 rfl rfl (lv_at hl 3 rfl) ?_
  refine zl_iconst (pc' := 520) (v := (2 : Int32)) hC dL_law_519 rfl rfl ?_
  refine zl_iadd (pc' := 521) hC dL_law_520 rfl ?_
  refine zl_sld (pc' := 522) hC hb0 hX hbl (hin (2 : Int32) 2 rfl (by decide)) dL_law_521 rfl ?_
  refine zl_callMi (pc' := 525) (rest := [.int r]) hb0 hC (kX7_loud l (b0 + 173) cA D zLM 0 ((xs (nI k + (1 : Int32)).toNatClampNeg)) ((xs (nI k + (2 : Int32)).toNatClampNeg)) τ zLM_0) h2 tw_5_149 tw_5_146 tw_5_147 tw_5_148 tw_1_8 ddX7_loud rfl ⟨rfl, rfl⟩ ⟨by decide, by decide⟩ hl.1 (Nat.le_of_ble_eq_true rfl) rfl dL_law_522 rfl ?_
  refine zl_eq (tgt := 1045) hC dL_law_525 (by decide) ?_
  exact K σ' τ' ls h3 hl
set_option maxRecDepth 100000 in
set_option maxHeartbeats 4000000 in
theorem law_c10 {p : Program} {l : Launch} {e : Env} {s : State} {m : MethodId} {b Ls : Nat} {xs : Nat → Int32} {below : List Frame} {meth : Method} {c : Code} {b0 sq sw : Nat} {cA : Nat → ClassId} {D : va_G} {Rel : zS → zS → Prop} (hb0 : b0 = s.heap.size) (hC : zC p c s m #[Value.ref b] meth code 4 (some .boolean) (Cond.initialized "PaidHouseLaw") "PaidHouseLaw" cA D) (hG : zGq (zA b0 zLC) sq sw s s.heap) (hX : va_X b Ls xs s s.heap) (hbl : b < s.heap.size) (hop : op_house Rel) {k : Nat} (hin : ∀ (v : Int32) (n : Nat), v = nI n → n < 6 → vp_in (nI k + v) Ls) (K : ∀ (σ τ : zS) (ls : Array Slot), Rel σ τ → lv_has ls 4 [(0, .ref b), (1, .ref (b0 + 0)), (2, .ref (b0 + 173 + 0)), (3, .int (nI k))] → zLW p l e s m b below meth c b0 cA D σ τ 1045 ls []) (σ τ : zS) (ls : Array Slot) (hR : Rel σ τ) (hl : lv_has ls 4 [(0, .ref b), (1, .ref (b0 + 0)), (2, .ref (b0 + 173 + 0)), (3, .int (nI k))]) : zLW p l e s m b below meth c b0 cA D σ τ 530 ls [] := by
  obtain ⟨r, σ', τ', h1, h2, h3⟩ := hop σ τ hR ()
  refine zl_aload_n (pc' := 531) hC dL_law_530 rfl rfl (lv_at hl 1 rfl) ?_
  refine zl_callCi (pc' := 534) (rest := []) hb0 hC (kX6_house l b0 cA D zLC 0  σ zLC_0) h1 tw_3_106 tw_3_103 tw_3_104 tw_3_105 tw_1_1 ddX6_house rfl ⟨rfl, rfl⟩ ⟨by decide, by decide⟩ hl.1 (Nat.le_of_ble_eq_true rfl) rfl dL_law_531 rfl ?_
  refine zl_aload_n (pc' := 535) hC dL_law_534 rfl rfl (lv_at hl 2 rfl) ?_
  refine zl_callMi (pc' := 538) (rest := [.int r]) hb0 hC (kX7_house l (b0 + 173) cA D zLM 0  τ zLM_0) h2 tw_5_153 tw_5_150 tw_5_151 tw_5_152 tw_1_8 ddX7_house rfl ⟨rfl, rfl⟩ ⟨by decide, by decide⟩ hl.1 (Nat.le_of_ble_eq_true rfl) rfl dL_law_535 rfl ?_
  refine zl_eq (tgt := 1045) hC dL_law_538 (by decide) ?_
  exact K σ' τ' ls h3 hl
set_option maxRecDepth 100000 in
set_option maxHeartbeats 4000000 in
theorem law_c11 {p : Program} {l : Launch} {e : Env} {s : State} {m : MethodId} {b Ls : Nat} {xs : Nat → Int32} {below : List Frame} {meth : Method} {c : Code} {b0 sq sw : Nat} {cA : Nat → ClassId} {D : va_G} {Rel : zS → zS → Prop} (hb0 : b0 = s.heap.size) (hC : zC p c s m #[Value.ref b] meth code 4 (some .boolean) (Cond.initialized "PaidHouseLaw") "PaidHouseLaw" cA D) (hG : zGq (zA b0 zLC) sq sw s s.heap) (hX : va_X b Ls xs s s.heap) (hbl : b < s.heap.size) (hop : op_prices Rel) {k : Nat} (hin : ∀ (v : Int32) (n : Nat), v = nI n → n < 6 → vp_in (nI k + v) Ls) (K : ∀ (σ τ : zS) (ls : Array Slot), Rel σ τ → lv_has ls 4 [(0, .ref b), (1, .ref (b0 + 0)), (2, .ref (b0 + 173 + 0)), (3, .int (nI k))] → zLW p l e s m b below meth c b0 cA D σ τ 1045 ls []) (σ τ : zS) (ls : Array Slot) (hR : Rel σ τ) (hl : lv_has ls 4 [(0, .ref b), (1, .ref (b0 + 0)), (2, .ref (b0 + 173 + 0)), (3, .int (nI k))]) : zLW p l e s m b below meth c b0 cA D σ τ 543 ls [] := by
  obtain ⟨r, σ', τ', h1, h2, h3⟩ := hop σ τ hR (xs (nI k + (1 : Int32)).toNatClampNeg) (xs (nI k + (2 : Int32)).toNatClampNeg)
  refine zl_aload_n (pc' := 544) hC dL_law_543 rfl rfl (lv_at hl 1 rfl) ?_
  refine zl_aload_n (pc' := 545) hC dL_law_544 rfl rfl (lv_at hl 0 rfl) ?_
  refine zl_iload_n (pc' := 546) hC dL_law_545 rfl rfl (lv_at hl 3 rfl) ?_
  refine zl_iconst (pc' := 547) (v := (1 : Int32)) hC dL_law_546 rfl rfl ?_
  refine zl_iadd (pc' := 548) hC dL_law_547 rfl ?_
  refine zl_sld (pc' := 549) hC hb0 hX hbl (hin (1 : Int32) 1 rfl (by decide)) dL_law_548 rfl ?_
  refine zl_aload_n (pc' := 550) hC dL_law_549 rfl rfl (lv_at hl 0 rfl) ?_
  refine zl_iload_n (pc' := 551) hC dL_law_550 rfl rfl (lv_at hl 3 rfl) ?_
  refine zl_iconst (pc' := 552) (v := (2 : Int32)) hC dL_law_551 rfl rfl ?_
  refine zl_iadd (pc' := 553) hC dL_law_552 rfl ?_
  refine zl_sld (pc' := 554) hC hb0 hX hbl (hin (2 : Int32) 2 rfl (by decide)) dL_law_553 rfl ?_
  refine zl_callCz (pc' := 557) (rest := []) hb0 hC (kX6_prices l b0 cA D zLC 0 ((xs (nI k + (1 : Int32)).toNatClampNeg)) ((xs (nI k + (2 : Int32)).toNatClampNeg)) σ zLC_0) h1 tw_2_64 tw_2_61 tw_2_62 tw_2_63 tw_1_1 ddX6_prices rfl ⟨rfl, rfl⟩ ⟨by decide, by decide⟩ hl.1 (Nat.le_of_ble_eq_true rfl) rfl dL_law_554 rfl ?_
  refine zl_aload_n (pc' := 558) hC dL_law_557 rfl rfl (lv_at hl 2 rfl) ?_
  refine zl_aload_n (pc' := 559) hC dL_law_558 rfl rfl (lv_at hl 0 rfl) ?_
  refine zl_iload_n (pc' := 560) hC dL_law_559 rfl rfl (lv_at hl 3 rfl) ?_
  refine zl_iconst (pc' := 561) (v := (1 : Int32)) hC dL_law_560 rfl rfl ?_
  refine zl_iadd (pc' := 562) hC dL_law_561 rfl ?_
  refine zl_sld (pc' := 563) hC hb0 hX hbl (hin (1 : Int32) 1 rfl (by decide)) dL_law_562 rfl ?_
  refine zl_aload_n (pc' := 564) hC dL_law_563 rfl rfl (lv_at hl 0 rfl) ?_
  refine zl_iload_n (pc' := 565) hC dL_law_564 rfl rfl (lv_at hl 3 rfl) ?_
  refine zl_iconst (pc' := 566) (v := (2 : Int32)) hC dL_law_565 rfl rfl ?_
  refine zl_iadd (pc' := 567) hC dL_law_566 rfl ?_
  refine zl_sld (pc' := 568) hC hb0 hX hbl (hin (2 : Int32) 2 rfl (by decide)) dL_law_567 rfl ?_
  refine zl_callMz (pc' := 571) (rest := [.int r]) hb0 hC (kX7_prices l (b0 + 173) cA D zLM 0 ((xs (nI k + (1 : Int32)).toNatClampNeg)) ((xs (nI k + (2 : Int32)).toNatClampNeg)) τ zLM_0) h2 tw_5_15 tw_5_12 tw_5_13 tw_5_14 tw_1_8 ddX7_prices rfl ⟨rfl, rfl⟩ ⟨by decide, by decide⟩ hl.1 (Nat.le_of_ble_eq_true rfl) rfl dL_law_568 rfl ?_
  refine zl_eq (tgt := 1045) hC dL_law_571 (by decide) ?_
  exact K σ' τ' ls h3 hl
set_option maxRecDepth 100000 in
set_option maxHeartbeats 4000000 in
theorem law_c12 {p : Program} {l : Launch} {e : Env} {s : State} {m : MethodId} {b Ls : Nat} {xs : Nat → Int32} {below : List Frame} {meth : Method} {c : Code} {b0 sq sw : Nat} {cA : Nat → ClassId} {D : va_G} {Rel : zS → zS → Prop} (hb0 : b0 = s.heap.size) (hC : zC p c s m #[Value.ref b] meth code 4 (some .boolean) (Cond.initialized "PaidHouseLaw") "PaidHouseLaw" cA D) (hG : zGq (zA b0 zLC) sq sw s s.heap) (hX : va_X b Ls xs s s.heap) (hbl : b < s.heap.size) (hop : op_costs Rel) {k : Nat} (hin : ∀ (v : Int32) (n : Nat), v = nI n → n < 6 → vp_in (nI k + v) Ls) (K : ∀ (σ τ : zS) (ls : Array Slot), Rel σ τ → lv_has ls 4 [(0, .ref b), (1, .ref (b0 + 0)), (2, .ref (b0 + 173 + 0)), (3, .int (nI k))] → zLW p l e s m b below meth c b0 cA D σ τ 1045 ls []) (σ τ : zS) (ls : Array Slot) (hR : Rel σ τ) (hl : lv_has ls 4 [(0, .ref b), (1, .ref (b0 + 0)), (2, .ref (b0 + 173 + 0)), (3, .int (nI k))]) : zLW p l e s m b below meth c b0 cA D σ τ 576 ls [] := by
  obtain ⟨r, σ', τ', h1, h2, h3⟩ := hop σ τ hR (xs (nI k + (1 : Int32)).toNatClampNeg)
  refine zl_aload_n (pc' := 577) hC dL_law_576 rfl rfl (lv_at hl 1 rfl) ?_
  refine zl_aload_n (pc' := 578) hC dL_law_577 rfl rfl (lv_at hl 0 rfl) ?_
  refine zl_iload_n (pc' := 579) hC dL_law_578 rfl rfl (lv_at hl 3 rfl) ?_
  refine zl_iconst (pc' := 580) (v := (1 : Int32)) hC dL_law_579 rfl rfl ?_
  refine zl_iadd (pc' := 581) hC dL_law_580 rfl ?_
  refine zl_sld (pc' := 582) hC hb0 hX hbl (hin (1 : Int32) 1 rfl (by decide)) dL_law_581 rfl ?_
  refine zl_callCi (pc' := 585) (rest := []) hb0 hC (kX6_costs l b0 cA D zLC 0 ((xs (nI k + (1 : Int32)).toNatClampNeg)) σ zLC_0) h1 tw_3_110 tw_3_107 tw_3_108 tw_3_109 tw_1_1 ddX6_costs rfl ⟨rfl, rfl⟩ ⟨by decide, by decide⟩ hl.1 (Nat.le_of_ble_eq_true rfl) rfl dL_law_582 rfl ?_
  refine zl_aload_n (pc' := 586) hC dL_law_585 rfl rfl (lv_at hl 2 rfl) ?_
  refine zl_aload_n (pc' := 587) hC dL_law_586 rfl rfl (lv_at hl 0 rfl) ?_
  refine zl_iload_n (pc' := 588) hC dL_law_587 rfl rfl (lv_at hl 3 rfl) ?_
  refine zl_iconst (pc' := 589) (v := (1 : Int32)) hC dL_law_588 rfl rfl ?_
  refine zl_iadd (pc' := 590) hC dL_law_589 rfl ?_
  refine zl_sld (pc' := 591) hC hb0 hX hbl (hin (1 : Int32) 1 rfl (by decide)) dL_law_590 rfl ?_
  refine zl_callMi (pc' := 594) (rest := [.int r]) hb0 hC (kX7_costs l (b0 + 173) cA D zLM 0 ((xs (nI k + (1 : Int32)).toNatClampNeg)) τ zLM_0) h2 tw_5_157 tw_5_154 tw_5_155 tw_5_156 tw_1_8 ddX7_costs rfl ⟨rfl, rfl⟩ ⟨by decide, by decide⟩ hl.1 (Nat.le_of_ble_eq_true rfl) rfl dL_law_591 rfl ?_
  refine zl_eq (tgt := 1045) hC dL_law_594 (by decide) ?_
  exact K σ' τ' ls h3 hl
set_option maxRecDepth 100000 in
set_option maxHeartbeats 4000000 in
theorem law_c13 {p : Program} {l : Launch} {e : Env} {s : State} {m : MethodId} {b Ls : Nat} {xs : Nat → Int32} {below : List Frame} {meth : Method} {c : Code} {b0 sq sw : Nat} {cA : Nat → ClassId} {D : va_G} {Rel : zS → zS → Prop} (hb0 : b0 = s.heap.size) (hC : zC p c s m #[Value.ref b] meth code 4 (some .boolean) (Cond.initialized "PaidHouseLaw") "PaidHouseLaw" cA D) (hG : zGq (zA b0 zLC) sq sw s s.heap) (hX : va_X b Ls xs s s.heap) (hbl : b < s.heap.size) (hop : op_more Rel) {k : Nat} (hin : ∀ (v : Int32) (n : Nat), v = nI n → n < 6 → vp_in (nI k + v) Ls) (K : ∀ (σ τ : zS) (ls : Array Slot), Rel σ τ → lv_has ls 4 [(0, .ref b), (1, .ref (b0 + 0)), (2, .ref (b0 + 173 + 0)), (3, .int (nI k))] → zLW p l e s m b below meth c b0 cA D σ τ 1045 ls []) (σ τ : zS) (ls : Array Slot) (hR : Rel σ τ) (hl : lv_has ls 4 [(0, .ref b), (1, .ref (b0 + 0)), (2, .ref (b0 + 173 + 0)), (3, .int (nI k))]) : zLW p l e s m b below meth c b0 cA D σ τ 599 ls [] := by
  obtain ⟨r, σ', τ', h1, h2, h3⟩ := hop σ τ hR (xs (nI k + (1 : Int32)).toNatClampNeg)
  refine zl_aload_n (pc' := 600) hC dL_law_599 rfl rfl (lv_at hl 1 rfl) ?_
  refine zl_aload_n (pc' := 601) hC dL_law_600 rfl rfl (lv_at hl 0 rfl) ?_
  refine zl_iload_n (pc' := 602) hC dL_law_601 rfl rfl (lv_at hl 3 rfl) ?_
  refine zl_iconst (pc' := 603) (v := (1 : Int32)) hC dL_law_602 rfl rfl ?_
  refine zl_iadd (pc' := 604) hC dL_law_603 rfl ?_
  refine zl_sld (pc' := 605) hC hb0 hX hbl (hin (1 : Int32) 1 rfl (by decide)) dL_law_604 rfl ?_
  refine zl_callCi (pc' := 608) (rest := []) hb0 hC (kX6_more l b0 cA D zLC 0 ((xs (nI k + (1 : Int32)).toNatClampNeg)) σ zLC_0) h1 tw_3_123 tw_3_120 tw_3_121 tw_3_122 tw_1_1 ddX6_more rfl ⟨rfl, rfl⟩ ⟨by decide, by decide⟩ hl.1 (Nat.le_of_ble_eq_true rfl) rfl dL_law_605 rfl ?_
  refine zl_aload_n (pc' := 609) hC dL_law_608 rfl rfl (lv_at hl 2 rfl) ?_
  refine zl_aload_n (pc' := 610) hC dL_law_609 rfl rfl (lv_at hl 0 rfl) ?_
  refine zl_iload_n (pc' := 611) hC dL_law_610 rfl rfl (lv_at hl 3 rfl) ?_
  refine zl_iconst (pc' := 612) (v := (1 : Int32)) hC dL_law_611 rfl rfl ?_
  refine zl_iadd (pc' := 613) hC dL_law_612 rfl ?_
  refine zl_sld (pc' := 614) hC hb0 hX hbl (hin (1 : Int32) 1 rfl (by decide)) dL_law_613 rfl ?_
  refine zl_callMi (pc' := 617) (rest := [.int r]) hb0 hC (kX7_more l (b0 + 173) cA D zLM 0 ((xs (nI k + (1 : Int32)).toNatClampNeg)) τ zLM_0) h2 tw_5_161 tw_5_158 tw_5_159 tw_5_160 tw_1_8 ddX7_more rfl ⟨rfl, rfl⟩ ⟨by decide, by decide⟩ hl.1 (Nat.le_of_ble_eq_true rfl) rfl dL_law_614 rfl ?_
  refine zl_eq (tgt := 1045) hC dL_law_617 (by decide) ?_
  exact K σ' τ' ls h3 hl
set_option maxRecDepth 100000 in
set_option maxHeartbeats 4000000 in
theorem law_c14 {p : Program} {l : Launch} {e : Env} {s : State} {m : MethodId} {b Ls : Nat} {xs : Nat → Int32} {below : List Frame} {meth : Method} {c : Code} {b0 sq sw : Nat} {cA : Nat → ClassId} {D : va_G} {Rel : zS → zS → Prop} (hb0 : b0 = s.heap.size) (hC : zC p c s m #[Value.ref b] meth code 4 (some .boolean) (Cond.initialized "PaidHouseLaw") "PaidHouseLaw" cA D) (hG : zGq (zA b0 zLC) sq sw s s.heap) (hX : va_X b Ls xs s s.heap) (hbl : b < s.heap.size) (hop : op_wins Rel) {k : Nat} (hin : ∀ (v : Int32) (n : Nat), v = nI n → n < 6 → vp_in (nI k + v) Ls) (K : ∀ (σ τ : zS) (ls : Array Slot), Rel σ τ → lv_has ls 4 [(0, .ref b), (1, .ref (b0 + 0)), (2, .ref (b0 + 173 + 0)), (3, .int (nI k))] → zLW p l e s m b below meth c b0 cA D σ τ 1045 ls []) (σ τ : zS) (ls : Array Slot) (hR : Rel σ τ) (hl : lv_has ls 4 [(0, .ref b), (1, .ref (b0 + 0)), (2, .ref (b0 + 173 + 0)), (3, .int (nI k))]) : zLW p l e s m b below meth c b0 cA D σ τ 622 ls [] := by
  obtain ⟨r, σ', τ', h1, h2, h3⟩ := hop σ τ hR ()
  refine zl_aload_n (pc' := 623) hC dL_law_622 rfl rfl (lv_at hl 1 rfl) ?_
  refine zl_callCi (pc' := 626) (rest := []) hb0 hC (kX6_wins l b0 cA D zLC 0  σ zLC_0) h1 tw_3_144 tw_3_141 tw_3_142 tw_3_143 tw_1_1 ddX6_wins rfl ⟨rfl, rfl⟩ ⟨by decide, by decide⟩ hl.1 (Nat.le_of_ble_eq_true rfl) rfl dL_law_623 rfl ?_
  refine zl_aload_n (pc' := 627) hC dL_law_626 rfl rfl (lv_at hl 2 rfl) ?_
  refine zl_callMi (pc' := 630) (rest := [.int r]) hb0 hC (kX7_wins l (b0 + 173) cA D zLM 0  τ zLM_0) h2 tw_5_174 tw_5_171 tw_5_172 tw_5_173 tw_1_8 ddX7_wins rfl ⟨rfl, rfl⟩ ⟨by decide, by decide⟩ hl.1 (Nat.le_of_ble_eq_true rfl) rfl dL_law_627 rfl ?_
  refine zl_eq (tgt := 1045) hC dL_law_630 (by decide) ?_
  exact K σ' τ' ls h3 hl
set_option maxRecDepth 100000 in
set_option maxHeartbeats 4000000 in
theorem law_c15 {p : Program} {l : Launch} {e : Env} {s : State} {m : MethodId} {b Ls : Nat} {xs : Nat → Int32} {below : List Frame} {meth : Method} {c : Code} {b0 sq sw : Nat} {cA : Nat → ClassId} {D : va_G} {Rel : zS → zS → Prop} (hb0 : b0 = s.heap.size) (hC : zC p c s m #[Value.ref b] meth code 4 (some .boolean) (Cond.initialized "PaidHouseLaw") "PaidHouseLaw" cA D) (hG : zGq (zA b0 zLC) sq sw s s.heap) (hX : va_X b Ls xs s s.heap) (hbl : b < s.heap.size) (hop : op_seated Rel) {k : Nat} (hin : ∀ (v : Int32) (n : Nat), v = nI n → n < 6 → vp_in (nI k + v) Ls) (K : ∀ (σ τ : zS) (ls : Array Slot), Rel σ τ → lv_has ls 4 [(0, .ref b), (1, .ref (b0 + 0)), (2, .ref (b0 + 173 + 0)), (3, .int (nI k))] → zLW p l e s m b below meth c b0 cA D σ τ 1045 ls []) (σ τ : zS) (ls : Array Slot) (hR : Rel σ τ) (hl : lv_has ls 4 [(0, .ref b), (1, .ref (b0 + 0)), (2, .ref (b0 + 173 + 0)), (3, .int (nI k))]) : zLW p l e s m b below meth c b0 cA D σ τ 635 ls [] := by
  obtain ⟨r, σ', τ', h1, h2, h3⟩ := hop σ τ hR (xs (nI k + (1 : Int32)).toNatClampNeg) (xs (nI k + (2 : Int32)).toNatClampNeg) (xs (nI k + (3 : Int32)).toNatClampNeg)
  refine zl_aload_n (pc' := 636) hC dL_law_635 rfl rfl (lv_at hl 1 rfl) ?_
  refine zl_aload_n (pc' := 637) hC dL_law_636 rfl rfl (lv_at hl 0 rfl) ?_
  refine zl_iload_n (pc' := 638) hC dL_law_637 rfl rfl (lv_at hl 3 rfl) ?_
  refine zl_iconst (pc' := 639) (v := (1 : Int32)) hC dL_law_638 rfl rfl ?_
  refine zl_iadd (pc' := 640) hC dL_law_639 rfl ?_
  refine zl_sld (pc' := 641) hC hb0 hX hbl (hin (1 : Int32) 1 rfl (by decide)) dL_law_640 rfl ?_
  refine zl_aload_n (pc' := 642) hC dL_law_641 rfl rfl (lv_at hl 0 rfl) ?_
  refine zl_iload_n (pc' := 643) hC dL_law_642 rfl rfl (lv_at hl 3 rfl) ?_
  refine zl_iconst (pc' := 644) (v := (2 : Int32)) hC dL_law_643 rfl rfl ?_
  refine zl_iadd (pc' := 645) hC dL_law_644 rfl ?_
  refine zl_sld (pc' := 646) hC hb0 hX hbl (hin (2 : Int32) 2 rfl (by decide)) dL_law_645 rfl ?_
  refine zl_aload_n (pc' := 647) hC dL_law_646 rfl rfl (lv_at hl 0 rfl) ?_
  refine zl_iload_n (pc' := 648) hC dL_law_647 rfl rfl (lv_at hl 3 rfl) ?_
  refine zl_iconst (pc' := 649) (v := (3 : Int32)) hC dL_law_648 rfl rfl ?_
  refine zl_iadd (pc' := 650) hC dL_law_649 rfl ?_
  refine zl_sld (pc' := 651) hC hb0 hX hbl (hin (3 : Int32) 3 rfl (by decide)) dL_law_650 rfl ?_
  refine zl_callCi (pc' := 654) (rest := []) hb0 hC (kX6_seated l b0 cA D zLC 0 ((xs (nI k + (1 : Int32)).toNatClampNeg)) ((xs (nI k + (2 : Int32)).toNatClampNeg)) ((xs (nI k + (3 : Int32)).toNatClampNeg)) σ zLC_0) h1 tw_3_153 tw_3_150 tw_3_151 tw_3_152 tw_1_1 ddX6_seated rfl ⟨rfl, rfl⟩ ⟨by decide, by decide⟩ hl.1 (Nat.le_of_ble_eq_true rfl) rfl dL_law_651 rfl ?_
  refine zl_aload_n (pc' := 655) hC dL_law_654 rfl rfl (lv_at hl 2 rfl) ?_
  refine zl_aload_n (pc' := 656) hC dL_law_655 rfl rfl (lv_at hl 0 rfl) ?_
  refine zl_iload_n (pc' := 657) hC dL_law_656 rfl rfl (lv_at hl 3 rfl) ?_
  refine zl_iconst (pc' := 658) (v := (1 : Int32)) hC dL_law_657 rfl rfl ?_
  refine zl_iadd (pc' := 659) hC dL_law_658 rfl ?_
  refine zl_sld (pc' := 660) hC hb0 hX hbl (hin (1 : Int32) 1 rfl (by decide)) dL_law_659 rfl ?_
  refine zl_aload_n (pc' := 661) hC dL_law_660 rfl rfl (lv_at hl 0 rfl) ?_
  refine zl_iload_n (pc' := 662) hC dL_law_661 rfl rfl (lv_at hl 3 rfl) ?_
  refine zl_iconst (pc' := 663) (v := (2 : Int32)) hC dL_law_662 rfl rfl ?_
  refine zl_iadd (pc' := 664) hC dL_law_663 rfl ?_
  refine zl_sld (pc' := 665) hC hb0 hX hbl (hin (2 : Int32) 2 rfl (by decide)) dL_law_664 rfl ?_
  refine zl_aload_n (pc' := 666) hC dL_law_665 rfl rfl (lv_at hl 0 rfl) ?_
  refine zl_iload_n (pc' := 667) hC dL_law_666 rfl rfl (lv_at hl 3 rfl) ?_
  refine zl_iconst (pc' := 668) (v := (3 : Int32)) hC dL_law_667 rfl rfl ?_
  refine zl_iadd (pc' := 669) hC dL_law_668 rfl ?_
  refine zl_sld (pc' := 670) hC hb0 hX hbl (hin (3 : Int32) 3 rfl (by decide)) dL_law_669 rfl ?_
  refine zl_callMi (pc' := 673) (rest := [.int r]) hb0 hC (kX7_seated l (b0 + 173) cA D zLM 0 ((xs (nI k + (1 : Int32)).toNatClampNeg)) ((xs (nI k + (2 : Int32)).toNatClampNeg)) ((xs (nI k + (3 : Int32)).toNatClampNeg)) τ zLM_0) h2 tw_5_178 tw_5_175 tw_5_176 tw_5_177 tw_1_8 ddX7_seated rfl ⟨rfl, rfl⟩ ⟨by decide, by decide⟩ hl.1 (Nat.le_of_ble_eq_true rfl) rfl dL_law_670 rfl ?_
  refine zl_eq (tgt := 1045) hC dL_law_673 (by decide) ?_
  exact K σ' τ' ls h3 hl
set_option maxRecDepth 100000 in
set_option maxHeartbeats 4000000 in
theorem law_c16 {p : Program} {l : Launch} {e : Env} {s : State} {m : MethodId} {b Ls : Nat} {xs : Nat → Int32} {below : List Frame} {meth : Method} {c : Code} {b0 sq sw : Nat} {cA : Nat → ClassId} {D : va_G} {Rel : zS → zS → Prop} (hb0 : b0 = s.heap.size) (hC : zC p c s m #[Value.ref b] meth code 4 (some .boolean) (Cond.initialized "PaidHouseLaw") "PaidHouseLaw" cA D) (hG : zGq (zA b0 zLC) sq sw s s.heap) (hX : va_X b Ls xs s s.heap) (hbl : b < s.heap.size) (hop : op_begins Rel) {k : Nat} (hin : ∀ (v : Int32) (n : Nat), v = nI n → n < 6 → vp_in (nI k + v) Ls) (K : ∀ (σ τ : zS) (ls : Array Slot), Rel σ τ → lv_has ls 4 [(0, .ref b), (1, .ref (b0 + 0)), (2, .ref (b0 + 173 + 0)), (3, .int (nI k))] → zLW p l e s m b below meth c b0 cA D σ τ 1045 ls []) (σ τ : zS) (ls : Array Slot) (hR : Rel σ τ) (hl : lv_has ls 4 [(0, .ref b), (1, .ref (b0 + 0)), (2, .ref (b0 + 173 + 0)), (3, .int (nI k))]) : zLW p l e s m b below meth c b0 cA D σ τ 678 ls [] := by
  obtain ⟨r, σ', τ', h1, h2, h3⟩ := hop σ τ hR ()
  refine zl_aload_n (pc' := 679) hC dL_law_678 rfl rfl (lv_at hl 1 rfl) ?_
  refine zl_callCi (pc' := 682) (rest := []) hb0 hC (kX6_begins l b0 cA D zLC 0  σ zLC_0) h1 tw_3_168 tw_3_165 tw_3_166 tw_3_167 tw_1_1 ddX6_begins rfl ⟨rfl, rfl⟩ ⟨by decide, by decide⟩ hl.1 (Nat.le_of_ble_eq_true rfl) rfl dL_law_679 rfl ?_
  refine zl_aload_n (pc' := 683) hC dL_law_682 rfl rfl (lv_at hl 2 rfl) ?_
  refine zl_callMi (pc' := 686) (rest := [.int r]) hb0 hC (kX7_begins l (b0 + 173) cA D zLM 0  τ zLM_0) h2 tw_5_193 tw_5_190 tw_5_191 tw_5_192 tw_1_8 ddX7_begins rfl ⟨rfl, rfl⟩ ⟨by decide, by decide⟩ hl.1 (Nat.le_of_ble_eq_true rfl) rfl dL_law_683 rfl ?_
  refine zl_eq (tgt := 1045) hC dL_law_686 (by decide) ?_
  exact K σ' τ' ls h3 hl
set_option maxRecDepth 100000 in
set_option maxHeartbeats 4000000 in
theorem law_c17 {p : Program} {l : Launch} {e : Env} {s : State} {m : MethodId} {b Ls : Nat} {xs : Nat → Int32} {below : List Frame} {meth : Method} {c : Code} {b0 sq sw : Nat} {cA : Nat → ClassId} {D : va_G} {Rel : zS → zS → Prop} (hb0 : b0 = s.heap.size) (hC : zC p c s m #[Value.ref b] meth code 4 (some .boolean) (Cond.initialized "PaidHouseLaw") "PaidHouseLaw" cA D) (hG : zGq (zA b0 zLC) sq sw s s.heap) (hX : va_X b Ls xs s s.heap) (hbl : b < s.heap.size) (hop : op_silent Rel) {k : Nat} (hin : ∀ (v : Int32) (n : Nat), v = nI n → n < 6 → vp_in (nI k + v) Ls) (K : ∀ (σ τ : zS) (ls : Array Slot), Rel σ τ → lv_has ls 4 [(0, .ref b), (1, .ref (b0 + 0)), (2, .ref (b0 + 173 + 0)), (3, .int (nI k))] → zLW p l e s m b below meth c b0 cA D σ τ 1045 ls []) (σ τ : zS) (ls : Array Slot) (hR : Rel σ τ) (hl : lv_has ls 4 [(0, .ref b), (1, .ref (b0 + 0)), (2, .ref (b0 + 173 + 0)), (3, .int (nI k))]) : zLW p l e s m b below meth c b0 cA D σ τ 691 ls [] := by
  obtain ⟨r, σ', τ', h1, h2, h3⟩ := hop σ τ hR (xs (nI k + (1 : Int32)).toNatClampNeg)
  refine zl_aload_n (pc' := 692) hC dL_law_691 rfl rfl (lv_at hl 1 rfl) ?_
  refine zl_aload_n (pc' := 693) hC dL_law_692 rfl rfl (lv_at hl 0 rfl) ?_
  refine zl_iload_n (pc' := 694) hC dL_law_693 rfl rfl (lv_at hl 3 rfl) ?_
  refine zl_iconst (pc' := 695) (v := (1 : Int32)) hC dL_law_694 rfl rfl ?_
  refine zl_iadd (pc' := 696) hC dL_law_695 rfl ?_
  refine zl_sld (pc' := 697) hC hb0 hX hbl (hin (1 : Int32) 1 rfl (by decide)) dL_law_696 rfl ?_
  refine zl_callCi (pc' := 700) (rest := []) hb0 hC (kX6_silent l b0 cA D zLC 0 ((xs (nI k + (1 : Int32)).toNatClampNeg)) σ zLC_0) h1 tw_3_180 tw_3_177 tw_3_178 tw_3_179 tw_1_1 ddX6_silent rfl ⟨rfl, rfl⟩ ⟨by decide, by decide⟩ hl.1 (Nat.le_of_ble_eq_true rfl) rfl dL_law_697 rfl ?_
  refine zl_aload_n (pc' := 701) hC dL_law_700 rfl rfl (lv_at hl 2 rfl) ?_
  refine zl_aload_n (pc' := 702) hC dL_law_701 rfl rfl (lv_at hl 0 rfl) ?_
  refine zl_iload_n (pc' := 703) hC dL_law_702 rfl rfl (lv_at hl 3 rfl) ?_
  refine zl_iconst (pc' := 704) (v := (1 : Int32)) hC dL_law_703 rfl rfl ?_
  refine zl_iadd (pc' := 705) hC dL_law_704 rfl ?_
  refine zl_sld (pc' := 706) hC hb0 hX hbl (hin (1 : Int32) 1 rfl (by decide)) dL_law_705 rfl ?_
  refine zl_callMi (pc' := 709) (rest := [.int r]) hb0 hC (kX7_silent l (b0 + 173) cA D zLM 0 ((xs (nI k + (1 : Int32)).toNatClampNeg)) τ zLM_0) h2 tw_5_209 tw_5_206 tw_5_207 tw_5_208 tw_1_8 ddX7_silent rfl ⟨rfl, rfl⟩ ⟨by decide, by decide⟩ hl.1 (Nat.le_of_ble_eq_true rfl) rfl dL_law_706 rfl ?_
  refine zl_eq (tgt := 1045) hC dL_law_709 (by decide) ?_
  exact K σ' τ' ls h3 hl
set_option maxRecDepth 100000 in
set_option maxHeartbeats 4000000 in
theorem law_c18 {p : Program} {l : Launch} {e : Env} {s : State} {m : MethodId} {b Ls : Nat} {xs : Nat → Int32} {below : List Frame} {meth : Method} {c : Code} {b0 sq sw : Nat} {cA : Nat → ClassId} {D : va_G} {Rel : zS → zS → Prop} (hb0 : b0 = s.heap.size) (hC : zC p c s m #[Value.ref b] meth code 4 (some .boolean) (Cond.initialized "PaidHouseLaw") "PaidHouseLaw" cA D) (hG : zGq (zA b0 zLC) sq sw s s.heap) (hX : va_X b Ls xs s s.heap) (hbl : b < s.heap.size) (hop : op_table Rel) {k : Nat} (hin : ∀ (v : Int32) (n : Nat), v = nI n → n < 6 → vp_in (nI k + v) Ls) (K : ∀ (σ τ : zS) (ls : Array Slot), Rel σ τ → lv_has ls 4 [(0, .ref b), (1, .ref (b0 + 0)), (2, .ref (b0 + 173 + 0)), (3, .int (nI k))] → zLW p l e s m b below meth c b0 cA D σ τ 1045 ls []) (σ τ : zS) (ls : Array Slot) (hR : Rel σ τ) (hl : lv_has ls 4 [(0, .ref b), (1, .ref (b0 + 0)), (2, .ref (b0 + 173 + 0)), (3, .int (nI k))]) : zLW p l e s m b below meth c b0 cA D σ τ 714 ls [] := by
  obtain ⟨r, σ', τ', h1, h2, h3⟩ := hop σ τ hR (xs (nI k + (1 : Int32)).toNatClampNeg) (xs (nI k + (2 : Int32)).toNatClampNeg) (xs (nI k + (3 : Int32)).toNatClampNeg) (xs (nI k + (4 : Int32)).toNatClampNeg)
  refine zl_aload_n (pc' := 715) hC dL_law_714 rfl rfl (lv_at hl 1 rfl) ?_
  refine zl_aload_n (pc' := 716) hC dL_law_715 rfl rfl (lv_at hl 0 rfl) ?_
  refine zl_iload_n (pc' := 717) hC dL_law_716 rfl rfl (lv_at hl 3 rfl) ?_
  refine zl_iconst (pc' := 718) (v := (1 : Int32)) hC dL_law_717 rfl rfl ?_
  refine zl_iadd (pc' := 719) hC dL_law_718 rfl ?_
  refine zl_sld (pc' := 720) hC hb0 hX hbl (hin (1 : Int32) 1 rfl (by decide)) dL_law_719 rfl ?_
  refine zl_aload_n (pc' := 721) hC dL_law_720 rfl rfl (lv_at hl 0 rfl) ?_
  refine zl_iload_n (pc' := 722) hC dL_law_721 rfl rfl (lv_at hl 3 rfl) ?_
  refine zl_iconst (pc' := 723) (v := (2 : Int32)) hC dL_law_722 rfl rfl ?_
  refine zl_iadd (pc' := 724) hC dL_law_723 rfl ?_
  refine zl_sld (pc' := 725) hC hb0 hX hbl (hin (2 : Int32) 2 rfl (by decide)) dL_law_724 rfl ?_
  refine zl_aload_n (pc' := 726) hC dL_law_725 rfl rfl (lv_at hl 0 rfl) ?_
  refine zl_iload_n (pc' := 727) hC dL_law_726 rfl rfl (lv_at hl 3 rfl) ?_
  refine zl_iconst (pc' := 728) (v := (3 : Int32)) hC dL_law_727 rfl rfl ?_
  refine zl_iadd (pc' := 729) hC dL_law_728 rfl ?_
  refine zl_sld (pc' := 730) hC hb0 hX hbl (hin (3 : Int32) 3 rfl (by decide)) dL_law_729 rfl ?_
  refine zl_aload_n (pc' := 731) hC dL_law_730 rfl rfl (lv_at hl 0 rfl) ?_
  refine zl_iload_n (pc' := 732) hC dL_law_731 rfl rfl (lv_at hl 3 rfl) ?_
  refine zl_iconst (pc' := 733) (v := (4 : Int32)) hC dL_law_732 rfl rfl ?_
  refine zl_iadd (pc' := 734) hC dL_law_733 rfl ?_
  refine zl_sld (pc' := 735) hC hb0 hX hbl (hin (4 : Int32) 4 rfl (by decide)) dL_law_734 rfl ?_
  refine zl_callCz (pc' := 738) (rest := []) hb0 hC (kX6_table l b0 cA D zLC 0 ((xs (nI k + (1 : Int32)).toNatClampNeg)) ((xs (nI k + (2 : Int32)).toNatClampNeg)) ((xs (nI k + (3 : Int32)).toNatClampNeg)) ((xs (nI k + (4 : Int32)).toNatClampNeg)) σ zLC_0) h1 tw_3_188 tw_3_185 tw_3_186 tw_3_187 tw_1_1 ddX6_table rfl ⟨rfl, rfl⟩ ⟨by decide, by decide⟩ hl.1 (Nat.le_of_ble_eq_true rfl) rfl dL_law_735 rfl ?_
  refine zl_aload_n (pc' := 739) hC dL_law_738 rfl rfl (lv_at hl 2 rfl) ?_
  refine zl_aload_n (pc' := 740) hC dL_law_739 rfl rfl (lv_at hl 0 rfl) ?_
  refine zl_iload_n (pc' := 741) hC dL_law_740 rfl rfl (lv_at hl 3 rfl) ?_
  refine zl_iconst (pc' := 742) (v := (1 : Int32)) hC dL_law_741 rfl rfl ?_
  refine zl_iadd (pc' := 743) hC dL_law_742 rfl ?_
  refine zl_sld (pc' := 744) hC hb0 hX hbl (hin (1 : Int32) 1 rfl (by decide)) dL_law_743 rfl ?_
  refine zl_aload_n (pc' := 745) hC dL_law_744 rfl rfl (lv_at hl 0 rfl) ?_
  refine zl_iload_n (pc' := 746) hC dL_law_745 rfl rfl (lv_at hl 3 rfl) ?_
  refine zl_iconst (pc' := 747) (v := (2 : Int32)) hC dL_law_746 rfl rfl ?_
  refine zl_iadd (pc' := 748) hC dL_law_747 rfl ?_
  refine zl_sld (pc' := 749) hC hb0 hX hbl (hin (2 : Int32) 2 rfl (by decide)) dL_law_748 rfl ?_
  refine zl_aload_n (pc' := 750) hC dL_law_749 rfl rfl (lv_at hl 0 rfl) ?_
  refine zl_iload_n (pc' := 751) hC dL_law_750 rfl rfl (lv_at hl 3 rfl) ?_
  refine zl_iconst (pc' := 752) (v := (3 : Int32)) hC dL_law_751 rfl rfl ?_
  refine zl_iadd (pc' := 753) hC dL_law_752 rfl ?_
  refine zl_sld (pc' := 754) hC hb0 hX hbl (hin (3 : Int32) 3 rfl (by decide)) dL_law_753 rfl ?_
  refine zl_aload_n (pc' := 755) hC dL_law_754 rfl rfl (lv_at hl 0 rfl) ?_
  refine zl_iload_n (pc' := 756) hC dL_law_755 rfl rfl (lv_at hl 3 rfl) ?_
  refine zl_iconst (pc' := 757) (v := (4 : Int32)) hC dL_law_756 rfl rfl ?_
  refine zl_iadd (pc' := 758) hC dL_law_757 rfl ?_
  refine zl_sld (pc' := 759) hC hb0 hX hbl (hin (4 : Int32) 4 rfl (by decide)) dL_law_758 rfl ?_
  refine zl_callMz (pc' := 762) (rest := [.int r]) hb0 hC (kX7_table l (b0 + 173) cA D zLM 0 ((xs (nI k + (1 : Int32)).toNatClampNeg)) ((xs (nI k + (2 : Int32)).toNatClampNeg)) ((xs (nI k + (3 : Int32)).toNatClampNeg)) ((xs (nI k + (4 : Int32)).toNatClampNeg)) τ zLM_0) h2 tw_5_213 tw_5_210 tw_5_211 tw_5_212 tw_1_8 ddX7_table rfl ⟨rfl, rfl⟩ ⟨by decide, by decide⟩ hl.1 (Nat.le_of_ble_eq_true rfl) rfl dL_law_759 rfl ?_
  refine zl_eq (tgt := 1045) hC dL_law_762 (by decide) ?_
  exact K σ' τ' ls h3 hl
set_option maxRecDepth 100000 in
set_option maxHeartbeats 4000000 in
theorem law_c19 {p : Program} {l : Launch} {e : Env} {s : State} {m : MethodId} {b Ls : Nat} {xs : Nat → Int32} {below : List Frame} {meth : Method} {c : Code} {b0 sq sw : Nat} {cA : Nat → ClassId} {D : va_G} {Rel : zS → zS → Prop} (hb0 : b0 = s.heap.size) (hC : zC p c s m #[Value.ref b] meth code 4 (some .boolean) (Cond.initialized "PaidHouseLaw") "PaidHouseLaw" cA D) (hG : zGq (zA b0 zLC) sq sw s s.heap) (hX : va_X b Ls xs s s.heap) (hbl : b < s.heap.size) (hop : op_rests Rel) {k : Nat} (hin : ∀ (v : Int32) (n : Nat), v = nI n → n < 6 → vp_in (nI k + v) Ls) (K : ∀ (σ τ : zS) (ls : Array Slot), Rel σ τ → lv_has ls 4 [(0, .ref b), (1, .ref (b0 + 0)), (2, .ref (b0 + 173 + 0)), (3, .int (nI k))] → zLW p l e s m b below meth c b0 cA D σ τ 1045 ls []) (σ τ : zS) (ls : Array Slot) (hR : Rel σ τ) (hl : lv_has ls 4 [(0, .ref b), (1, .ref (b0 + 0)), (2, .ref (b0 + 173 + 0)), (3, .int (nI k))]) : zLW p l e s m b below meth c b0 cA D σ τ 767 ls [] := by
  obtain ⟨r, σ', τ', h1, h2, h3⟩ := hop σ τ hR (xs (nI k + (1 : Int32)).toNatClampNeg) (xs (nI k + (2 : Int32)).toNatClampNeg)
  refine zl_aload_n (pc' := 768) hC dL_law_767 rfl rfl (lv_at hl 1 rfl) ?_
  refine zl_aload_n (pc' := 769) hC dL_law_768 rfl rfl (lv_at hl 0 rfl) ?_
  refine zl_iload_n (pc' := 770) hC dL_law_769 rfl rfl (lv_at hl 3 rfl) ?_
  refine zl_iconst (pc' := 771) (v := (1 : Int32)) hC dL_law_770 rfl rfl ?_
  refine zl_iadd (pc' := 772) hC dL_law_771 rfl ?_
  refine zl_sld (pc' := 773) hC hb0 hX hbl (hin (1 : Int32) 1 rfl (by decide)) dL_law_772 rfl ?_
  refine zl_aload_n (pc' := 774) hC dL_law_773 rfl rfl (lv_at hl 0 rfl) ?_
  refine zl_iload_n (pc' := 775) hC dL_law_774 rfl rfl (lv_at hl 3 rfl) ?_
  refine zl_iconst (pc' := 776) (v := (2 : Int32)) hC dL_law_775 rfl rfl ?_
  refine zl_iadd (pc' := 777) hC dL_law_776 rfl ?_
  refine zl_sld (pc' := 778) hC hb0 hX hbl (hin (2 : Int32) 2 rfl (by decide)) dL_law_777 rfl ?_
  refine zl_callCi (pc' := 781) (rest := []) hb0 hC (kX6_rests l b0 cA D zLC 0 ((xs (nI k + (1 : Int32)).toNatClampNeg)) ((xs (nI k + (2 : Int32)).toNatClampNeg)) σ zLC_0) h1 tw_3_192 tw_3_189 tw_3_190 tw_3_191 tw_1_1 ddX6_rests rfl ⟨rfl, rfl⟩ ⟨by decide, by decide⟩ hl.1 (Nat.le_of_ble_eq_true rfl) rfl dL_law_778 rfl ?_
  refine zl_aload_n (pc' := 782) hC dL_law_781 rfl rfl (lv_at hl 2 rfl) ?_
  refine zl_aload_n (pc' := 783) hC dL_law_782 rfl rfl (lv_at hl 0 rfl) ?_
  refine zl_iload_n (pc' := 784) hC dL_law_783 rfl rfl (lv_at hl 3 rfl) ?_
  refine zl_iconst (pc' := 785) (v := (1 : Int32)) hC dL_law_784 rfl rfl ?_
  refine zl_iadd (pc' := 786) hC dL_law_785 rfl ?_
  refine zl_sld (pc' := 787) hC hb0 hX hbl (hin (1 : Int32) 1 rfl (by decide)) dL_law_786 rfl ?_
  refine zl_aload_n (pc' := 788) hC dL_law_787 rfl rfl (lv_at hl 0 rfl) ?_
  refine zl_iload_n (pc' := 789) hC dL_law_788 rfl rfl (lv_at hl 3 rfl) ?_
  refine zl_iconst (pc' := 790) (v := (2 : Int32)) hC dL_law_789 rfl rfl ?_
  refine zl_iadd (pc' := 791) hC dL_law_790 rfl ?_
  refine zl_sld (pc' := 792) hC hb0 hX hbl (hin (2 : Int32) 2 rfl (by decide)) dL_law_791 rfl ?_
  refine zl_callMi (pc' := 795) (rest := [.int r]) hb0 hC (kX7_rests l (b0 + 173) cA D zLM 0 ((xs (nI k + (1 : Int32)).toNatClampNeg)) ((xs (nI k + (2 : Int32)).toNatClampNeg)) τ zLM_0) h2 tw_5_217 tw_5_214 tw_5_215 tw_5_216 tw_1_8 ddX7_rests rfl ⟨rfl, rfl⟩ ⟨by decide, by decide⟩ hl.1 (Nat.le_of_ble_eq_true rfl) rfl dL_law_792 rfl ?_
  refine zl_eq (tgt := 1045) hC dL_law_795 (by decide) ?_
  exact K σ' τ' ls h3 hl
set_option maxRecDepth 100000 in
set_option maxHeartbeats 4000000 in
theorem law_c20 {p : Program} {l : Launch} {e : Env} {s : State} {m : MethodId} {b Ls : Nat} {xs : Nat → Int32} {below : List Frame} {meth : Method} {c : Code} {b0 sq sw : Nat} {cA : Nat → ClassId} {D : va_G} {Rel : zS → zS → Prop} (hb0 : b0 = s.heap.size) (hC : zC p c s m #[Value.ref b] meth code 4 (some .boolean) (Cond.initialized "PaidHouseLaw") "PaidHouseLaw" cA D) (hG : zGq (zA b0 zLC) sq sw s s.heap) (hX : va_X b Ls xs s s.heap) (hbl : b < s.heap.size) (hop : op_keep Rel) {k : Nat} (hin : ∀ (v : Int32) (n : Nat), v = nI n → n < 6 → vp_in (nI k + v) Ls) (K : ∀ (σ τ : zS) (ls : Array Slot), Rel σ τ → lv_has ls 4 [(0, .ref b), (1, .ref (b0 + 0)), (2, .ref (b0 + 173 + 0)), (3, .int (nI k))] → zLW p l e s m b below meth c b0 cA D σ τ 1045 ls []) (σ τ : zS) (ls : Array Slot) (hR : Rel σ τ) (hl : lv_has ls 4 [(0, .ref b), (1, .ref (b0 + 0)), (2, .ref (b0 + 173 + 0)), (3, .int (nI k))]) : zLW p l e s m b below meth c b0 cA D σ τ 800 ls [] := by
  obtain ⟨r, σ', τ', h1, h2, h3⟩ := hop σ τ hR ()
  refine zl_aload_n (pc' := 801) hC dL_law_800 rfl rfl (lv_at hl 1 rfl) ?_
  refine zl_callCi (pc' := 804) (rest := []) hb0 hC (kX6_keep l b0 cA D zLC 0  σ zLC_0) h1 tw_3_203 tw_3_200 tw_3_201 tw_3_202 tw_1_1 ddX6_keep rfl ⟨rfl, rfl⟩ ⟨by decide, by decide⟩ hl.1 (Nat.le_of_ble_eq_true rfl) rfl dL_law_801 rfl ?_
  refine zl_aload_n (pc' := 805) hC dL_law_804 rfl rfl (lv_at hl 2 rfl) ?_
  refine zl_callMi (pc' := 808) (rest := [.int r]) hb0 hC (kX7_keep l (b0 + 173) cA D zLM 0  τ zLM_0) h2 tw_5_225 tw_5_222 tw_5_223 tw_5_224 tw_1_8 ddX7_keep rfl ⟨rfl, rfl⟩ ⟨by decide, by decide⟩ hl.1 (Nat.le_of_ble_eq_true rfl) rfl dL_law_805 rfl ?_
  refine zl_eq (tgt := 1045) hC dL_law_808 (by decide) ?_
  exact K σ' τ' ls h3 hl
set_option maxRecDepth 100000 in
set_option maxHeartbeats 4000000 in
theorem law_c21 {p : Program} {l : Launch} {e : Env} {s : State} {m : MethodId} {b Ls : Nat} {xs : Nat → Int32} {below : List Frame} {meth : Method} {c : Code} {b0 sq sw : Nat} {cA : Nat → ClassId} {D : va_G} {Rel : zS → zS → Prop} (hb0 : b0 = s.heap.size) (hC : zC p c s m #[Value.ref b] meth code 4 (some .boolean) (Cond.initialized "PaidHouseLaw") "PaidHouseLaw" cA D) (hG : zGq (zA b0 zLC) sq sw s s.heap) (hX : va_X b Ls xs s s.heap) (hbl : b < s.heap.size) (hop : op_hears Rel) {k : Nat} (hin : ∀ (v : Int32) (n : Nat), v = nI n → n < 6 → vp_in (nI k + v) Ls) (K : ∀ (σ τ : zS) (ls : Array Slot), Rel σ τ → lv_has ls 4 [(0, .ref b), (1, .ref (b0 + 0)), (2, .ref (b0 + 173 + 0)), (3, .int (nI k))] → zLW p l e s m b below meth c b0 cA D σ τ 1045 ls []) (σ τ : zS) (ls : Array Slot) (hR : Rel σ τ) (hl : lv_has ls 4 [(0, .ref b), (1, .ref (b0 + 0)), (2, .ref (b0 + 173 + 0)), (3, .int (nI k))]) : zLW p l e s m b below meth c b0 cA D σ τ 813 ls [] := by
  obtain ⟨r, σ', τ', h1, h2, h3⟩ := hop σ τ hR (xs (nI k + (1 : Int32)).toNatClampNeg)
  refine zl_aload_n (pc' := 814) hC dL_law_813 rfl rfl (lv_at hl 1 rfl) ?_
  refine zl_aload_n (pc' := 815) hC dL_law_814 rfl rfl (lv_at hl 0 rfl) ?_
  refine zl_iload_n (pc' := 816) hC dL_law_815 rfl rfl (lv_at hl 3 rfl) ?_
  refine zl_iconst (pc' := 817) (v := (1 : Int32)) hC dL_law_816 rfl rfl ?_
  refine zl_iadd (pc' := 818) hC dL_law_817 rfl ?_
  refine zl_sld (pc' := 819) hC hb0 hX hbl (hin (1 : Int32) 1 rfl (by decide)) dL_law_818 rfl ?_
  refine zl_callCi (pc' := 822) (rest := []) hb0 hC (kX6_hears l b0 cA D zLC 0 ((xs (nI k + (1 : Int32)).toNatClampNeg)) σ zLC_0) h1 tw_3_220 tw_3_217 tw_3_218 tw_3_219 tw_1_1 ddX6_hears rfl ⟨rfl, rfl⟩ ⟨by decide, by decide⟩ hl.1 (Nat.le_of_ble_eq_true rfl) rfl dL_law_819 rfl ?_
  refine zl_aload_n (pc' := 823) hC dL_law_822 rfl rfl (lv_at hl 2 rfl) ?_
  refine zl_aload_n (pc' := 824) hC dL_law_823 rfl rfl (lv_at hl 0 rfl) ?_
  refine zl_iload_n (pc' := 825) hC dL_law_824 rfl rfl (lv_at hl 3 rfl) ?_
  refine zl_iconst (pc' := 826) (v := (1 : Int32)) hC dL_law_825 rfl rfl ?_
  refine zl_iadd (pc' := 827) hC dL_law_826 rfl ?_
  refine zl_sld (pc' := 828) hC hb0 hX hbl (hin (1 : Int32) 1 rfl (by decide)) dL_law_827 rfl ?_
  refine zl_callMi (pc' := 831) (rest := [.int r]) hb0 hC (kX7_hears l (b0 + 173) cA D zLM 0 ((xs (nI k + (1 : Int32)).toNatClampNeg)) τ zLM_0) h2 tw_5_229 tw_5_226 tw_5_227 tw_5_228 tw_1_8 ddX7_hears rfl ⟨rfl, rfl⟩ ⟨by decide, by decide⟩ hl.1 (Nat.le_of_ble_eq_true rfl) rfl dL_law_828 rfl ?_
  refine zl_eq (tgt := 1045) hC dL_law_831 (by decide) ?_
  exact K σ' τ' ls h3 hl
set_option maxRecDepth 100000 in
set_option maxHeartbeats 4000000 in
theorem law_c22 {p : Program} {l : Launch} {e : Env} {s : State} {m : MethodId} {b Ls : Nat} {xs : Nat → Int32} {below : List Frame} {meth : Method} {c : Code} {b0 sq sw : Nat} {cA : Nat → ClassId} {D : va_G} {Rel : zS → zS → Prop} (hb0 : b0 = s.heap.size) (hC : zC p c s m #[Value.ref b] meth code 4 (some .boolean) (Cond.initialized "PaidHouseLaw") "PaidHouseLaw" cA D) (hG : zGq (zA b0 zLC) sq sw s s.heap) (hX : va_X b Ls xs s s.heap) (hbl : b < s.heap.size) (hop : op_otherwise Rel) {k : Nat} (hin : ∀ (v : Int32) (n : Nat), v = nI n → n < 6 → vp_in (nI k + v) Ls) (K : ∀ (σ τ : zS) (ls : Array Slot), Rel σ τ → lv_has ls 4 [(0, .ref b), (1, .ref (b0 + 0)), (2, .ref (b0 + 173 + 0)), (3, .int (nI k))] → zLW p l e s m b below meth c b0 cA D σ τ 1045 ls []) (σ τ : zS) (ls : Array Slot) (hR : Rel σ τ) (hl : lv_has ls 4 [(0, .ref b), (1, .ref (b0 + 0)), (2, .ref (b0 + 173 + 0)), (3, .int (nI k))]) : zLW p l e s m b below meth c b0 cA D σ τ 836 ls [] := by
  obtain ⟨r, σ', τ', h1, h2, h3⟩ := hop σ τ hR (xs (nI k + (1 : Int32)).toNatClampNeg)
  refine zl_aload_n (pc' := 837) hC dL_law_836 rfl rfl (lv_at hl 1 rfl) ?_
  refine zl_aload_n (pc' := 838) hC dL_law_837 rfl rfl (lv_at hl 0 rfl) ?_
  refine zl_iload_n (pc' := 839) hC dL_law_838 rfl rfl (lv_at hl 3 rfl) ?_
  refine zl_iconst (pc' := 840) (v := (1 : Int32)) hC dL_law_839 rfl rfl ?_
  refine zl_iadd (pc' := 841) hC dL_law_840 rfl ?_
  refine zl_sld (pc' := 842) hC hb0 hX hbl (hin (1 : Int32) 1 rfl (by decide)) dL_law_841 rfl ?_
  refine zl_callCi (pc' := 845) (rest := []) hb0 hC (kX6_otherwise l b0 cA D zLC 0 ((xs (nI k + (1 : Int32)).toNatClampNeg)) σ zLC_0) h1 tw_3_234 tw_3_231 tw_3_232 tw_3_233 tw_1_1 ddX6_otherwise rfl ⟨rfl, rfl⟩ ⟨by decide, by decide⟩ hl.1 (Nat.le_of_ble_eq_true rfl) rfl dL_law_842 rfl ?_
  refine zl_aload_n (pc' := 846) hC dL_law_845 rfl rfl (lv_at hl 2 rfl) ?_
  refine zl_aload_n (pc' := 847) hC dL_law_846 rfl rfl (lv_at hl 0 rfl) ?_
  refine zl_iload_n (pc' := 848) hC dL_law_847 rfl rfl (lv_at hl 3 rfl) ?_
  refine zl_iconst (pc' := 849) (v := (1 : Int32)) hC dL_law_848 rfl rfl ?_
  refine zl_iadd (pc' := 850) hC dL_law_849 rfl ?_
  refine zl_sld (pc' := 851) hC hb0 hX hbl (hin (1 : Int32) 1 rfl (by decide)) dL_law_850 rfl ?_
  refine zl_callMi (pc' := 854) (rest := [.int r]) hb0 hC (kX7_otherwise l (b0 + 173) cA D zLM 0 ((xs (nI k + (1 : Int32)).toNatClampNeg)) τ zLM_0) h2 tw_5_233 tw_5_230 tw_5_231 tw_5_232 tw_1_8 ddX7_otherwise rfl ⟨rfl, rfl⟩ ⟨by decide, by decide⟩ hl.1 (Nat.le_of_ble_eq_true rfl) rfl dL_law_851 rfl ?_
  refine zl_eq (tgt := 1045) hC dL_law_854 (by decide) ?_
  exact K σ' τ' ls h3 hl
set_option maxRecDepth 100000 in
set_option maxHeartbeats 4000000 in
theorem law_c23 {p : Program} {l : Launch} {e : Env} {s : State} {m : MethodId} {b Ls : Nat} {xs : Nat → Int32} {below : List Frame} {meth : Method} {c : Code} {b0 sq sw : Nat} {cA : Nat → ClassId} {D : va_G} {Rel : zS → zS → Prop} (hb0 : b0 = s.heap.size) (hC : zC p c s m #[Value.ref b] meth code 4 (some .boolean) (Cond.initialized "PaidHouseLaw") "PaidHouseLaw" cA D) (hG : zGq (zA b0 zLC) sq sw s s.heap) (hX : va_X b Ls xs s s.heap) (hbl : b < s.heap.size) (hop : op_suspects Rel) {k : Nat} (hin : ∀ (v : Int32) (n : Nat), v = nI n → n < 6 → vp_in (nI k + v) Ls) (K : ∀ (σ τ : zS) (ls : Array Slot), Rel σ τ → lv_has ls 4 [(0, .ref b), (1, .ref (b0 + 0)), (2, .ref (b0 + 173 + 0)), (3, .int (nI k))] → zLW p l e s m b below meth c b0 cA D σ τ 1045 ls []) (σ τ : zS) (ls : Array Slot) (hR : Rel σ τ) (hl : lv_has ls 4 [(0, .ref b), (1, .ref (b0 + 0)), (2, .ref (b0 + 173 + 0)), (3, .int (nI k))]) : zLW p l e s m b below meth c b0 cA D σ τ 859 ls [] := by
  obtain ⟨r, σ', τ', h1, h2, h3⟩ := hop σ τ hR (xs (nI k + (1 : Int32)).toNatClampNeg)
  refine zl_aload_n (pc' := 860) hC dL_law_859 rfl rfl (lv_at hl 1 rfl) ?_
  refine zl_aload_n (pc' := 861) hC dL_law_860 rfl rfl (lv_at hl 0 rfl) ?_
  refine zl_iload_n (pc' := 862) hC dL_law_861 rfl rfl (lv_at hl 3 rfl) ?_
  refine zl_iconst (pc' := 863) (v := (1 : Int32)) hC dL_law_862 rfl rfl ?_
  refine zl_iadd (pc' := 864) hC dL_law_863 rfl ?_
  refine zl_sld (pc' := 865) hC hb0 hX hbl (hin (1 : Int32) 1 rfl (by decide)) dL_law_864 rfl ?_
  refine zl_callCi (pc' := 868) (rest := []) hb0 hC (kX6_suspects l b0 cA D zLC 0 ((xs (nI k + (1 : Int32)).toNatClampNeg)) σ zLC_0) h1 tw_4_6 tw_4_3 tw_4_4 tw_4_5 tw_1_1 ddX6_suspects rfl ⟨rfl, rfl⟩ ⟨by decide, by decide⟩ hl.1 (Nat.le_of_ble_eq_true rfl) rfl dL_law_865 rfl ?_
  refine zl_aload_n (pc' := 869) hC dL_law_868 rfl rfl (lv_at hl 2 rfl) ?_
  refine zl_aload_n (pc' := 870) hC dL_law_869 rfl rfl (lv_at hl 0 rfl) ?_
  refine zl_iload_n (pc' := 871) hC dL_law_870 rfl rfl (lv_at hl 3 rfl) ?_
  refine zl_iconst (pc' := 872) (v := (1 : Int32)) hC dL_law_871 rfl rfl ?_
  refine zl_iadd (pc' := 873) hC dL_law_872 rfl ?_
  refine zl_sld (pc' := 874) hC hb0 hX hbl (hin (1 : Int32) 1 rfl (by decide)) dL_law_873 rfl ?_
  refine zl_callMi (pc' := 877) (rest := [.int r]) hb0 hC (kX7_suspects l (b0 + 173) cA D zLM 0 ((xs (nI k + (1 : Int32)).toNatClampNeg)) τ zLM_0) h2 tw_6_1 tw_5_238 tw_5_239 tw_6_0 tw_1_8 ddX7_suspects rfl ⟨rfl, rfl⟩ ⟨by decide, by decide⟩ hl.1 (Nat.le_of_ble_eq_true rfl) rfl dL_law_874 rfl ?_
  refine zl_eq (tgt := 1045) hC dL_law_877 (by decide) ?_
  exact K σ' τ' ls h3 hl
set_option maxRecDepth 100000 in
set_option maxHeartbeats 4000000 in
theorem law_c24 {p : Program} {l : Launch} {e : Env} {s : State} {m : MethodId} {b Ls : Nat} {xs : Nat → Int32} {below : List Frame} {meth : Method} {c : Code} {b0 sq sw : Nat} {cA : Nat → ClassId} {D : va_G} {Rel : zS → zS → Prop} (hb0 : b0 = s.heap.size) (hC : zC p c s m #[Value.ref b] meth code 4 (some .boolean) (Cond.initialized "PaidHouseLaw") "PaidHouseLaw" cA D) (hG : zGq (zA b0 zLC) sq sw s s.heap) (hX : va_X b Ls xs s s.heap) (hbl : b < s.heap.size) (hop : op_funnier Rel) {k : Nat} (hin : ∀ (v : Int32) (n : Nat), v = nI n → n < 6 → vp_in (nI k + v) Ls) (K : ∀ (σ τ : zS) (ls : Array Slot), Rel σ τ → lv_has ls 4 [(0, .ref b), (1, .ref (b0 + 0)), (2, .ref (b0 + 173 + 0)), (3, .int (nI k))] → zLW p l e s m b below meth c b0 cA D σ τ 1045 ls []) (σ τ : zS) (ls : Array Slot) (hR : Rel σ τ) (hl : lv_has ls 4 [(0, .ref b), (1, .ref (b0 + 0)), (2, .ref (b0 + 173 + 0)), (3, .int (nI k))]) : zLW p l e s m b below meth c b0 cA D σ τ 882 ls [] := by
  obtain ⟨r, σ', τ', h1, h2, h3⟩ := hop σ τ hR (xs (nI k + (1 : Int32)).toNatClampNeg) (xs (nI k + (2 : Int32)).toNatClampNeg) (xs (nI k + (3 : Int32)).toNatClampNeg) (xs (nI k + (4 : Int32)).toNatClampNeg) (xs (nI k + (5 : Int32)).toNatClampNeg)
  refine zl_aload_n (pc' := 883) hC dL_law_882 rfl rfl (lv_at hl 1 rfl) ?_
  refine zl_aload_n (pc' := 884) hC dL_law_883 rfl rfl (lv_at hl 0 rfl) ?_
  refine zl_iload_n (pc' := 885) hC dL_law_884 rfl rfl (lv_at hl 3 rfl) ?_
  refine zl_iconst (pc' := 886) (v := (1 : Int32)) hC dL_law_885 rfl rfl ?_
  refine zl_iadd (pc' := 887) hC dL_law_886 rfl ?_
  refine zl_sld (pc' := 888) hC hb0 hX hbl (hin (1 : Int32) 1 rfl (by decide)) dL_law_887 rfl ?_
  refine zl_aload_n (pc' := 889) hC dL_law_888 rfl rfl (lv_at hl 0 rfl) ?_
  refine zl_iload_n (pc' := 890) hC dL_law_889 rfl rfl (lv_at hl 3 rfl) ?_
  refine zl_iconst (pc' := 891) (v := (2 : Int32)) hC dL_law_890 rfl rfl ?_
  refine zl_iadd (pc' := 892) hC dL_law_891 rfl ?_
  refine zl_sld (pc' := 893) hC hb0 hX hbl (hin (2 : Int32) 2 rfl (by decide)) dL_law_892 rfl ?_
  refine zl_aload_n (pc' := 894) hC dL_law_893 rfl rfl (lv_at hl 0 rfl) ?_
  refine zl_iload_n (pc' := 895) hC dL_law_894 rfl rfl (lv_at hl 3 rfl) ?_
  refine zl_iconst (pc' := 896) (v := (3 : Int32)) hC dL_law_895 rfl rfl ?_
  refine zl_iadd (pc' := 897) hC dL_law_896 rfl ?_
  refine zl_sld (pc' := 898) hC hb0 hX hbl (hin (3 : Int32) 3 rfl (by decide)) dL_law_897 rfl ?_
  refine zl_aload_n (pc' := 899) hC dL_law_898 rfl rfl (lv_at hl 0 rfl) ?_
  refine zl_iload_n (pc' := 900) hC dL_law_899 rfl rfl (lv_at hl 3 rfl) ?_
  refine zl_iconst (pc' := 901) (v := (4 : Int32)) hC dL_law_900 rfl rfl ?_
  refine zl_iadd (pc' := 902) hC dL_law_901 rfl ?_
  refine zl_sld (pc' := 903) hC hb0 hX hbl (hin (4 : Int32) 4 rfl (by decide)) dL_law_902 rfl ?_
  refine zl_aload_n (pc' := 904) hC dL_law_903 rfl rfl (lv_at hl 0 rfl) ?_
  refine zl_iload_n (pc' := 905) hC dL_law_904 rfl rfl (lv_at hl 3 rfl) ?_
  refine zl_iconst (pc' := 906) (v := (5 : Int32)) hC dL_law_905 rfl rfl ?_
  refine zl_iadd (pc' := 907) hC dL_law_906 rfl ?_
  refine zl_sld (pc' := 908) hC hb0 hX hbl (hin (5 : Int32) 5 rfl (by decide)) dL_law_907 rfl ?_
  refine zl_callCl (pc' := 911) (rest := []) hb0 hC (kX6_funnier l b0 cA D zLC 0 ((xs (nI k + (1 : Int32)).toNatClampNeg)) ((xs (nI k + (2 : Int32)).toNatClampNeg)) ((xs (nI k + (3 : Int32)).toNatClampNeg)) ((xs (nI k + (4 : Int32)).toNatClampNeg)) ((xs (nI k + (5 : Int32)).toNatClampNeg)) σ zLC_0) h1 tw_4_10 tw_4_7 tw_4_8 tw_4_9 tw_1_1 ddX6_funnier rfl ⟨rfl, rfl⟩ ⟨by decide, by decide⟩ hl.1 (Nat.le_of_ble_eq_true rfl) rfl dL_law_908 rfl ?_
  refine zl_aload_n (pc' := 912) hC dL_law_911 rfl rfl (lv_at hl 2 rfl) ?_
  refine zl_aload_n (pc' := 913) hC dL_law_912 rfl rfl (lv_at hl 0 rfl) ?_
  refine zl_iload_n (pc' := 914) hC dL_law_913 rfl rfl (lv_at hl 3 rfl) ?_
  refine zl_iconst (pc' := 915) (v := (1 : Int32)) hC dL_law_914 rfl rfl ?_
  refine zl_iadd (pc' := 916) hC dL_law_915 rfl ?_
  refine zl_sld (pc' := 917) hC hb0 hX hbl (hin (1 : Int32) 1 rfl (by decide)) dL_law_916 rfl ?_
  refine zl_aload_n (pc' := 918) hC dL_law_917 rfl rfl (lv_at hl 0 rfl) ?_
  refine zl_iload_n (pc' := 919) hC dL_law_918 rfl rfl (lv_at hl 3 rfl) ?_
  refine zl_iconst (pc' := 920) (v := (2 : Int32)) hC dL_law_919 rfl rfl ?_
  refine zl_iadd (pc' := 921) hC dL_law_920 rfl ?_
  refine zl_sld (pc' := 922) hC hb0 hX hbl (hin (2 : Int32) 2 rfl (by decide)) dL_law_921 rfl ?_
  refine zl_aload_n (pc' := 923) hC dL_law_922 rfl rfl (lv_at hl 0 rfl) ?_
  refine zl_iload_n (pc' := 924) hC dL_law_923 rfl rfl (lv_at hl 3 rfl) ?_
  refine zl_iconst (pc' := 925) (v := (3 : Int32)) hC dL_law_924 rfl rfl ?_
  refine zl_iadd (pc' := 926) hC dL_law_925 rfl ?_
  refine zl_sld (pc' := 927) hC hb0 hX hbl (hin (3 : Int32) 3 rfl (by decide)) dL_law_926 rfl ?_
  refine zl_aload_n (pc' := 928) hC dL_law_927 rfl rfl (lv_at hl 0 rfl) ?_
  refine zl_iload_n (pc' := 929) hC dL_law_928 rfl rfl (lv_at hl 3 rfl) ?_
  refine zl_iconst (pc' := 930) (v := (4 : Int32)) hC dL_law_929 rfl rfl ?_
  refine zl_iadd (pc' := 931) hC dL_law_930 rfl ?_
  refine zl_sld (pc' := 932) hC hb0 hX hbl (hin (4 : Int32) 4 rfl (by decide)) dL_law_931 rfl ?_
  refine zl_aload_n (pc' := 933) hC dL_law_932 rfl rfl (lv_at hl 0 rfl) ?_
  refine zl_iload_n (pc' := 934) hC dL_law_933 rfl rfl (lv_at hl 3 rfl) ?_
  refine zl_iconst (pc' := 935) (v := (5 : Int32)) hC dL_law_934 rfl rfl ?_
  refine zl_iadd (pc' := 936) hC dL_law_935 rfl ?_
  refine zl_sld (pc' := 937) hC hb0 hX hbl (hin (5 : Int32) 5 rfl (by decide)) dL_law_936 rfl ?_
  refine zl_callMl (pc' := 940) (rest := [.long r]) hb0 hC (kX7_funnier l (b0 + 173) cA D zLM 0 ((xs (nI k + (1 : Int32)).toNatClampNeg)) ((xs (nI k + (2 : Int32)).toNatClampNeg)) ((xs (nI k + (3 : Int32)).toNatClampNeg)) ((xs (nI k + (4 : Int32)).toNatClampNeg)) ((xs (nI k + (5 : Int32)).toNatClampNeg)) τ zLM_0) h2 tw_6_5 tw_6_2 tw_6_3 tw_6_4 tw_1_8 ddX7_funnier rfl ⟨rfl, rfl⟩ ⟨by decide, by decide⟩ hl.1 (Nat.le_of_ble_eq_true rfl) rfl dL_law_937 rfl ?_
  refine zl_lcmp (pc' := 941) hC dL_law_940 rfl ?_
  refine zl_eq0 (tgt := 1045) hC (lg_same _) dL_law_941 (by decide) ?_
  exact K σ' τ' ls h3 hl
set_option maxRecDepth 100000 in
set_option maxHeartbeats 4000000 in
theorem law_c25 {p : Program} {l : Launch} {e : Env} {s : State} {m : MethodId} {b Ls : Nat} {xs : Nat → Int32} {below : List Frame} {meth : Method} {c : Code} {b0 sq sw : Nat} {cA : Nat → ClassId} {D : va_G} {Rel : zS → zS → Prop} (hb0 : b0 = s.heap.size) (hC : zC p c s m #[Value.ref b] meth code 4 (some .boolean) (Cond.initialized "PaidHouseLaw") "PaidHouseLaw" cA D) (hG : zGq (zA b0 zLC) sq sw s s.heap) (hX : va_X b Ls xs s s.heap) (hbl : b < s.heap.size) (hop : op_years Rel) {k : Nat} (hin : ∀ (v : Int32) (n : Nat), v = nI n → n < 6 → vp_in (nI k + v) Ls) (K : ∀ (σ τ : zS) (ls : Array Slot), Rel σ τ → lv_has ls 4 [(0, .ref b), (1, .ref (b0 + 0)), (2, .ref (b0 + 173 + 0)), (3, .int (nI k))] → zLW p l e s m b below meth c b0 cA D σ τ 1045 ls []) (σ τ : zS) (ls : Array Slot) (hR : Rel σ τ) (hl : lv_has ls 4 [(0, .ref b), (1, .ref (b0 + 0)), (2, .ref (b0 + 173 + 0)), (3, .int (nI k))]) : zLW p l e s m b below meth c b0 cA D σ τ 946 ls [] := by
  obtain ⟨r, σ', τ', h1, h2, h3⟩ := hop σ τ hR (xs (nI k + (1 : Int32)).toNatClampNeg) (xs (nI k + (2 : Int32)).toNatClampNeg) (xs (nI k + (3 : Int32)).toNatClampNeg) (xs (nI k + (4 : Int32)).toNatClampNeg)
  refine zl_aload_n (pc' := 947) hC dL_law_946 rfl rfl (lv_at hl 1 rfl) ?_
  refine zl_aload_n (pc' := 948) hC dL_law_947 rfl rfl (lv_at hl 0 rfl) ?_
  refine zl_iload_n (pc' := 949) hC dL_law_948 rfl rfl (lv_at hl 3 rfl) ?_
  refine zl_iconst (pc' := 950) (v := (1 : Int32)) hC dL_law_949 rfl rfl ?_
  refine zl_iadd (pc' := 951) hC dL_law_950 rfl ?_
  refine zl_sld (pc' := 952) hC hb0 hX hbl (hin (1 : Int32) 1 rfl (by decide)) dL_law_951 rfl ?_
  refine zl_aload_n (pc' := 953) hC dL_law_952 rfl rfl (lv_at hl 0 rfl) ?_
  refine zl_iload_n (pc' := 954) hC dL_law_953 rfl rfl (lv_at hl 3 rfl) ?_
  refine zl_iconst (pc' := 955) (v := (2 : Int32)) hC dL_law_954 rfl rfl ?_
  refine zl_iadd (pc' := 956) hC dL_law_955 rfl ?_
  refine zl_sld (pc' := 957) hC hb0 hX hbl (hin (2 : Int32) 2 rfl (by decide)) dL_law_956 rfl ?_
  refine zl_aload_n (pc' := 958) hC dL_law_957 rfl rfl (lv_at hl 0 rfl) ?_
  refine zl_iload_n (pc' := 959) hC dL_law_958 rfl rfl (lv_at hl 3 rfl) ?_
  refine zl_iconst (pc' := 960) (v := (3 : Int32)) hC dL_law_959 rfl rfl ?_
  refine zl_iadd (pc' := 961) hC dL_law_960 rfl ?_
  refine zl_sld (pc' := 962) hC hb0 hX hbl (hin (3 : Int32) 3 rfl (by decide)) dL_law_961 rfl ?_
  refine zl_aload_n (pc' := 963) hC dL_law_962 rfl rfl (lv_at hl 0 rfl) ?_
  refine zl_iload_n (pc' := 964) hC dL_law_963 rfl rfl (lv_at hl 3 rfl) ?_
  refine zl_iconst (pc' := 965) (v := (4 : Int32)) hC dL_law_964 rfl rfl ?_
  refine zl_iadd (pc' := 966) hC dL_law_965 rfl ?_
  refine zl_sld (pc' := 967) hC hb0 hX hbl (hin (4 : Int32) 4 rfl (by decide)) dL_law_966 rfl ?_
  refine zl_callCi (pc' := 970) (rest := []) hb0 hC (kX6_years l b0 cA D zLC 0 ((xs (nI k + (1 : Int32)).toNatClampNeg)) ((xs (nI k + (2 : Int32)).toNatClampNeg)) ((xs (nI k + (3 : Int32)).toNatClampNeg)) ((xs (nI k + (4 : Int32)).toNatClampNeg)) σ zLC_0) h1 tw_4_21 tw_4_18 tw_4_19 tw_4_20 tw_1_1 ddX6_years rfl ⟨rfl, rfl⟩ ⟨by decide, by decide⟩ hl.1 (Nat.le_of_ble_eq_true rfl) rfl dL_law_967 rfl ?_
  refine zl_aload_n (pc' := 971) hC dL_law_970 rfl rfl (lv_at hl 2 rfl) ?_
  refine zl_aload_n (pc' := 972) hC dL_law_971 rfl rfl (lv_at hl 0 rfl) ?_
  refine zl_iload_n (pc' := 973) hC dL_law_972 rfl rfl (lv_at hl 3 rfl) ?_
  refine zl_iconst (pc' := 974) (v := (1 : Int32)) hC dL_law_973 rfl rfl ?_
  refine zl_iadd (pc' := 975) hC dL_law_974 rfl ?_
  refine zl_sld (pc' := 976) hC hb0 hX hbl (hin (1 : Int32) 1 rfl (by decide)) dL_law_975 rfl ?_
  refine zl_aload_n (pc' := 977) hC dL_law_976 rfl rfl (lv_at hl 0 rfl) ?_
  refine zl_iload_n (pc' := 978) hC dL_law_977 rfl rfl (lv_at hl 3 rfl) ?_
  refine zl_iconst (pc' := 979) (v := (2 : Int32)) hC dL_law_978 rfl rfl ?_
  refine zl_iadd (pc' := 980) hC dL_law_979 rfl ?_
  refine zl_sld (pc' := 981) hC hb0 hX hbl (hin (2 : Int32) 2 rfl (by decide)) dL_law_980 rfl ?_
  refine zl_aload_n (pc' := 982) hC dL_law_981 rfl rfl (lv_at hl 0 rfl) ?_
  refine zl_iload_n (pc' := 983) hC dL_law_982 rfl rfl (lv_at hl 3 rfl) ?_
  refine zl_iconst (pc' := 984) (v := (3 : Int32)) hC dL_law_983 rfl rfl ?_
  refine zl_iadd (pc' := 985) hC dL_law_984 rfl ?_
  refine zl_sld (pc' := 986) hC hb0 hX hbl (hin (3 : Int32) 3 rfl (by decide)) dL_law_985 rfl ?_
  refine zl_aload_n (pc' := 987) hC dL_law_986 rfl rfl (lv_at hl 0 rfl) ?_
  refine zl_iload_n (pc' := 988) hC dL_law_987 rfl rfl (lv_at hl 3 rfl) ?_
  refine zl_iconst (pc' := 989) (v := (4 : Int32)) hC dL_law_988 rfl rfl ?_
  refine zl_iadd (pc' := 990) hC dL_law_989 rfl ?_
  refine zl_sld (pc' := 991) hC hb0 hX hbl (hin (4 : Int32) 4 rfl (by decide)) dL_law_990 rfl ?_
  refine zl_callMi (pc' := 994) (rest := [.int r]) hb0 hC (kX7_years l (b0 + 173) cA D zLM 0 ((xs (nI k + (1 : Int32)).toNatClampNeg)) ((xs (nI k + (2 : Int32)).toNatClampNeg)) ((xs (nI k + (3 : Int32)).toNatClampNeg)) ((xs (nI k + (4 : Int32)).toNatClampNeg)) τ zLM_0) h2 tw_6_13 tw_6_10 tw_6_11 tw_6_12 tw_1_8 ddX7_years rfl ⟨rfl, rfl⟩ ⟨by decide, by decide⟩ hl.1 (Nat.le_of_ble_eq_true rfl) rfl dL_law_991 rfl ?_
  refine zl_eq (tgt := 1045) hC dL_law_994 (by decide) ?_
  exact K σ' τ' ls h3 hl
set_option maxRecDepth 100000 in
set_option maxHeartbeats 4000000 in
theorem law_c26 {p : Program} {l : Launch} {e : Env} {s : State} {m : MethodId} {b Ls : Nat} {xs : Nat → Int32} {below : List Frame} {meth : Method} {c : Code} {b0 sq sw : Nat} {cA : Nat → ClassId} {D : va_G} {Rel : zS → zS → Prop} (hb0 : b0 = s.heap.size) (hC : zC p c s m #[Value.ref b] meth code 4 (some .boolean) (Cond.initialized "PaidHouseLaw") "PaidHouseLaw" cA D) (hG : zGq (zA b0 zLC) sq sw s s.heap) (hX : va_X b Ls xs s s.heap) (hbl : b < s.heap.size) (hop : op_check Rel) {k : Nat} (hin : ∀ (v : Int32) (n : Nat), v = nI n → n < 6 → vp_in (nI k + v) Ls) (K : ∀ (σ τ : zS) (ls : Array Slot), Rel σ τ → lv_has ls 4 [(0, .ref b), (1, .ref (b0 + 0)), (2, .ref (b0 + 173 + 0)), (3, .int (nI k))] → zLW p l e s m b below meth c b0 cA D σ τ 1045 ls []) (σ τ : zS) (ls : Array Slot) (hR : Rel σ τ) (hl : lv_has ls 4 [(0, .ref b), (1, .ref (b0 + 0)), (2, .ref (b0 + 173 + 0)), (3, .int (nI k))]) : zLW p l e s m b below meth c b0 cA D σ τ 999 ls [] := by
  obtain ⟨r, σ', τ', h1, h2, h3⟩ := hop σ τ hR (xs (nI k + (1 : Int32)).toNatClampNeg)
  refine zl_aload_n (pc' := 1000) hC dL_law_999 rfl rfl (lv_at hl 1 rfl) ?_
  refine zl_aload_n (pc' := 1001) hC dL_law_1000 rfl rfl (lv_at hl 0 rfl) ?_
  refine zl_iload_n (pc' := 1002) hC dL_law_1001 rfl rfl (lv_at hl 3 rfl) ?_
  refine zl_iconst (pc' := 1003) (v := (1 : Int32)) hC dL_law_1002 rfl rfl ?_
  refine zl_iadd (pc' := 1004) hC dL_law_1003 rfl ?_
  refine zl_sld (pc' := 1005) hC hb0 hX hbl (hin (1 : Int32) 1 rfl (by decide)) dL_law_1004 rfl ?_
  refine zl_callCi (pc' := 1008) (rest := []) hb0 hC (kX6_check l b0 cA D zLC 0 ((xs (nI k + (1 : Int32)).toNatClampNeg)) σ zLC_0) h1 tw_4_25 tw_4_22 tw_4_23 tw_4_24 tw_1_1 ddX6_check rfl ⟨rfl, rfl⟩ ⟨by decide, by decide⟩ hl.1 (Nat.le_of_ble_eq_true rfl) rfl dL_law_1005 rfl ?_
  refine zl_aload_n (pc' := 1009) hC dL_law_1008 rfl rfl (lv_at hl 2 rfl) ?_
  refine zl_aload_n (pc' := 1010) hC dL_law_1009 rfl rfl (lv_at hl 0 rfl) ?_
  refine zl_iload_n (pc' := 1011) hC dL_law_1010 rfl rfl (lv_at hl 3 rfl) ?_
  refine zl_iconst (pc' := 1012) (v := (1 : Int32)) hC dL_law_1011 rfl rfl ?_
  refine zl_iadd (pc' := 1013) hC dL_law_1012 rfl ?_
  refine zl_sld (pc' := 1014) hC hb0 hX hbl (hin (1 : Int32) 1 rfl (by decide)) dL_law_1013 rfl ?_
  refine zl_callMi (pc' := 1017) (rest := [.int r]) hb0 hC (kX7_check l (b0 + 173) cA D zLM 0 ((xs (nI k + (1 : Int32)).toNatClampNeg)) τ zLM_0) h2 tw_6_17 tw_6_14 tw_6_15 tw_6_16 tw_1_8 ddX7_check rfl ⟨rfl, rfl⟩ ⟨by decide, by decide⟩ hl.1 (Nat.le_of_ble_eq_true rfl) rfl dL_law_1014 rfl ?_
  refine zl_eq (tgt := 1045) hC dL_law_1017 (by decide) ?_
  exact K σ' τ' ls h3 hl
set_option maxRecDepth 100000 in
set_option maxHeartbeats 4000000 in
theorem law_c27 {p : Program} {l : Launch} {e : Env} {s : State} {m : MethodId} {b Ls : Nat} {xs : Nat → Int32} {below : List Frame} {meth : Method} {c : Code} {b0 sq sw : Nat} {cA : Nat → ClassId} {D : va_G} {Rel : zS → zS → Prop} (hb0 : b0 = s.heap.size) (hC : zC p c s m #[Value.ref b] meth code 4 (some .boolean) (Cond.initialized "PaidHouseLaw") "PaidHouseLaw" cA D) (hG : zGq (zA b0 zLC) sq sw s s.heap) (hX : va_X b Ls xs s s.heap) (hbl : b < s.heap.size) (hop : op_count Rel) {k : Nat} (hin : ∀ (v : Int32) (n : Nat), v = nI n → n < 6 → vp_in (nI k + v) Ls) (K : ∀ (σ τ : zS) (ls : Array Slot), Rel σ τ → lv_has ls 4 [(0, .ref b), (1, .ref (b0 + 0)), (2, .ref (b0 + 173 + 0)), (3, .int (nI k))] → zLW p l e s m b below meth c b0 cA D σ τ 1045 ls []) (σ τ : zS) (ls : Array Slot) (hR : Rel σ τ) (hl : lv_has ls 4 [(0, .ref b), (1, .ref (b0 + 0)), (2, .ref (b0 + 173 + 0)), (3, .int (nI k))]) : zLW p l e s m b below meth c b0 cA D σ τ 1022 ls [] := by
  obtain ⟨r, σ', τ', h1, h2, h3⟩ := hop σ τ hR (xs (nI k + (1 : Int32)).toNatClampNeg)
  refine zl_aload_n (pc' := 1023) hC dL_law_1022 rfl rfl (lv_at hl 1 rfl) ?_
  refine zl_aload_n (pc' := 1024) hC dL_law_1023 rfl rfl (lv_at hl 0 rfl) ?_
  refine zl_iload_n (pc' := 1025) hC dL_law_1024 rfl rfl (lv_at hl 3 rfl) ?_
  refine zl_iconst (pc' := 1026) (v := (1 : Int32)) hC dL_law_1025 rfl rfl ?_
  refine zl_iadd (pc' := 1027) hC dL_law_1026 rfl ?_
  refine zl_sld (pc' := 1028) hC hb0 hX hbl (hin (1 : Int32) 1 rfl (by decide)) dL_law_1027 rfl ?_
  refine zl_callCi (pc' := 1031) (rest := []) hb0 hC (kX6_count l b0 cA D zLC 0 ((xs (nI k + (1 : Int32)).toNatClampNeg)) σ zLC_0) h1 tw_4_37 tw_4_34 tw_4_35 tw_4_36 tw_1_1 ddX6_count rfl ⟨rfl, rfl⟩ ⟨by decide, by decide⟩ hl.1 (Nat.le_of_ble_eq_true rfl) rfl dL_law_1028 rfl ?_
  refine zl_aload_n (pc' := 1032) hC dL_law_1031 rfl rfl (lv_at hl 2 rfl) ?_
  refine zl_aload_n (pc' := 1033) hC dL_law_1032 rfl rfl (lv_at hl 0 rfl) ?_
  refine zl_iload_n (pc' := 1034) hC dL_law_1033 rfl rfl (lv_at hl 3 rfl) ?_
  refine zl_iconst (pc' := 1035) (v := (1 : Int32)) hC dL_law_1034 rfl rfl ?_
  refine zl_iadd (pc' := 1036) hC dL_law_1035 rfl ?_
  refine zl_sld (pc' := 1037) hC hb0 hX hbl (hin (1 : Int32) 1 rfl (by decide)) dL_law_1036 rfl ?_
  refine zl_callMi (pc' := 1040) (rest := [.int r]) hb0 hC (kX7_count l (b0 + 173) cA D zLM 0 ((xs (nI k + (1 : Int32)).toNatClampNeg)) τ zLM_0) h2 tw_6_25 tw_6_22 tw_6_23 tw_6_24 tw_1_8 ddX7_count rfl ⟨rfl, rfl⟩ ⟨by decide, by decide⟩ hl.1 (Nat.le_of_ble_eq_true rfl) rfl dL_law_1037 rfl ?_
  refine zl_eq (tgt := 1045) hC dL_law_1040 (by decide) ?_
  exact K σ' τ' ls h3 hl
set_option maxRecDepth 100000 in
set_option maxHeartbeats 4000000 in
/-- the law's loop -/
theorem law_loop {p : Program} {l : Launch} {e : Env} {s : State} {m : MethodId} {b Ls : Nat} {xs : Nat → Int32} {below : List Frame} {meth : Method} {c : Code} {b0 sq sw : Nat} {cA : Nat → ClassId} {D : va_G} {Rel : zS → zS → Prop} (hLs : Ls ≤ 3072) (hb0 : b0 = s.heap.size) (hC : zC p c s m #[Value.ref b] meth code 4 (some .boolean) (Cond.initialized "PaidHouseLaw") "PaidHouseLaw" cA D) (hG : zGq (zA b0 zLC) sq sw s s.heap) (hX : va_X b Ls xs s s.heap) (hbl : b < s.heap.size) (hret : meth.sig.returnType = ret) (hops : zOps Rel) : ∀ (n k : Nat), k ≤ Ls → Ls < k + n → ∀ (σ τ : zS) (ls : Array Slot), Rel σ τ → lv_has ls 4 [(0, .ref b), (1, .ref (b0 + 0)), (2, .ref (b0 + 173 + 0)), (3, .int (nI k))] → zLW p l e s m b below meth c b0 cA D σ τ 18 ls [] := by
  intro n
  induction n with
  | zero => intro k h1 h2; exact absurd h2 (by omega)
  | succ n ih =>
    intro k hk hn σ τ ls hR hl
    refine zl_iload_n (pc' := 19) hC dL_law_18 rfl rfl (lv_at hl 3 rfl) ?_
    refine zl_aload_n (pc' := 20) hC dL_law_19 rfl rfl (lv_at hl 0 rfl) ?_
    refine zl_slen (pc' := 21) hC hb0 hX hbl dL_law_20 rfl ?_
    refine zl_bipush (pc' := 23) (v := (6 : Int32)) hC dL_law_21 rfl rfl ?_
    refine zl_isub (pc' := 24) hC dL_law_23 rfl ?_
    refine zl_gt (tgt := 1051) (pc' := 27) hC dL_law_24 (by decide) rfl (fun _ => ?_) (fun hgt => ?_)
    · refine zl_iconst (pc' := 1052) (v := (1 : Int32)) hC dL_law_1051 rfl rfl ?_
      intro H locs hP hT hP2 hT2 hS
      refine va_forget (fun q hq => by rw [← hb0]; exact hS.2.2 q hq) ?_
      refine W.widen (k := 600000) (n := 7302250) (by decide) (by decide) ?_
      exact lw_ret hC.1.1 hC.1.2.1 hret hC.2.2.2 dL_law_1052
    have h6 : k + 6 ≤ Ls := by
      have e1 : (nI Ls - nI 6).toInt = (Ls : Int) - (6 : Nat) := pk_sub_toInt (by omega) (by decide)
      have e2 : (nI k).toInt = (k : Int) := nI_toInt (by omega)
      have e3 : ¬ (nI Ls - nI 6).toInt < (nI k).toInt := fun q => hgt (Int32.lt_iff_toInt_lt.mpr q)
      rw [e1, e2] at e3
      omega
    have hin0 : vp_in (nI k) Ls := vp_in_nI (by omega) (by omega)
    have hin : ∀ (v : Int32) (n : Nat), v = nI n → n < 6 → vp_in (nI k + v) Ls := by
      intro v n hv hn
      rw [hv, nI_add]
      exact vp_in_nI (by omega) (by omega)
    have K : ∀ (σ τ : zS) (ls : Array Slot), Rel σ τ → lv_has ls 4 [(0, .ref b), (1, .ref (b0 + 0)), (2, .ref (b0 + 173 + 0)), (3, .int (nI k))] → zLW p l e s m b below meth c b0 cA D σ τ 1045 ls [] := by
      intro σ τ ls hR hl
      refine zl_iinc (pc' := 1048) (k0 := 3) (v := nI (k + 6)) (lv' := [(3, .int (nI (k + 6))), (0, .ref b), (1, .ref (b0 + 0)), (2, .ref (b0 + 173 + 0))]) hC dL_law_1045 rfl hl rfl (by rw [← nI_add]; rfl) (by decide) rfl (fun ls hl => ?_)
      refine zl_goto (tgt := 18) hC dL_law_1048 (by decide) ?_
      exact ih (k + 6) h6 (by omega) σ τ ls hR (lv_sub hl [1, 2, 3, 0] rfl)
    refine zl_aload_n (pc' := 28) hC dL_law_27 rfl rfl (lv_at hl 0 rfl) ?_
    refine zl_iload_n (pc' := 29) hC dL_law_28 rfl rfl (lv_at hl 3 rfl) ?_
    refine zl_sld (pc' := 30) hC hb0 hX hbl hin0 dL_law_29 rfl ?_
    refine zl_bipush (pc' := 32) (v := (31 : Int32)) hC dL_law_30 rfl rfl ?_
    refine zl_iand (pc' := 33) hC dL_law_32 rfl ?_
    by_cases c0 : xs (nI k).toNatClampNeg &&& 31 = (0 : Int32)
    · exact zl_tabIn (tgt := 160) 0 hC dL_law_33 (by rw [c0]; decide) (by decide) (by decide) rfl (by decide) (law_c0 hb0 hC hG hX hbl hops.1 hin K σ τ ls hR hl)
    by_cases c1 : xs (nI k).toNatClampNeg &&& 31 = (1 : Int32)
    · exact zl_tabIn (tgt := 183) 1 hC dL_law_33 (by rw [c1]; decide) (by decide) (by decide) rfl (by decide) (law_c1 hb0 hC hG hX hbl hops.2.1 hin K σ τ ls hR hl)
    by_cases c2 : xs (nI k).toNatClampNeg &&& 31 = (2 : Int32)
    · exact zl_tabIn (tgt := 226) 2 hC dL_law_33 (by rw [c2]; decide) (by decide) (by decide) rfl (by decide) (law_c2 hb0 hC hG hX hbl hops.2.2.1 hin K σ τ ls hR hl)
    by_cases c3 : xs (nI k).toNatClampNeg &&& 31 = (3 : Int32)
    · exact zl_tabIn (tgt := 259) 3 hC dL_law_33 (by rw [c3]; decide) (by decide) (by decide) rfl (by decide) (law_c3 hb0 hC hG hX hbl hops.2.2.2.1 hin K σ τ ls hR hl)
    by_cases c4 : xs (nI k).toNatClampNeg &&& 31 = (4 : Int32)
    · exact zl_tabIn (tgt := 282) 4 hC dL_law_33 (by rw [c4]; decide) (by decide) (by decide) rfl (by decide) (law_c4 hb0 hC hG hX hbl hops.2.2.2.2.1 hin K σ τ ls hR hl)
    by_cases c5 : xs (nI k).toNatClampNeg &&& 31 = (5 : Int32)
    · exact zl_tabIn (tgt := 325) 5 hC dL_law_33 (by rw [c5]; decide) (by decide) (by decide) rfl (by decide) (law_c5 hb0 hC hG hX hbl hops.2.2.2.2.2.1 hin K σ τ ls hR hl)
    by_cases c6 : xs (nI k).toNatClampNeg &&& 31 = (6 : Int32)
    · exact zl_tabIn (tgt := 368) 6 hC dL_law_33 (by rw [c6]; decide) (by decide) (by decide) rfl (by decide) (law_c6 hb0 hC hG hX hbl hops.2.2.2.2.2.2.1 hin K σ τ ls hR hl)
    by_cases c7 : xs (nI k).toNatClampNeg &&& 31 = (7 : Int32)
    · exact zl_tabIn (tgt := 431) 7 hC dL_law_33 (by rw [c7]; decide) (by decide) (by decide) rfl (by decide) (law_c7 hb0 hC hG hX hbl hops.2.2.2.2.2.2.2.1 hin K σ τ ls hR hl)
    by_cases c8 : xs (nI k).toNatClampNeg &&& 31 = (8 : Int32)
    · exact zl_tabIn (tgt := 464) 8 hC dL_law_33 (by rw [c8]; decide) (by decide) (by decide) rfl (by decide) (law_c8 hb0 hC hG hX hbl hops.2.2.2.2.2.2.2.2.1 hin K σ τ ls hR hl)
    by_cases c9 : xs (nI k).toNatClampNeg &&& 31 = (9 : Int32)
    · exact zl_tabIn (tgt := 497) 9 hC dL_law_33 (by rw [c9]; decide) (by decide) (by decide) rfl (by decide) (law_c9 hb0 hC hG hX hbl hops.2.2.2.2.2.2.2.2.2.1 hin K σ τ ls hR hl)
    by_cases c10 : xs (nI k).toNatClampNeg &&& 31 = (10 : Int32)
    · exact zl_tabIn (tgt := 530) 10 hC dL_law_33 (by rw [c10]; decide) (by decide) (by decide) rfl (by decide) (law_c10 hb0 hC hG hX hbl hops.2.2.2.2.2.2.2.2.2.2.1 hin K σ τ ls hR hl)
    by_cases c11 : xs (nI k).toNatClampNeg &&& 31 = (11 : Int32)
    · exact zl_tabIn (tgt := 543) 11 hC dL_law_33 (by rw [c11]; decide) (by decide) (by decide) rfl (by decide) (law_c11 hb0 hC hG hX hbl hops.2.2.2.2.2.2.2.2.2.2.2.1 hin K σ τ ls hR hl)
    by_cases c12 : xs (nI k).toNatClampNeg &&& 31 = (12 : Int32)
    · exact zl_tabIn (tgt := 576) 12 hC dL_law_33 (by rw [c12]; decide) (by decide) (by decide) rfl (by decide) (law_c12 hb0 hC hG hX hbl hops.2.2.2.2.2.2.2.2.2.2.2.2.1 hin K σ τ ls hR hl)
    by_cases c13 : xs (nI k).toNatClampNeg &&& 31 = (13 : Int32)
    · exact zl_tabIn (tgt := 599) 13 hC dL_law_33 (by rw [c13]; decide) (by decide) (by decide) rfl (by decide) (law_c13 hb0 hC hG hX hbl hops.2.2.2.2.2.2.2.2.2.2.2.2.2.1 hin K σ τ ls hR hl)
    by_cases c14 : xs (nI k).toNatClampNeg &&& 31 = (14 : Int32)
    · exact zl_tabIn (tgt := 622) 14 hC dL_law_33 (by rw [c14]; decide) (by decide) (by decide) rfl (by decide) (law_c14 hb0 hC hG hX hbl hops.2.2.2.2.2.2.2.2.2.2.2.2.2.2.1 hin K σ τ ls hR hl)
    by_cases c15 : xs (nI k).toNatClampNeg &&& 31 = (15 : Int32)
    · exact zl_tabIn (tgt := 635) 15 hC dL_law_33 (by rw [c15]; decide) (by decide) (by decide) rfl (by decide) (law_c15 hb0 hC hG hX hbl hops.2.2.2.2.2.2.2.2.2.2.2.2.2.2.2.1 hin K σ τ ls hR hl)
    by_cases c16 : xs (nI k).toNatClampNeg &&& 31 = (16 : Int32)
    · exact zl_tabIn (tgt := 678) 16 hC dL_law_33 (by rw [c16]; decide) (by decide) (by decide) rfl (by decide) (law_c16 hb0 hC hG hX hbl hops.2.2.2.2.2.2.2.2.2.2.2.2.2.2.2.2.1 hin K σ τ ls hR hl)
    by_cases c17 : xs (nI k).toNatClampNeg &&& 31 = (17 : Int32)
    · exact zl_tabIn (tgt := 691) 17 hC dL_law_33 (by rw [c17]; decide) (by decide) (by decide) rfl (by decide) (law_c17 hb0 hC hG hX hbl hops.2.2.2.2.2.2.2.2.2.2.2.2.2.2.2.2.2.1 hin K σ τ ls hR hl)
    by_cases c18 : xs (nI k).toNatClampNeg &&& 31 = (18 : Int32)
    · exact zl_tabIn (tgt := 714) 18 hC dL_law_33 (by rw [c18]; decide) (by decide) (by decide) rfl (by decide) (law_c18 hb0 hC hG hX hbl hops.2.2.2.2.2.2.2.2.2.2.2.2.2.2.2.2.2.2.1 hin K σ τ ls hR hl)
    by_cases c19 : xs (nI k).toNatClampNeg &&& 31 = (19 : Int32)
    · exact zl_tabIn (tgt := 767) 19 hC dL_law_33 (by rw [c19]; decide) (by decide) (by decide) rfl (by decide) (law_c19 hb0 hC hG hX hbl hops.2.2.2.2.2.2.2.2.2.2.2.2.2.2.2.2.2.2.2.1 hin K σ τ ls hR hl)
    by_cases c20 : xs (nI k).toNatClampNeg &&& 31 = (20 : Int32)
    · exact zl_tabIn (tgt := 800) 20 hC dL_law_33 (by rw [c20]; decide) (by decide) (by decide) rfl (by decide) (law_c20 hb0 hC hG hX hbl hops.2.2.2.2.2.2.2.2.2.2.2.2.2.2.2.2.2.2.2.2.1 hin K σ τ ls hR hl)
    by_cases c21 : xs (nI k).toNatClampNeg &&& 31 = (21 : Int32)
    · exact zl_tabIn (tgt := 813) 21 hC dL_law_33 (by rw [c21]; decide) (by decide) (by decide) rfl (by decide) (law_c21 hb0 hC hG hX hbl hops.2.2.2.2.2.2.2.2.2.2.2.2.2.2.2.2.2.2.2.2.2.1 hin K σ τ ls hR hl)
    by_cases c22 : xs (nI k).toNatClampNeg &&& 31 = (22 : Int32)
    · exact zl_tabIn (tgt := 836) 22 hC dL_law_33 (by rw [c22]; decide) (by decide) (by decide) rfl (by decide) (law_c22 hb0 hC hG hX hbl hops.2.2.2.2.2.2.2.2.2.2.2.2.2.2.2.2.2.2.2.2.2.2.1 hin K σ τ ls hR hl)
    by_cases c23 : xs (nI k).toNatClampNeg &&& 31 = (23 : Int32)
    · exact zl_tabIn (tgt := 859) 23 hC dL_law_33 (by rw [c23]; decide) (by decide) (by decide) rfl (by decide) (law_c23 hb0 hC hG hX hbl hops.2.2.2.2.2.2.2.2.2.2.2.2.2.2.2.2.2.2.2.2.2.2.2.1 hin K σ τ ls hR hl)
    by_cases c24 : xs (nI k).toNatClampNeg &&& 31 = (24 : Int32)
    · exact zl_tabIn (tgt := 882) 24 hC dL_law_33 (by rw [c24]; decide) (by decide) (by decide) rfl (by decide) (law_c24 hb0 hC hG hX hbl hops.2.2.2.2.2.2.2.2.2.2.2.2.2.2.2.2.2.2.2.2.2.2.2.2.1 hin K σ τ ls hR hl)
    by_cases c25 : xs (nI k).toNatClampNeg &&& 31 = (25 : Int32)
    · exact zl_tabIn (tgt := 946) 25 hC dL_law_33 (by rw [c25]; decide) (by decide) (by decide) rfl (by decide) (law_c25 hb0 hC hG hX hbl hops.2.2.2.2.2.2.2.2.2.2.2.2.2.2.2.2.2.2.2.2.2.2.2.2.2.1 hin K σ τ ls hR hl)
    by_cases c26 : xs (nI k).toNatClampNeg &&& 31 = (26 : Int32)
    · exact zl_tabIn (tgt := 999) 26 hC dL_law_33 (by rw [c26]; decide) (by decide) (by decide) rfl (by decide) (law_c26 hb0 hC hG hX hbl hops.2.2.2.2.2.2.2.2.2.2.2.2.2.2.2.2.2.2.2.2.2.2.2.2.2.2.1 hin K σ τ ls hR hl)
    by_cases c27 : xs (nI k).toNatClampNeg &&& 31 = (27 : Int32)
    · exact zl_tabIn (tgt := 1022) 27 hC dL_law_33 (by rw [c27]; decide) (by decide) (by decide) rfl (by decide) (law_c27 hb0 hC hG hX hbl hops.2.2.2.2.2.2.2.2.2.2.2.2.2.2.2.2.2.2.2.2.2.2.2.2.2.2.2 hin K σ τ ls hR hl)
    refine zl_tabOut (tgt := 1045) hC dL_law_33 ?_ (by decide) (K σ τ ls hR hl)
    by_cases hz : (xs (nI k).toNatClampNeg &&& 31).toInt < 0 ∨ 27 < (xs (nI k).toNatClampNeg &&& 31).toInt
    · exact hz
    · exfalso
      have g0 := lv_neT c0 (a := 0) (by decide)
      have g1 := lv_neT c1 (a := 1) (by decide)
      have g2 := lv_neT c2 (a := 2) (by decide)
      have g3 := lv_neT c3 (a := 3) (by decide)
      have g4 := lv_neT c4 (a := 4) (by decide)
      have g5 := lv_neT c5 (a := 5) (by decide)
      have g6 := lv_neT c6 (a := 6) (by decide)
      have g7 := lv_neT c7 (a := 7) (by decide)
      have g8 := lv_neT c8 (a := 8) (by decide)
      have g9 := lv_neT c9 (a := 9) (by decide)
      have g10 := lv_neT c10 (a := 10) (by decide)
      have g11 := lv_neT c11 (a := 11) (by decide)
      have g12 := lv_neT c12 (a := 12) (by decide)
      have g13 := lv_neT c13 (a := 13) (by decide)
      have g14 := lv_neT c14 (a := 14) (by decide)
      have g15 := lv_neT c15 (a := 15) (by decide)
      have g16 := lv_neT c16 (a := 16) (by decide)
      have g17 := lv_neT c17 (a := 17) (by decide)
      have g18 := lv_neT c18 (a := 18) (by decide)
      have g19 := lv_neT c19 (a := 19) (by decide)
      have g20 := lv_neT c20 (a := 20) (by decide)
      have g21 := lv_neT c21 (a := 21) (by decide)
      have g22 := lv_neT c22 (a := 22) (by decide)
      have g23 := lv_neT c23 (a := 23) (by decide)
      have g24 := lv_neT c24 (a := 24) (by decide)
      have g25 := lv_neT c25 (a := 25) (by decide)
      have g26 := lv_neT c26 (a := 26) (by decide)
      have g27 := lv_neT c27 (a := 27) (by decide)
      omega
