/-! the law's cases: written by wip/whole/law2.py -/
def Turn (start : Nat) : Prop := ∀ {p : Program} {l : Launch} {e : Env} {S : State} {m : MethodId} {args : Array Value} {below : List Frame} {meth : Method} {c : Code} {H : Heap} {locs : List Loc} {cells slots : Nat} {Q : State → Prop} {ls : Array Slot} {g : GG} {a : Nat → Nat} {ao : Nat} {bm : Nat → Nat} {h : HS} {z : Nat → Int64} {w : MS} {sb L i : Nat} {xs : Nat → Int32},
  l.stackTraces = false → apL a ao bm S.heap.size → Cx RL g p S m args meth c cL_law 7 (some .boolean) → Zt (fun q => S.heap.size ≤ q) S S.heap → va_Nc exS exI S → va_Nc exA exI S → va_X sb L xs S S.heap → sb < S.heap.size → L ≤ 2048 → i + 3 < L → cells + 1 ≤ room_1.cells ∧ slots + 6 ≤ room_1.slots → OKs h w → YL g a ao bm S H locs h z w → lv_has ls 7 [(4, .int (nI i)), (0, .ref sb), (1, .ref (a 0)), (2, .ref (bm 0)), (3, .ref ao)] →
  (∀ (H : Heap) (locs : List Loc) (ls : Array Slot) (h : HS) (z : Nat → Int64) (w : MS), OKs h w → YL g a ao bm S H locs h z w → lv_has ls 7 [(4, .int (nI i)), (0, .ref sb), (1, .ref (a 0)), (2, .ref (bm 0)), (3, .ref ao)] → W p l e room_1 S m args below meth c H locs (cells + 1) (slots + 6) Q (F0 m 723 ls [])) →
  W p l e room_1 S m args below meth c H locs cells slots Q (F0 m start ls [])
set_option maxHeartbeats 1000000 in
theorem tn_make : Turn 112 := by
  intro p l e S m args below meth c H locs cells slots Q ls g a ao bm h z w sb L i xs hl0 hap X hZ n1 n2 hX hsb hL hi hf o Y hl fin
  have hx := X.1
  have hb := X.2.1
  obtain ⟨kk, h', z', bv, w', hLC, hCi, hTR, hzz, o'⟩ := op_make (l := l) (g := g) (z := z) hl0 hap.1 hap.2.1 o (xs (i + 1)) (xs (i + 2))
  refine lv_aload_n hx hb dL_law_112 rfl (lv_at hl 2 rfl) ?_
  refine lv_aload_n hx hb dL_law_113 rfl (lv_at hl 1 rfl) ?_
  refine lv_iload hx hb dL_law_114 (lv_at hl 0 rfl) ?_
  refine lv_iconst (v := nI 1) hx hb dL_law_116 (by decide) ?_
  refine bn_add hx hb dL_law_117 ?_
  refine la_rd X hX hsb hL Y (by omega) dL_law_118 ?_
  refine lv_aload_n hx hb dL_law_119 rfl (lv_at hl 1 rfl) ?_
  refine lv_iload hx hb dL_law_120 (lv_at hl 0 rfl) ?_
  refine lv_iconst (v := nI 2) hx hb dL_law_122 (by decide) ?_
  refine bn_add hx hb dL_law_123 ?_
  refine la_rd X hX hsb hL Y (by omega) dL_law_124 ?_
  refine lv_aload_n hx hb dL_law_125 rfl (lv_at hl 4 rfl) ?_
  refine la_L (na := 4) (rest := []) hap X hZ n1 n2 Y hLC gL_L_make (by decide +kernel) rfl ⟨rfl, rfl⟩ ⟨Nat.le_of_ble_eq_true rfl, Nat.le_of_ble_eq_true rfl⟩ hl.1 rfl (Nat.le_of_ble_eq_true rfl) dL_law_126 hf (fun H locs Y => ?_)
  refine lv_istore (lv' := [(5, .int kk), (4, .int (nI i)), (0, .ref sb), (1, .ref (a 0)), (2, .ref (bm 0)), (3, .ref ao)]) hx hb dL_law_129 hl (by decide) rfl (fun ls hl => ?_)
  refine lv_aload_n hx hb dL_law_131 rfl (lv_at hl 4 rfl) ?_
  refine lv_aload_n hx hb dL_law_132 rfl (lv_at hl 2 rfl) ?_
  refine lv_iload hx hb dL_law_133 (lv_at hl 1 rfl) ?_
  refine lv_iconst (v := nI 1) hx hb dL_law_135 (by decide) ?_
  refine bn_add hx hb dL_law_136 ?_
  refine la_rd X hX hsb hL Y (by omega) dL_law_137 ?_
  refine lv_aload_n hx hb dL_law_138 rfl (lv_at hl 2 rfl) ?_
  refine lv_iload hx hb dL_law_139 (lv_at hl 1 rfl) ?_
  refine lv_iconst (v := nI 2) hx hb dL_law_141 (by decide) ?_
  refine bn_add hx hb dL_law_142 ?_
  refine la_rd X hX hsb hL Y (by omega) dL_law_143 ?_
  refine la_M (na := 2) (av := [.int (xs (i + 1)), .int (xs (i + 2))]) (rest := []) hap X Y hCi gL_M_make (by decide +kernel) rfl ⟨rfl, rfl⟩ ⟨Nat.le_of_ble_eq_true rfl, Nat.le_of_ble_eq_true rfl⟩ hl.1 rfl (Nat.le_of_ble_eq_true rfl) dL_law_144 hf (fun H locs Y => ?_)
  refine lv_istore (lv' := [(6, .int bv), (5, .int kk), (4, .int (nI i)), (0, .ref sb), (1, .ref (a 0)), (2, .ref (bm 0)), (3, .ref ao)]) hx hb dL_law_147 hl (by decide) rfl (fun ls hl => ?_)
  refine lv_aload_n hx hb dL_law_149 rfl (lv_at hl 5 rfl) ?_
  refine la_M (na := 0) (av := []) (rest := []) hap X Y (tM_thrown l g bm hap.2.1 w') gL_M_thrown (by decide +kernel) rfl ⟨rfl, rfl⟩ ⟨Nat.le_of_ble_eq_true rfl, Nat.le_of_ble_eq_true rfl⟩ hl.1 rfl (Nat.le_of_ble_eq_true rfl) dL_law_150 hf (fun H locs Y => ?_)
  refine lv_iload hx hb dL_law_153 (lv_at hl 1 rfl) ?_
  refine lv_icmp_eq (tgt := 160) hx hb dL_law_155 (by decide) (fun _ => ?_) (fun q => absurd hTR q)
  refine lv_iload hx hb dL_law_160 (lv_at hl 1 rfl) ?_
  refine lv_if_ne (tgt := 177) hx hb dL_law_162 (by decide) (fun _ => ?_) (fun hk0 => ?_)
  · skip
    refine lv_goto (tgt := 723) hx hb dL_law_177 (by decide) ?_
    exact fin _ _ _ _ _ _ o' Y (lv_sub hl [2, 3, 4, 5, 6] rfl)
  · skip
    refine lv_aload_n hx hb dL_law_165 rfl (lv_at hl 6 rfl) ?_
    refine lv_iconst (v := nI 0) hx hb dL_law_166 (by decide) ?_
    refine la_out X Y dL_law_167 ?_
    refine lv_iload hx hb dL_law_168 (lv_at hl 0 rfl) ?_
    refine lv_i2l hx hb dL_law_170 rfl ?_
    refine W.lcmp hx hb dL_law_171 ?_
    refine lv_if_eq (tgt := 177) hx hb dL_law_172 (by decide) (fun _ => ?_) (fun q => absurd (lg_cmp_self (hzz hk0)) q)
    refine lv_goto (tgt := 723) hx hb dL_law_177 (by decide) ?_
    exact fin _ _ _ _ _ _ o' Y (lv_sub hl [2, 3, 4, 5, 6] rfl)
set_option maxHeartbeats 1000000 in
theorem tn_store : Turn 180 := by
  intro p l e S m args below meth c H locs cells slots Q ls g a ao bm h z w sb L i xs hl0 hap X hZ n1 n2 hX hsb hL hi hf o Y hl fin
  have hx := X.1
  have hb := X.2.1
  obtain ⟨kk, h', z', bv, w', hLC, hCi, hTR, hzz, o'⟩ := op_store (l := l) (g := g) (z := z) hl0 hap.1 hap.2.1 o (xs (i + 1)) (xs (i + 2)) (xs (i + 3))
  refine lv_aload_n hx hb dL_law_180 rfl (lv_at hl 2 rfl) ?_
  refine lv_aload_n hx hb dL_law_181 rfl (lv_at hl 1 rfl) ?_
  refine lv_iload hx hb dL_law_182 (lv_at hl 0 rfl) ?_
  refine lv_iconst (v := nI 1) hx hb dL_law_184 (by decide) ?_
  refine bn_add hx hb dL_law_185 ?_
  refine la_rd X hX hsb hL Y (by omega) dL_law_186 ?_
  refine lv_aload_n hx hb dL_law_187 rfl (lv_at hl 1 rfl) ?_
  refine lv_iload hx hb dL_law_188 (lv_at hl 0 rfl) ?_
  refine lv_iconst (v := nI 2) hx hb dL_law_190 (by decide) ?_
  refine bn_add hx hb dL_law_191 ?_
  refine la_rd X hX hsb hL Y (by omega) dL_law_192 ?_
  refine lv_aload_n hx hb dL_law_193 rfl (lv_at hl 1 rfl) ?_
  refine lv_iload hx hb dL_law_194 (lv_at hl 0 rfl) ?_
  refine lv_iconst (v := nI 3) hx hb dL_law_196 (by decide) ?_
  refine bn_add hx hb dL_law_197 ?_
  refine la_rd X hX hsb hL Y (by omega) dL_law_198 ?_
  refine lv_aload_n hx hb dL_law_199 rfl (lv_at hl 4 rfl) ?_
  refine la_L (na := 5) (rest := []) hap X hZ n1 n2 Y hLC gL_L_store (by decide +kernel) rfl ⟨rfl, rfl⟩ ⟨Nat.le_of_ble_eq_true rfl, Nat.le_of_ble_eq_true rfl⟩ hl.1 rfl (Nat.le_of_ble_eq_true rfl) dL_law_200 hf (fun H locs Y => ?_)
  refine lv_istore (lv' := [(5, .int kk), (4, .int (nI i)), (0, .ref sb), (1, .ref (a 0)), (2, .ref (bm 0)), (3, .ref ao)]) hx hb dL_law_203 hl (by decide) rfl (fun ls hl => ?_)
  refine lv_aload_n hx hb dL_law_205 rfl (lv_at hl 4 rfl) ?_
  refine lv_aload_n hx hb dL_law_206 rfl (lv_at hl 2 rfl) ?_
  refine lv_iload hx hb dL_law_207 (lv_at hl 1 rfl) ?_
  refine lv_iconst (v := nI 1) hx hb dL_law_209 (by decide) ?_
  refine bn_add hx hb dL_law_210 ?_
  refine la_rd X hX hsb hL Y (by omega) dL_law_211 ?_
  refine lv_aload_n hx hb dL_law_212 rfl (lv_at hl 2 rfl) ?_
  refine lv_iload hx hb dL_law_213 (lv_at hl 1 rfl) ?_
  refine lv_iconst (v := nI 2) hx hb dL_law_215 (by decide) ?_
  refine bn_add hx hb dL_law_216 ?_
  refine la_rd X hX hsb hL Y (by omega) dL_law_217 ?_
  refine lv_aload_n hx hb dL_law_218 rfl (lv_at hl 2 rfl) ?_
  refine lv_iload hx hb dL_law_219 (lv_at hl 1 rfl) ?_
  refine lv_iconst (v := nI 3) hx hb dL_law_221 (by decide) ?_
  refine bn_add hx hb dL_law_222 ?_
  refine la_rd X hX hsb hL Y (by omega) dL_law_223 ?_
  refine la_M (na := 3) (av := [.int (xs (i + 1)), .int (xs (i + 2)), .int (xs (i + 3))]) (rest := []) hap X Y hCi gL_M_store (by decide +kernel) rfl ⟨rfl, rfl⟩ ⟨Nat.le_of_ble_eq_true rfl, Nat.le_of_ble_eq_true rfl⟩ hl.1 rfl (Nat.le_of_ble_eq_true rfl) dL_law_224 hf (fun H locs Y => ?_)
  refine lv_istore (lv' := [(6, .int bv), (5, .int kk), (4, .int (nI i)), (0, .ref sb), (1, .ref (a 0)), (2, .ref (bm 0)), (3, .ref ao)]) hx hb dL_law_227 hl (by decide) rfl (fun ls hl => ?_)
  refine lv_aload_n hx hb dL_law_229 rfl (lv_at hl 5 rfl) ?_
  refine la_M (na := 0) (av := []) (rest := []) hap X Y (tM_thrown l g bm hap.2.1 w') gL_M_thrown (by decide +kernel) rfl ⟨rfl, rfl⟩ ⟨Nat.le_of_ble_eq_true rfl, Nat.le_of_ble_eq_true rfl⟩ hl.1 rfl (Nat.le_of_ble_eq_true rfl) dL_law_230 hf (fun H locs Y => ?_)
  refine lv_iload hx hb dL_law_233 (lv_at hl 1 rfl) ?_
  refine lv_icmp_eq (tgt := 240) hx hb dL_law_235 (by decide) (fun _ => ?_) (fun q => absurd hTR q)
  refine lv_iload hx hb dL_law_240 (lv_at hl 1 rfl) ?_
  refine lv_if_ne (tgt := 257) hx hb dL_law_242 (by decide) (fun _ => ?_) (fun hk0 => ?_)
  · skip
    refine lv_goto (tgt := 723) hx hb dL_law_257 (by decide) ?_
    exact fin _ _ _ _ _ _ o' Y (lv_sub hl [2, 3, 4, 5, 6] rfl)
  · skip
    refine lv_aload_n hx hb dL_law_245 rfl (lv_at hl 6 rfl) ?_
    refine lv_iconst (v := nI 0) hx hb dL_law_246 (by decide) ?_
    refine la_out X Y dL_law_247 ?_
    refine lv_iload hx hb dL_law_248 (lv_at hl 0 rfl) ?_
    refine lv_i2l hx hb dL_law_250 rfl ?_
    refine W.lcmp hx hb dL_law_251 ?_
    refine lv_if_eq (tgt := 257) hx hb dL_law_252 (by decide) (fun _ => ?_) (fun q => absurd (lg_cmp_self (hzz hk0)) q)
    refine lv_goto (tgt := 723) hx hb dL_law_257 (by decide) ?_
    exact fin _ _ _ _ _ _ o' Y (lv_sub hl [2, 3, 4, 5, 6] rfl)
set_option maxHeartbeats 1000000 in
theorem tn_load : Turn 260 := by
  intro p l e S m args below meth c H locs cells slots Q ls g a ao bm h z w sb L i xs hl0 hap X hZ n1 n2 hX hsb hL hi hf o Y hl fin
  have hx := X.1
  have hb := X.2.1
  obtain ⟨kk, h', z', bv, w', hLC, hCi, hTR, hzz, o'⟩ := op_load (l := l) (g := g) (z := z) hl0 hap.1 hap.2.1 o (xs (i + 1)) (xs (i + 2)) (xs (i + 3))
  refine lv_aload_n hx hb dL_law_260 rfl (lv_at hl 2 rfl) ?_
  refine lv_aload_n hx hb dL_law_261 rfl (lv_at hl 1 rfl) ?_
  refine lv_iload hx hb dL_law_262 (lv_at hl 0 rfl) ?_
  refine lv_iconst (v := nI 1) hx hb dL_law_264 (by decide) ?_
  refine bn_add hx hb dL_law_265 ?_
  refine la_rd X hX hsb hL Y (by omega) dL_law_266 ?_
  refine lv_aload_n hx hb dL_law_267 rfl (lv_at hl 1 rfl) ?_
  refine lv_iload hx hb dL_law_268 (lv_at hl 0 rfl) ?_
  refine lv_iconst (v := nI 2) hx hb dL_law_270 (by decide) ?_
  refine bn_add hx hb dL_law_271 ?_
  refine la_rd X hX hsb hL Y (by omega) dL_law_272 ?_
  refine lv_aload_n hx hb dL_law_273 rfl (lv_at hl 1 rfl) ?_
  refine lv_iload hx hb dL_law_274 (lv_at hl 0 rfl) ?_
  refine lv_iconst (v := nI 3) hx hb dL_law_276 (by decide) ?_
  refine bn_add hx hb dL_law_277 ?_
  refine la_rd X hX hsb hL Y (by omega) dL_law_278 ?_
  refine lv_aload_n hx hb dL_law_279 rfl (lv_at hl 4 rfl) ?_
  refine la_L (na := 5) (rest := []) hap X hZ n1 n2 Y hLC gL_L_load (by decide +kernel) rfl ⟨rfl, rfl⟩ ⟨Nat.le_of_ble_eq_true rfl, Nat.le_of_ble_eq_true rfl⟩ hl.1 rfl (Nat.le_of_ble_eq_true rfl) dL_law_280 hf (fun H locs Y => ?_)
  refine lv_istore (lv' := [(5, .int kk), (4, .int (nI i)), (0, .ref sb), (1, .ref (a 0)), (2, .ref (bm 0)), (3, .ref ao)]) hx hb dL_law_283 hl (by decide) rfl (fun ls hl => ?_)
  refine lv_aload_n hx hb dL_law_285 rfl (lv_at hl 4 rfl) ?_
  refine lv_aload_n hx hb dL_law_286 rfl (lv_at hl 2 rfl) ?_
  refine lv_iload hx hb dL_law_287 (lv_at hl 1 rfl) ?_
  refine lv_iconst (v := nI 1) hx hb dL_law_289 (by decide) ?_
  refine bn_add hx hb dL_law_290 ?_
  refine la_rd X hX hsb hL Y (by omega) dL_law_291 ?_
  refine lv_aload_n hx hb dL_law_292 rfl (lv_at hl 2 rfl) ?_
  refine lv_iload hx hb dL_law_293 (lv_at hl 1 rfl) ?_
  refine lv_iconst (v := nI 2) hx hb dL_law_295 (by decide) ?_
  refine bn_add hx hb dL_law_296 ?_
  refine la_rd X hX hsb hL Y (by omega) dL_law_297 ?_
  refine lv_aload_n hx hb dL_law_298 rfl (lv_at hl 2 rfl) ?_
  refine lv_iload hx hb dL_law_299 (lv_at hl 1 rfl) ?_
  refine lv_iconst (v := nI 3) hx hb dL_law_301 (by decide) ?_
  refine bn_add hx hb dL_law_302 ?_
  refine la_rd X hX hsb hL Y (by omega) dL_law_303 ?_
  refine la_M (na := 3) (av := [.int (xs (i + 1)), .int (xs (i + 2)), .int (xs (i + 3))]) (rest := []) hap X Y hCi gL_M_load (by decide +kernel) rfl ⟨rfl, rfl⟩ ⟨Nat.le_of_ble_eq_true rfl, Nat.le_of_ble_eq_true rfl⟩ hl.1 rfl (Nat.le_of_ble_eq_true rfl) dL_law_304 hf (fun H locs Y => ?_)
  refine lv_istore (lv' := [(6, .int bv), (5, .int kk), (4, .int (nI i)), (0, .ref sb), (1, .ref (a 0)), (2, .ref (bm 0)), (3, .ref ao)]) hx hb dL_law_307 hl (by decide) rfl (fun ls hl => ?_)
  refine lv_aload_n hx hb dL_law_309 rfl (lv_at hl 5 rfl) ?_
  refine la_M (na := 0) (av := []) (rest := []) hap X Y (tM_thrown l g bm hap.2.1 w') gL_M_thrown (by decide +kernel) rfl ⟨rfl, rfl⟩ ⟨Nat.le_of_ble_eq_true rfl, Nat.le_of_ble_eq_true rfl⟩ hl.1 rfl (Nat.le_of_ble_eq_true rfl) dL_law_310 hf (fun H locs Y => ?_)
  refine lv_iload hx hb dL_law_313 (lv_at hl 1 rfl) ?_
  refine lv_icmp_eq (tgt := 320) hx hb dL_law_315 (by decide) (fun _ => ?_) (fun q => absurd hTR q)
  refine lv_iload hx hb dL_law_320 (lv_at hl 1 rfl) ?_
  refine lv_if_ne (tgt := 337) hx hb dL_law_322 (by decide) (fun _ => ?_) (fun hk0 => ?_)
  · skip
    refine lv_goto (tgt := 723) hx hb dL_law_337 (by decide) ?_
    exact fin _ _ _ _ _ _ o' Y (lv_sub hl [2, 3, 4, 5, 6] rfl)
  · skip
    refine lv_aload_n hx hb dL_law_325 rfl (lv_at hl 6 rfl) ?_
    refine lv_iconst (v := nI 0) hx hb dL_law_326 (by decide) ?_
    refine la_out X Y dL_law_327 ?_
    refine lv_iload hx hb dL_law_328 (lv_at hl 0 rfl) ?_
    refine lv_i2l hx hb dL_law_330 rfl ?_
    refine W.lcmp hx hb dL_law_331 ?_
    refine lv_if_eq (tgt := 337) hx hb dL_law_332 (by decide) (fun _ => ?_) (fun q => absurd (lg_cmp_self (hzz hk0)) q)
    refine lv_goto (tgt := 723) hx hb dL_law_337 (by decide) ?_
    exact fin _ _ _ _ _ _ o' Y (lv_sub hl [2, 3, 4, 5, 6] rfl)
set_option maxHeartbeats 1000000 in
theorem tn_value : Turn 340 := by
  intro p l e S m args below meth c H locs cells slots Q ls g a ao bm h z w sb L i xs hl0 hap X hZ n1 n2 hX hsb hL hi hf o Y hl fin
  have hx := X.1
  have hb := X.2.1
  obtain ⟨kk, h', z', bv, w', hLC, hCi, hTR, hzz, o'⟩ := op_value (l := l) (g := g) (z := z) hl0 hap.1 hap.2.1 o (xs (i + 1))
  refine lv_aload_n hx hb dL_law_340 rfl (lv_at hl 2 rfl) ?_
  refine lv_aload_n hx hb dL_law_341 rfl (lv_at hl 1 rfl) ?_
  refine lv_iload hx hb dL_law_342 (lv_at hl 0 rfl) ?_
  refine lv_iconst (v := nI 1) hx hb dL_law_344 (by decide) ?_
  refine bn_add hx hb dL_law_345 ?_
  refine la_rd X hX hsb hL Y (by omega) dL_law_346 ?_
  refine lv_aload_n hx hb dL_law_347 rfl (lv_at hl 4 rfl) ?_
  refine la_L (na := 3) (rest := []) hap X hZ n1 n2 Y hLC gL_L_value (by decide +kernel) rfl ⟨rfl, rfl⟩ ⟨Nat.le_of_ble_eq_true rfl, Nat.le_of_ble_eq_true rfl⟩ hl.1 rfl (Nat.le_of_ble_eq_true rfl) dL_law_348 hf (fun H locs Y => ?_)
  refine lv_istore (lv' := [(5, .int kk), (4, .int (nI i)), (0, .ref sb), (1, .ref (a 0)), (2, .ref (bm 0)), (3, .ref ao)]) hx hb dL_law_351 hl (by decide) rfl (fun ls hl => ?_)
  refine lv_aload_n hx hb dL_law_353 rfl (lv_at hl 4 rfl) ?_
  refine lv_aload_n hx hb dL_law_354 rfl (lv_at hl 2 rfl) ?_
  refine lv_iload hx hb dL_law_355 (lv_at hl 1 rfl) ?_
  refine lv_iconst (v := nI 1) hx hb dL_law_357 (by decide) ?_
  refine bn_add hx hb dL_law_358 ?_
  refine la_rd X hX hsb hL Y (by omega) dL_law_359 ?_
  refine la_M (na := 1) (av := [.int (xs (i + 1))]) (rest := []) hap X Y hCi gL_M_value (by decide +kernel) rfl ⟨rfl, rfl⟩ ⟨Nat.le_of_ble_eq_true rfl, Nat.le_of_ble_eq_true rfl⟩ hl.1 rfl (Nat.le_of_ble_eq_true rfl) dL_law_360 hf (fun H locs Y => ?_)
  refine lv_istore (lv' := [(6, .int bv), (5, .int kk), (4, .int (nI i)), (0, .ref sb), (1, .ref (a 0)), (2, .ref (bm 0)), (3, .ref ao)]) hx hb dL_law_363 hl (by decide) rfl (fun ls hl => ?_)
  refine lv_aload_n hx hb dL_law_365 rfl (lv_at hl 5 rfl) ?_
  refine la_M (na := 0) (av := []) (rest := []) hap X Y (tM_thrown l g bm hap.2.1 w') gL_M_thrown (by decide +kernel) rfl ⟨rfl, rfl⟩ ⟨Nat.le_of_ble_eq_true rfl, Nat.le_of_ble_eq_true rfl⟩ hl.1 rfl (Nat.le_of_ble_eq_true rfl) dL_law_366 hf (fun H locs Y => ?_)
  refine lv_iload hx hb dL_law_369 (lv_at hl 1 rfl) ?_
  refine lv_icmp_eq (tgt := 376) hx hb dL_law_371 (by decide) (fun _ => ?_) (fun q => absurd hTR q)
  refine lv_iload hx hb dL_law_376 (lv_at hl 1 rfl) ?_
  refine lv_if_ne (tgt := 393) hx hb dL_law_378 (by decide) (fun _ => ?_) (fun hk0 => ?_)
  · skip
    refine lv_goto (tgt := 723) hx hb dL_law_393 (by decide) ?_
    exact fin _ _ _ _ _ _ o' Y (lv_sub hl [2, 3, 4, 5, 6] rfl)
  · skip
    refine lv_aload_n hx hb dL_law_381 rfl (lv_at hl 6 rfl) ?_
    refine lv_iconst (v := nI 0) hx hb dL_law_382 (by decide) ?_
    refine la_out X Y dL_law_383 ?_
    refine lv_iload hx hb dL_law_384 (lv_at hl 0 rfl) ?_
    refine lv_i2l hx hb dL_law_386 rfl ?_
    refine W.lcmp hx hb dL_law_387 ?_
    refine lv_if_eq (tgt := 393) hx hb dL_law_388 (by decide) (fun _ => ?_) (fun q => absurd (lg_cmp_self (hzz hk0)) q)
    refine lv_goto (tgt := 723) hx hb dL_law_393 (by decide) ?_
    exact fin _ _ _ _ _ _ o' Y (lv_sub hl [2, 3, 4, 5, 6] rfl)
set_option maxHeartbeats 1000000 in
theorem tn_copy : Turn 396 := by
  intro p l e S m args below meth c H locs cells slots Q ls g a ao bm h z w sb L i xs hl0 hap X hZ n1 n2 hX hsb hL hi hf o Y hl fin
  have hx := X.1
  have hb := X.2.1
  obtain ⟨kk, h', z', bv, w', hLC, hCi, hTR, hzz, o'⟩ := op_copy (l := l) (g := g) (z := z) hl0 hap.1 hap.2.1 o (xs (i + 1)) (xs (i + 2))
  refine lv_aload_n hx hb dL_law_396 rfl (lv_at hl 2 rfl) ?_
  refine lv_aload_n hx hb dL_law_397 rfl (lv_at hl 1 rfl) ?_
  refine lv_iload hx hb dL_law_398 (lv_at hl 0 rfl) ?_
  refine lv_iconst (v := nI 1) hx hb dL_law_400 (by decide) ?_
  refine bn_add hx hb dL_law_401 ?_
  refine la_rd X hX hsb hL Y (by omega) dL_law_402 ?_
  refine lv_aload_n hx hb dL_law_403 rfl (lv_at hl 1 rfl) ?_
  refine lv_iload hx hb dL_law_404 (lv_at hl 0 rfl) ?_
  refine lv_iconst (v := nI 2) hx hb dL_law_406 (by decide) ?_
  refine bn_add hx hb dL_law_407 ?_
  refine la_rd X hX hsb hL Y (by omega) dL_law_408 ?_
  refine lv_aload_n hx hb dL_law_409 rfl (lv_at hl 4 rfl) ?_
  refine la_L (na := 4) (rest := []) hap X hZ n1 n2 Y hLC gL_L_copy (by decide +kernel) rfl ⟨rfl, rfl⟩ ⟨Nat.le_of_ble_eq_true rfl, Nat.le_of_ble_eq_true rfl⟩ hl.1 rfl (Nat.le_of_ble_eq_true rfl) dL_law_410 hf (fun H locs Y => ?_)
  refine lv_istore (lv' := [(5, .int kk), (4, .int (nI i)), (0, .ref sb), (1, .ref (a 0)), (2, .ref (bm 0)), (3, .ref ao)]) hx hb dL_law_413 hl (by decide) rfl (fun ls hl => ?_)
  refine lv_aload_n hx hb dL_law_415 rfl (lv_at hl 4 rfl) ?_
  refine lv_aload_n hx hb dL_law_416 rfl (lv_at hl 2 rfl) ?_
  refine lv_iload hx hb dL_law_417 (lv_at hl 1 rfl) ?_
  refine lv_iconst (v := nI 1) hx hb dL_law_419 (by decide) ?_
  refine bn_add hx hb dL_law_420 ?_
  refine la_rd X hX hsb hL Y (by omega) dL_law_421 ?_
  refine lv_aload_n hx hb dL_law_422 rfl (lv_at hl 2 rfl) ?_
  refine lv_iload hx hb dL_law_423 (lv_at hl 1 rfl) ?_
  refine lv_iconst (v := nI 2) hx hb dL_law_425 (by decide) ?_
  refine bn_add hx hb dL_law_426 ?_
  refine la_rd X hX hsb hL Y (by omega) dL_law_427 ?_
  refine la_M (na := 2) (av := [.int (xs (i + 1)), .int (xs (i + 2))]) (rest := []) hap X Y hCi gL_M_copy (by decide +kernel) rfl ⟨rfl, rfl⟩ ⟨Nat.le_of_ble_eq_true rfl, Nat.le_of_ble_eq_true rfl⟩ hl.1 rfl (Nat.le_of_ble_eq_true rfl) dL_law_428 hf (fun H locs Y => ?_)
  refine lv_istore (lv' := [(6, .int bv), (5, .int kk), (4, .int (nI i)), (0, .ref sb), (1, .ref (a 0)), (2, .ref (bm 0)), (3, .ref ao)]) hx hb dL_law_431 hl (by decide) rfl (fun ls hl => ?_)
  refine lv_aload_n hx hb dL_law_433 rfl (lv_at hl 5 rfl) ?_
  refine la_M (na := 0) (av := []) (rest := []) hap X Y (tM_thrown l g bm hap.2.1 w') gL_M_thrown (by decide +kernel) rfl ⟨rfl, rfl⟩ ⟨Nat.le_of_ble_eq_true rfl, Nat.le_of_ble_eq_true rfl⟩ hl.1 rfl (Nat.le_of_ble_eq_true rfl) dL_law_434 hf (fun H locs Y => ?_)
  refine lv_iload hx hb dL_law_437 (lv_at hl 1 rfl) ?_
  refine lv_icmp_eq (tgt := 444) hx hb dL_law_439 (by decide) (fun _ => ?_) (fun q => absurd hTR q)
  refine lv_iload hx hb dL_law_444 (lv_at hl 1 rfl) ?_
  refine lv_if_ne (tgt := 461) hx hb dL_law_446 (by decide) (fun _ => ?_) (fun hk0 => ?_)
  · skip
    refine lv_goto (tgt := 723) hx hb dL_law_461 (by decide) ?_
    exact fin _ _ _ _ _ _ o' Y (lv_sub hl [2, 3, 4, 5, 6] rfl)
  · skip
    refine lv_aload_n hx hb dL_law_449 rfl (lv_at hl 6 rfl) ?_
    refine lv_iconst (v := nI 0) hx hb dL_law_450 (by decide) ?_
    refine la_out X Y dL_law_451 ?_
    refine lv_iload hx hb dL_law_452 (lv_at hl 0 rfl) ?_
    refine lv_i2l hx hb dL_law_454 rfl ?_
    refine W.lcmp hx hb dL_law_455 ?_
    refine lv_if_eq (tgt := 461) hx hb dL_law_456 (by decide) (fun _ => ?_) (fun q => absurd (lg_cmp_self (hzz hk0)) q)
    refine lv_goto (tgt := 723) hx hb dL_law_461 (by decide) ?_
    exact fin _ _ _ _ _ _ o' Y (lv_sub hl [2, 3, 4, 5, 6] rfl)
set_option maxHeartbeats 1000000 in
theorem tn_drop : Turn 464 := by
  intro p l e S m args below meth c H locs cells slots Q ls g a ao bm h z w sb L i xs hl0 hap X hZ n1 n2 hX hsb hL hi hf o Y hl fin
  have hx := X.1
  have hb := X.2.1
  obtain ⟨kk, h', z', bv, w', hLC, hCi, hTR, hzz, o'⟩ := op_drop (l := l) (g := g) (z := z) hl0 hap.1 hap.2.1 o (xs (i + 1))
  refine lv_aload_n hx hb dL_law_464 rfl (lv_at hl 2 rfl) ?_
  refine lv_aload_n hx hb dL_law_465 rfl (lv_at hl 1 rfl) ?_
  refine lv_iload hx hb dL_law_466 (lv_at hl 0 rfl) ?_
  refine lv_iconst (v := nI 1) hx hb dL_law_468 (by decide) ?_
  refine bn_add hx hb dL_law_469 ?_
  refine la_rd X hX hsb hL Y (by omega) dL_law_470 ?_
  refine lv_aload_n hx hb dL_law_471 rfl (lv_at hl 4 rfl) ?_
  refine la_L (na := 3) (rest := []) hap X hZ n1 n2 Y hLC gL_L_drop (by decide +kernel) rfl ⟨rfl, rfl⟩ ⟨Nat.le_of_ble_eq_true rfl, Nat.le_of_ble_eq_true rfl⟩ hl.1 rfl (Nat.le_of_ble_eq_true rfl) dL_law_472 hf (fun H locs Y => ?_)
  refine lv_istore (lv' := [(5, .int kk), (4, .int (nI i)), (0, .ref sb), (1, .ref (a 0)), (2, .ref (bm 0)), (3, .ref ao)]) hx hb dL_law_475 hl (by decide) rfl (fun ls hl => ?_)
  refine lv_aload_n hx hb dL_law_477 rfl (lv_at hl 4 rfl) ?_
  refine lv_aload_n hx hb dL_law_478 rfl (lv_at hl 2 rfl) ?_
  refine lv_iload hx hb dL_law_479 (lv_at hl 1 rfl) ?_
  refine lv_iconst (v := nI 1) hx hb dL_law_481 (by decide) ?_
  refine bn_add hx hb dL_law_482 ?_
  refine la_rd X hX hsb hL Y (by omega) dL_law_483 ?_
  refine la_M (na := 1) (av := [.int (xs (i + 1))]) (rest := []) hap X Y hCi gL_M_drop (by decide +kernel) rfl ⟨rfl, rfl⟩ ⟨Nat.le_of_ble_eq_true rfl, Nat.le_of_ble_eq_true rfl⟩ hl.1 rfl (Nat.le_of_ble_eq_true rfl) dL_law_484 hf (fun H locs Y => ?_)
  refine lv_istore (lv' := [(6, .int (bI bv)), (5, .int kk), (4, .int (nI i)), (0, .ref sb), (1, .ref (a 0)), (2, .ref (bm 0)), (3, .ref ao)]) hx hb dL_law_487 hl (by decide) rfl (fun ls hl => ?_)
  refine lv_aload_n hx hb dL_law_489 rfl (lv_at hl 5 rfl) ?_
  refine la_M (na := 0) (av := []) (rest := []) hap X Y (tM_thrown l g bm hap.2.1 w') gL_M_thrown (by decide +kernel) rfl ⟨rfl, rfl⟩ ⟨Nat.le_of_ble_eq_true rfl, Nat.le_of_ble_eq_true rfl⟩ hl.1 rfl (Nat.le_of_ble_eq_true rfl) dL_law_490 hf (fun H locs Y => ?_)
  refine lv_iload hx hb dL_law_493 (lv_at hl 1 rfl) ?_
  refine lv_icmp_eq (tgt := 500) hx hb dL_law_495 (by decide) (fun _ => ?_) (fun q => absurd hTR q)
  refine lv_iload hx hb dL_law_500 (lv_at hl 1 rfl) ?_
  refine lv_if_ne (tgt := 524) hx hb dL_law_502 (by decide) (fun _ => ?_) (fun hk0 => ?_)
  · skip
    refine lv_goto (tgt := 723) hx hb dL_law_524 (by decide) ?_
    exact fin _ _ _ _ _ _ o' Y (lv_sub hl [2, 3, 4, 5, 6] rfl)
  · skip
    refine lv_aload_n hx hb dL_law_505 rfl (lv_at hl 6 rfl) ?_
    refine lv_iconst (v := nI 0) hx hb dL_law_506 (by decide) ?_
    refine la_out X Y dL_law_507 ?_
    refine lv_iload hx hb dL_law_508 (lv_at hl 0 rfl) ?_
    refine bb_eq (tgt := 517) hx hb dL_law_510 (by decide) (fun hb0 => ?_) (fun hb0 => ?_)
    · subst hb0
      refine lv_lconst (v := 0) hx hb dL_law_517 (by decide) ?_
      refine W.lcmp hx hb dL_law_518 ?_
      refine lv_if_eq (tgt := 524) hx hb dL_law_519 (by decide) (fun _ => ?_) (fun q => absurd (lg_cmp_self (hzz hk0)) q)
      refine lv_goto (tgt := 723) hx hb dL_law_524 (by decide) ?_
      exact fin _ _ _ _ _ _ o' Y (lv_sub hl [2, 3, 4, 5, 6] rfl)
    · subst hb0
      refine lv_lconst (v := 1) hx hb dL_law_513 (by decide) ?_
      refine lv_goto (tgt := 518) hx hb dL_law_514 (by decide) ?_
      refine W.lcmp hx hb dL_law_518 ?_
      refine lv_if_eq (tgt := 524) hx hb dL_law_519 (by decide) (fun _ => ?_) (fun q => absurd (lg_cmp_self (hzz hk0)) q)
      refine lv_goto (tgt := 723) hx hb dL_law_524 (by decide) ?_
      exact fin _ _ _ _ _ _ o' Y (lv_sub hl [2, 3, 4, 5, 6] rfl)
set_option maxHeartbeats 1000000 in
theorem tn_budget : Turn 527 := by
  intro p l e S m args below meth c H locs cells slots Q ls g a ao bm h z w sb L i xs hl0 hap X hZ n1 n2 hX hsb hL hi hf o Y hl fin
  have hx := X.1
  have hb := X.2.1
  obtain ⟨kk, h', z', bv, w', hLC, hCi, hTR, hzz, o'⟩ := op_budget (l := l) (g := g) (z := z) hl0 hap.1 hap.2.1 o (xs (i + 1))
  refine lv_aload_n hx hb dL_law_527 rfl (lv_at hl 2 rfl) ?_
  refine lv_aload_n hx hb dL_law_528 rfl (lv_at hl 1 rfl) ?_
  refine lv_iload hx hb dL_law_529 (lv_at hl 0 rfl) ?_
  refine lv_iconst (v := nI 1) hx hb dL_law_531 (by decide) ?_
  refine bn_add hx hb dL_law_532 ?_
  refine la_rd X hX hsb hL Y (by omega) dL_law_533 ?_
  refine lv_aload_n hx hb dL_law_534 rfl (lv_at hl 4 rfl) ?_
  refine la_L (na := 3) (rest := []) hap X hZ n1 n2 Y hLC gL_L_budget (by decide +kernel) rfl ⟨rfl, rfl⟩ ⟨Nat.le_of_ble_eq_true rfl, Nat.le_of_ble_eq_true rfl⟩ hl.1 rfl (Nat.le_of_ble_eq_true rfl) dL_law_535 hf (fun H locs Y => ?_)
  refine lv_istore (lv' := [(5, .int kk), (4, .int (nI i)), (0, .ref sb), (1, .ref (a 0)), (2, .ref (bm 0)), (3, .ref ao)]) hx hb dL_law_538 hl (by decide) rfl (fun ls hl => ?_)
  refine lv_aload_n hx hb dL_law_540 rfl (lv_at hl 4 rfl) ?_
  refine lv_aload_n hx hb dL_law_541 rfl (lv_at hl 2 rfl) ?_
  refine lv_iload hx hb dL_law_542 (lv_at hl 1 rfl) ?_
  refine lv_iconst (v := nI 1) hx hb dL_law_544 (by decide) ?_
  refine bn_add hx hb dL_law_545 ?_
  refine la_rd X hX hsb hL Y (by omega) dL_law_546 ?_
  refine la_M (na := 1) (av := [.int (xs (i + 1))]) (rest := []) hap X Y hCi gL_M_budget (by decide +kernel) rfl ⟨rfl, rfl⟩ ⟨Nat.le_of_ble_eq_true rfl, Nat.le_of_ble_eq_true rfl⟩ hl.1 rfl (Nat.le_of_ble_eq_true rfl) dL_law_547 hf (fun H locs Y => ?_)
  refine lv_istore (lv' := [(6, .int bv), (5, .int kk), (4, .int (nI i)), (0, .ref sb), (1, .ref (a 0)), (2, .ref (bm 0)), (3, .ref ao)]) hx hb dL_law_550 hl (by decide) rfl (fun ls hl => ?_)
  refine lv_aload_n hx hb dL_law_552 rfl (lv_at hl 5 rfl) ?_
  refine la_M (na := 0) (av := []) (rest := []) hap X Y (tM_thrown l g bm hap.2.1 w') gL_M_thrown (by decide +kernel) rfl ⟨rfl, rfl⟩ ⟨Nat.le_of_ble_eq_true rfl, Nat.le_of_ble_eq_true rfl⟩ hl.1 rfl (Nat.le_of_ble_eq_true rfl) dL_law_553 hf (fun H locs Y => ?_)
  refine lv_iload hx hb dL_law_556 (lv_at hl 1 rfl) ?_
  refine lv_icmp_eq (tgt := 563) hx hb dL_law_558 (by decide) (fun _ => ?_) (fun q => absurd hTR q)
  refine lv_iload hx hb dL_law_563 (lv_at hl 1 rfl) ?_
  refine lv_if_ne (tgt := 580) hx hb dL_law_565 (by decide) (fun _ => ?_) (fun hk0 => ?_)
  · skip
    refine lv_goto (tgt := 723) hx hb dL_law_580 (by decide) ?_
    exact fin _ _ _ _ _ _ o' Y (lv_sub hl [2, 3, 4, 5, 6] rfl)
  · skip
    refine lv_aload_n hx hb dL_law_568 rfl (lv_at hl 6 rfl) ?_
    refine lv_iconst (v := nI 0) hx hb dL_law_569 (by decide) ?_
    refine la_out X Y dL_law_570 ?_
    refine lv_iload hx hb dL_law_571 (lv_at hl 0 rfl) ?_
    refine lv_i2l hx hb dL_law_573 rfl ?_
    refine W.lcmp hx hb dL_law_574 ?_
    refine lv_if_eq (tgt := 580) hx hb dL_law_575 (by decide) (fun _ => ?_) (fun q => absurd (lg_cmp_self (hzz hk0)) q)
    refine lv_goto (tgt := 723) hx hb dL_law_580 (by decide) ?_
    exact fin _ _ _ _ _ _ o' Y (lv_sub hl [2, 3, 4, 5, 6] rfl)
set_option maxHeartbeats 1000000 in
theorem tn_collect : Turn 583 := by
  intro p l e S m args below meth c H locs cells slots Q ls g a ao bm h z w sb L i xs hl0 hap X hZ n1 n2 hX hsb hL hi hf o Y hl fin
  have hx := X.1
  have hb := X.2.1
  obtain ⟨r, h', w', hCh, hCi, o'⟩ := op_collect (l := l) (g := g) (ao := ao) hap.1 hap.2.1 o
  refine lv_aload_n hx hb dL_law_583 rfl (lv_at hl 2 rfl) ?_
  refine la_H (na := 0) (av := []) (rest := []) hap X Y hCh gL_H_collect (by decide +kernel) rfl ⟨rfl, rfl⟩ ⟨Nat.le_of_ble_eq_true rfl, Nat.le_of_ble_eq_true rfl⟩ hl.1 rfl (Nat.le_of_ble_eq_true rfl) dL_law_584 ⟨by omega, by omega⟩ (fun H locs Y => ?_)
  refine lv_aload_n hx hb dL_law_587 rfl (lv_at hl 3 rfl) ?_
  refine la_M (na := 0) (av := []) (rest := [.int r]) hap X Y hCi gL_M_collect (by decide +kernel) rfl ⟨rfl, rfl⟩ ⟨Nat.le_of_ble_eq_true rfl, Nat.le_of_ble_eq_true rfl⟩ hl.1 rfl (Nat.le_of_ble_eq_true rfl) dL_law_588 ⟨by omega, by omega⟩ (fun H locs Y => ?_)
  refine lv_icmp_eq (tgt := 723) hx hb dL_law_591 (by decide) (fun _ => ?_) (fun q => absurd rfl q)
  refine W.widen (k := cells + 1) (n := slots + 6) (by omega) (by omega) ?_
  exact fin _ _ _ _ _ _ o' Y (lv_sub hl [0, 1, 2, 3, 4] rfl)
set_option maxHeartbeats 1000000 in
theorem tn_thorough : Turn 596 := by
  intro p l e S m args below meth c H locs cells slots Q ls g a ao bm h z w sb L i xs hl0 hap X hZ n1 n2 hX hsb hL hi hf o Y hl fin
  have hx := X.1
  have hb := X.2.1
  obtain ⟨r, h', w', hCh, hCi, o'⟩ := op_thorough (l := l) (g := g) (ao := ao) hap.1 hap.2.1 o
  refine lv_aload_n hx hb dL_law_596 rfl (lv_at hl 2 rfl) ?_
  refine la_H (na := 0) (av := []) (rest := []) hap X Y hCh gL_H_thorough (by decide +kernel) rfl ⟨rfl, rfl⟩ ⟨Nat.le_of_ble_eq_true rfl, Nat.le_of_ble_eq_true rfl⟩ hl.1 rfl (Nat.le_of_ble_eq_true rfl) dL_law_597 ⟨by omega, by omega⟩ (fun H locs Y => ?_)
  refine lv_aload_n hx hb dL_law_600 rfl (lv_at hl 3 rfl) ?_
  refine la_M (na := 0) (av := []) (rest := [.int r]) hap X Y hCi gL_M_thorough (by decide +kernel) rfl ⟨rfl, rfl⟩ ⟨Nat.le_of_ble_eq_true rfl, Nat.le_of_ble_eq_true rfl⟩ hl.1 rfl (Nat.le_of_ble_eq_true rfl) dL_law_601 ⟨by omega, by omega⟩ (fun H locs Y => ?_)
  refine lv_icmp_eq (tgt := 723) hx hb dL_law_604 (by decide) (fun _ => ?_) (fun q => absurd rfl q)
  refine W.widen (k := cells + 1) (n := slots + 6) (by omega) (by omega) ?_
  exact fin _ _ _ _ _ _ o' Y (lv_sub hl [0, 1, 2, 3, 4] rfl)
set_option maxHeartbeats 1000000 in
theorem tn_faults : Turn 609 := by
  intro p l e S m args below meth c H locs cells slots Q ls g a ao bm h z w sb L i xs hl0 hap X hZ n1 n2 hX hsb hL hi hf o Y hl fin
  have hx := X.1
  have hb := X.2.1
  obtain ⟨r, h', w', hCh, hCi, o'⟩ := op_faults (l := l) (g := g) (ao := ao) hap.1 hap.2.1 o
  refine lv_aload_n hx hb dL_law_609 rfl (lv_at hl 2 rfl) ?_
  refine la_H (na := 0) (av := []) (rest := []) hap X Y hCh gL_H_faults (by decide +kernel) rfl ⟨rfl, rfl⟩ ⟨Nat.le_of_ble_eq_true rfl, Nat.le_of_ble_eq_true rfl⟩ hl.1 rfl (Nat.le_of_ble_eq_true rfl) dL_law_610 ⟨by omega, by omega⟩ (fun H locs Y => ?_)
  refine lv_aload_n hx hb dL_law_613 rfl (lv_at hl 3 rfl) ?_
  refine la_M (na := 0) (av := []) (rest := [.int r]) hap X Y hCi gL_M_faults (by decide +kernel) rfl ⟨rfl, rfl⟩ ⟨Nat.le_of_ble_eq_true rfl, Nat.le_of_ble_eq_true rfl⟩ hl.1 rfl (Nat.le_of_ble_eq_true rfl) dL_law_614 ⟨by omega, by omega⟩ (fun H locs Y => ?_)
  refine lv_icmp_eq (tgt := 723) hx hb dL_law_617 (by decide) (fun _ => ?_) (fun q => absurd rfl q)
  refine W.widen (k := cells + 1) (n := slots + 6) (by omega) (by omega) ?_
  exact fin _ _ _ _ _ _ o' Y (lv_sub hl [0, 1, 2, 3, 4] rfl)
set_option maxHeartbeats 1000000 in
theorem tn_objects : Turn 622 := by
  intro p l e S m args below meth c H locs cells slots Q ls g a ao bm h z w sb L i xs hl0 hap X hZ n1 n2 hX hsb hL hi hf o Y hl fin
  have hx := X.1
  have hb := X.2.1
  obtain ⟨r, h', w', hCh, hCi, o'⟩ := op_objects (l := l) (g := g) (ao := ao) hap.1 hap.2.1 o
  refine lv_aload_n hx hb dL_law_622 rfl (lv_at hl 2 rfl) ?_
  refine la_H (na := 0) (av := []) (rest := []) hap X Y hCh gL_H_objects (by decide +kernel) rfl ⟨rfl, rfl⟩ ⟨Nat.le_of_ble_eq_true rfl, Nat.le_of_ble_eq_true rfl⟩ hl.1 rfl (Nat.le_of_ble_eq_true rfl) dL_law_623 ⟨by omega, by omega⟩ (fun H locs Y => ?_)
  refine lv_aload_n hx hb dL_law_626 rfl (lv_at hl 3 rfl) ?_
  refine la_M (na := 0) (av := []) (rest := [.int r]) hap X Y hCi gL_M_objects (by decide +kernel) rfl ⟨rfl, rfl⟩ ⟨Nat.le_of_ble_eq_true rfl, Nat.le_of_ble_eq_true rfl⟩ hl.1 rfl (Nat.le_of_ble_eq_true rfl) dL_law_627 ⟨by omega, by omega⟩ (fun H locs Y => ?_)
  refine lv_icmp_eq (tgt := 723) hx hb dL_law_630 (by decide) (fun _ => ?_) (fun q => absurd rfl q)
  refine W.widen (k := cells + 1) (n := slots + 6) (by omega) (by omega) ?_
  exact fin _ _ _ _ _ _ o' Y (lv_sub hl [0, 1, 2, 3, 4] rfl)
set_option maxHeartbeats 1000000 in
theorem tn_page : Turn 635 := by
  intro p l e S m args below meth c H locs cells slots Q ls g a ao bm h z w sb L i xs hl0 hap X hZ n1 n2 hX hsb hL hi hf o Y hl fin
  have hx := X.1
  have hb := X.2.1
  obtain ⟨r, h', w', hCh, hCi, o'⟩ := op_page (l := l) (g := g) (ao := ao) hap.1 hap.2.1 o (xs (i + 1))
  refine lv_aload_n hx hb dL_law_635 rfl (lv_at hl 2 rfl) ?_
  refine lv_aload_n hx hb dL_law_636 rfl (lv_at hl 1 rfl) ?_
  refine lv_iload hx hb dL_law_637 (lv_at hl 0 rfl) ?_
  refine lv_iconst (v := nI 1) hx hb dL_law_639 (by decide) ?_
  refine bn_add hx hb dL_law_640 ?_
  refine la_rd X hX hsb hL Y (by omega) dL_law_641 ?_
  refine la_H (na := 1) (av := [.int (xs (i + 1))]) (rest := []) hap X Y hCh gL_H_page (by decide +kernel) rfl ⟨rfl, rfl⟩ ⟨Nat.le_of_ble_eq_true rfl, Nat.le_of_ble_eq_true rfl⟩ hl.1 rfl (Nat.le_of_ble_eq_true rfl) dL_law_642 ⟨by omega, by omega⟩ (fun H locs Y => ?_)
  refine lv_aload_n hx hb dL_law_645 rfl (lv_at hl 3 rfl) ?_
  refine lv_aload_n hx hb dL_law_646 rfl (lv_at hl 1 rfl) ?_
  refine lv_iload hx hb dL_law_647 (lv_at hl 0 rfl) ?_
  refine lv_iconst (v := nI 1) hx hb dL_law_649 (by decide) ?_
  refine bn_add hx hb dL_law_650 ?_
  refine la_rd X hX hsb hL Y (by omega) dL_law_651 ?_
  refine la_M (na := 1) (av := [.int (xs (i + 1))]) (rest := [.int r]) hap X Y hCi gL_M_page (by decide +kernel) rfl ⟨rfl, rfl⟩ ⟨Nat.le_of_ble_eq_true rfl, Nat.le_of_ble_eq_true rfl⟩ hl.1 rfl (Nat.le_of_ble_eq_true rfl) dL_law_652 ⟨by omega, by omega⟩ (fun H locs Y => ?_)
  refine lv_icmp_eq (tgt := 723) hx hb dL_law_655 (by decide) (fun _ => ?_) (fun q => absurd rfl q)
  refine W.widen (k := cells + 1) (n := slots + 6) (by omega) (by omega) ?_
  exact fin _ _ _ _ _ _ o' Y (lv_sub hl [0, 1, 2, 3, 4] rfl)
set_option maxHeartbeats 1000000 in
theorem tn_count : Turn 660 := by
  intro p l e S m args below meth c H locs cells slots Q ls g a ao bm h z w sb L i xs hl0 hap X hZ n1 n2 hX hsb hL hi hf o Y hl fin
  have hx := X.1
  have hb := X.2.1
  obtain ⟨r, h', w', hCh, hCi, o'⟩ := op_count (l := l) (g := g) (ao := ao) hap.1 hap.2.1 o (xs (i + 1))
  refine lv_aload_n hx hb dL_law_660 rfl (lv_at hl 2 rfl) ?_
  refine lv_aload_n hx hb dL_law_661 rfl (lv_at hl 1 rfl) ?_
  refine lv_iload hx hb dL_law_662 (lv_at hl 0 rfl) ?_
  refine lv_iconst (v := nI 1) hx hb dL_law_664 (by decide) ?_
  refine bn_add hx hb dL_law_665 ?_
  refine la_rd X hX hsb hL Y (by omega) dL_law_666 ?_
  refine la_H (na := 1) (av := [.int (xs (i + 1))]) (rest := []) hap X Y hCh gL_H_count (by decide +kernel) rfl ⟨rfl, rfl⟩ ⟨Nat.le_of_ble_eq_true rfl, Nat.le_of_ble_eq_true rfl⟩ hl.1 rfl (Nat.le_of_ble_eq_true rfl) dL_law_667 ⟨by omega, by omega⟩ (fun H locs Y => ?_)
  refine lv_aload_n hx hb dL_law_670 rfl (lv_at hl 3 rfl) ?_
  refine lv_aload_n hx hb dL_law_671 rfl (lv_at hl 1 rfl) ?_
  refine lv_iload hx hb dL_law_672 (lv_at hl 0 rfl) ?_
  refine lv_iconst (v := nI 1) hx hb dL_law_674 (by decide) ?_
  refine bn_add hx hb dL_law_675 ?_
  refine la_rd X hX hsb hL Y (by omega) dL_law_676 ?_
  refine la_M (na := 1) (av := [.int (xs (i + 1))]) (rest := [.int r]) hap X Y hCi gL_M_count (by decide +kernel) rfl ⟨rfl, rfl⟩ ⟨Nat.le_of_ble_eq_true rfl, Nat.le_of_ble_eq_true rfl⟩ hl.1 rfl (Nat.le_of_ble_eq_true rfl) dL_law_677 ⟨by omega, by omega⟩ (fun H locs Y => ?_)
  refine lv_icmp_eq (tgt := 723) hx hb dL_law_680 (by decide) (fun _ => ?_) (fun q => absurd rfl q)
  refine W.widen (k := cells + 1) (n := slots + 6) (by omega) (by omega) ?_
  exact fin _ _ _ _ _ _ o' Y (lv_sub hl [0, 1, 2, 3, 4] rfl)
set_option maxHeartbeats 1000000 in
theorem tn_places : Turn 685 := by
  intro p l e S m args below meth c H locs cells slots Q ls g a ao bm h z w sb L i xs hl0 hap X hZ n1 n2 hX hsb hL hi hf o Y hl fin
  have hx := X.1
  have hb := X.2.1
  obtain ⟨r, h', w', hCh, hCi, o'⟩ := op_places (l := l) (g := g) (ao := ao) hap.1 hap.2.1 o (xs (i + 1))
  refine lv_aload_n hx hb dL_law_685 rfl (lv_at hl 2 rfl) ?_
  refine lv_aload_n hx hb dL_law_686 rfl (lv_at hl 1 rfl) ?_
  refine lv_iload hx hb dL_law_687 (lv_at hl 0 rfl) ?_
  refine lv_iconst (v := nI 1) hx hb dL_law_689 (by decide) ?_
  refine bn_add hx hb dL_law_690 ?_
  refine la_rd X hX hsb hL Y (by omega) dL_law_691 ?_
  refine la_H (na := 1) (av := [.int (xs (i + 1))]) (rest := []) hap X Y hCh gL_H_places (by decide +kernel) rfl ⟨rfl, rfl⟩ ⟨Nat.le_of_ble_eq_true rfl, Nat.le_of_ble_eq_true rfl⟩ hl.1 rfl (Nat.le_of_ble_eq_true rfl) dL_law_692 ⟨by omega, by omega⟩ (fun H locs Y => ?_)
  refine lv_aload_n hx hb dL_law_695 rfl (lv_at hl 3 rfl) ?_
  refine lv_aload_n hx hb dL_law_696 rfl (lv_at hl 1 rfl) ?_
  refine lv_iload hx hb dL_law_697 (lv_at hl 0 rfl) ?_
  refine lv_iconst (v := nI 1) hx hb dL_law_699 (by decide) ?_
  refine bn_add hx hb dL_law_700 ?_
  refine la_rd X hX hsb hL Y (by omega) dL_law_701 ?_
  refine la_M (na := 1) (av := [.int (xs (i + 1))]) (rest := [.int r]) hap X Y hCi gL_M_places (by decide +kernel) rfl ⟨rfl, rfl⟩ ⟨Nat.le_of_ble_eq_true rfl, Nat.le_of_ble_eq_true rfl⟩ hl.1 rfl (Nat.le_of_ble_eq_true rfl) dL_law_702 ⟨by omega, by omega⟩ (fun H locs Y => ?_)
  refine lv_icmp_eq (tgt := 723) hx hb dL_law_705 (by decide) (fun _ => ?_) (fun q => absurd rfl q)
  refine W.widen (k := cells + 1) (n := slots + 6) (by omega) (by omega) ?_
  exact fin _ _ _ _ _ _ o' Y (lv_sub hl [0, 1, 2, 3, 4] rfl)
set_option maxHeartbeats 1000000 in
theorem tn_hand : Turn 710 := by
  intro p l e S m args below meth c H locs cells slots Q ls g a ao bm h z w sb L i xs hl0 hap X hZ n1 n2 hX hsb hL hi hf o Y hl fin
  have hx := X.1
  have hb := X.2.1
  obtain ⟨r, h', w', hCh, hCi, o'⟩ := op_hand (l := l) (g := g) (ao := ao) hap.1 hap.2.1 o
  refine lv_aload_n hx hb dL_law_710 rfl (lv_at hl 2 rfl) ?_
  refine la_H (na := 0) (av := []) (rest := []) hap X Y hCh gL_H_hand (by decide +kernel) rfl ⟨rfl, rfl⟩ ⟨Nat.le_of_ble_eq_true rfl, Nat.le_of_ble_eq_true rfl⟩ hl.1 rfl (Nat.le_of_ble_eq_true rfl) dL_law_711 ⟨by omega, by omega⟩ (fun H locs Y => ?_)
  refine lv_aload_n hx hb dL_law_714 rfl (lv_at hl 3 rfl) ?_
  refine la_M (na := 0) (av := []) (rest := [.int r]) hap X Y hCi gL_M_hand (by decide +kernel) rfl ⟨rfl, rfl⟩ ⟨Nat.le_of_ble_eq_true rfl, Nat.le_of_ble_eq_true rfl⟩ hl.1 rfl (Nat.le_of_ble_eq_true rfl) dL_law_715 ⟨by omega, by omega⟩ (fun H locs Y => ?_)
  refine lv_icmp_eq (tgt := 723) hx hb dL_law_718 (by decide) (fun _ => ?_) (fun q => absurd rfl q)
  refine W.widen (k := cells + 1) (n := slots + 6) (by omega) (by omega) ?_
  exact fin _ _ _ _ _ _ o' Y (lv_sub hl [0, 1, 2, 3, 4] rfl)
