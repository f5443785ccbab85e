/-! written by wip/whole/specM.py -/
set_option maxHeartbeats 1000000 in
set_option maxRecDepth 100000 in
theorem tM_within (l : Launch) (g : GG) (a : Nat → Nat) (ha : apM a) (s : MS)  : Ci l g (wldM g a) (adM a) yM_within kM_within ({ frames := 1, cells := 0, slots := 0, locals := 23 }) [.ref (a 0)] s (nI (m_gone s)) (m_within s) := by
  have hD := wldM_D (g := g) ha
  refine Ci.of (own := RM) (cc := cM_within) (nL := 6) hD (by decide) rfl (Nat.le_of_ble_eq_true rfl) ?_
  intro p e S m args below meth c Q X ret H locs ls Y hl
  have hx := X.1
  have hb := X.2.1
  have hl : lv_has ls 6 [(0, .ref (a 0))] := hl
  refine lv_iconst (v := (nI (0))) hx hb dM_within_0 (by decide) ?_
  refine bn_top (y := (bI (false))) (by decide) ?_
  refine lv_istore_n (lv' := [(1, .int (bI (false))), (0, .ref (a 0))]) hx hb dM_within_1 rfl hl (by decide) rfl (fun ls hl => ?_)
  have loop2 : ∀ (n2 i2 : Nat) (σ2 : MS), i2 ≤ 32 → 32 < i2 + n2 → (fldN m_k0 s i2 = σ2) → ∀ (H : Heap) (locs : List Loc) (ls : Array Slot), Yw g (wldM g a) (adM a) S H locs σ2 → lv_has ls 6 [(0, .ref (a 0)), (1, .int (nI (i2)))] → W p l e ({ frames := 1, cells := 0, slots := 0, locals := 23 }) S m args below meth c H locs 0 0 Q (F0 m 2 ls []) := by
    intro n2
    induction n2 with
    | zero =>
      intro i2 σ2 b1 b2
      exact absurd b2 (by omega)
    | succ n2 ih2 =>
      intro i2 σ2 hi2 hn2 eσ2 H locs ls Y hl
      refine lv_iload_n hx hb dM_within_2 rfl (lv_at hl 1 rfl) ?_
      refine lv_bipush (v := (nI (32))) hx hb dM_within_3 (by decide) ?_
      refine bn_ge (tgt := 21) hx hb dM_within_5 (by decide) (by omega) (by omega) (fun h5 => ?_) (fun h5 => ?_)
      · skip
        obtain rfl : i2 = 32 := by omega
        subst eσ2
        refine lv_iconst (v := (nI (1))) hx hb dM_within_21 (by decide) ?_
        refine bn_top (y := (bI (true))) (by decide) ?_
        refine lv_istore_n (lv' := [(1, .int (bI (true))), (0, .ref (a 0))]) hx hb dM_within_22 rfl hl (by decide) rfl (fun ls hl => ?_)
        have loop23 : ∀ (n23 i23 : Nat) (b23 : Bool) (σ23 : MS), i23 ≤ 33 → 33 < i23 + n23 → (b23 = true → i23 ≤ m_kc σ23 ∧ m_fx (33 - i23) σ23 = m_wi0 s) → (b23 = false → σ23 = m_wi0 s) → ∀ (H : Heap) (locs : List Loc) (ls : Array Slot), Yw g (wldM g a) (adM a) S H locs σ23 → lv_has ls 6 [(0, .ref (a 0)), (1, .int (bI (b23)))] → W p l e ({ frames := 1, cells := 0, slots := 0, locals := 23 }) S m args below meth c H locs 0 0 Q (F0 m 23 ls []) := by
          intro n23
          induction n23 with
          | zero =>
            intro i23 b23 σ23 b1 b2
            exact absurd b2 (by omega)
          | succ n23 ih23 =>
            intro i23 b23 σ23 hi23 hn23 et23 ef23 H locs ls Y hl
            refine lv_iload_n hx hb dM_within_23 rfl (lv_at hl 1 rfl) ?_
            refine bb_eq (tgt := 93) hx hb dM_within_24 (by decide) (fun h24 => ?_) (fun h24 => ?_)
            · skip
              have E23 := ef23 h24
              rw [E23] at Y
              refine lv_iconst (v := (nI (0))) hx hb dM_within_93 (by decide) ?_
              refine lv_istore_n (lv' := [(2, .int (nI (0))), (0, .ref (a 0)), (1, .int (bI (b23)))]) hx hb dM_within_94 rfl hl (by decide) rfl (fun ls hl => ?_)
              refine lv_iconst (v := (nI (0))) hx hb dM_within_95 (by decide) ?_
              refine lv_istore_n (lv' := [(3, .int (nI (0))), (2, .int (nI (0))), (0, .ref (a 0)), (1, .int (bI (b23)))]) hx hb dM_within_96 rfl hl (by decide) rfl (fun ls hl => ?_)
              have loop97 : ∀ (n97 i97 : Nat) (k97 : Nat) (σ97 : MS), i97 ≤ 32 → 32 < i97 + n97 → (fldN m_co1 (0, m_wi0 s) i97 = (k97, σ97)) → (k97 ≤ i97) → ∀ (H : Heap) (locs : List Loc) (ls : Array Slot), Yw g (wldM g a) (adM a) S H locs σ97 → lv_has ls 6 [(0, .ref (a 0)), (1, .int (bI (b23))), (2, .int (nI (k97))), (3, .int (nI (i97)))] → W p l e ({ frames := 1, cells := 0, slots := 0, locals := 23 }) S m args below meth c H locs 0 0 Q (F0 m 97 ls []) := by
                intro n97
                induction n97 with
                | zero =>
                  intro i97 k97 σ97 b1 b2
                  exact absurd b2 (by omega)
                | succ n97 ih97 =>
                  intro i97 k97 σ97 hi97 hn97 e97 hk97 H locs ls Y hl
                  refine lv_iload_n hx hb dM_within_97 rfl (lv_at hl 3 rfl) ?_
                  refine lv_bipush (v := (nI (32))) hx hb dM_within_98 (by decide) ?_
                  refine bn_ge (tgt := 156) hx hb dM_within_100 (by decide) (by omega) (by omega) (fun h100 => ?_) (fun h100 => ?_)
                  · skip
                    obtain rfl : i97 = 32 := by omega
                    refine lv_iconst (v := (nI (0))) hx hb dM_within_156 (by decide) ?_
                    refine lv_istore_n (lv' := [(3, .int (nI (0))), (0, .ref (a 0)), (1, .int (bI (b23))), (2, .int (nI (k97)))]) hx hb dM_within_157 rfl hl (by decide) rfl (fun ls hl => ?_)
                    have loop158 : ∀ (n158 i158 : Nat) (σ158 : MS), i158 ≤ 8 → 8 < i158 + n158 → (fldN m_co2 σ97 i158 = σ158) → ∀ (H : Heap) (locs : List Loc) (ls : Array Slot), Yw g (wldM g a) (adM a) S H locs σ158 → lv_has ls 6 [(0, .ref (a 0)), (1, .int (bI (b23))), (2, .int (nI (k97))), (3, .int (nI (i158)))] → W p l e ({ frames := 1, cells := 0, slots := 0, locals := 23 }) S m args below meth c H locs 0 0 Q (F0 m 158 ls []) := by
                      intro n158
                      induction n158 with
                      | zero =>
                        intro i158 σ158 b1 b2
                        exact absurd b2 (by omega)
                      | succ n158 ih158 =>
                        intro i158 σ158 hi158 hn158 eσ158 H locs ls Y hl
                        refine lv_iload_n hx hb dM_within_158 rfl (lv_at hl 3 rfl) ?_
                        refine lv_bipush (v := (nI (8))) hx hb dM_within_159 (by decide) ?_
                        refine bn_ge (tgt := 249) hx hb dM_within_161 (by decide) (by omega) (by omega) (fun h161 => ?_) (fun h161 => ?_)
                        · skip
                          obtain rfl : i158 = 8 := by omega
                          subst eσ158
                          refine lv_iload_n hx hb dM_within_249 rfl (lv_at hl 2 rfl) ?_
                          have E : (fldN m_co2 σ97 8) = m_within s := by simp only [m_within, m_cog, e97]
                          rw [E] at Y
                          exact ret _ _ _ _ _ Y (by simp only [m_gone, m_cog, e97]) dM_within_250
                        · skip
                          refine lv_aload_n hx hb dM_within_164 rfl (lv_at hl 0 rfl) ?_
                          refine rM_ST X Y dM_within_165 ?_
                          refine lv_iload_n hx hb dM_within_168 rfl (lv_at hl 3 rfl) ?_
                          refine lM_ST X Y (k := i158) (by omega) dM_within_169 ?_
                          have hq1 := (gM_ST σ158 i158).isLt
                          refine lv_iconst (v := (nI (1))) hx hb dM_within_170 (by decide) ?_
                          refine bn_ne (tgt := 178) hx hb dM_within_171 (by decide) (by omega) (by omega) (fun h171 => ?_) (fun h171 => ?_)
                          · skip
                            refine lv_iconst (v := (nI (0))) hx hb dM_within_178 (by decide) ?_
                            refine bn_top (y := (bI (false))) (by decide) ?_
                            refine lv_istore (lv' := [(4, .int (bI (false))), (0, .ref (a 0)), (1, .int (bI (b23))), (2, .int (nI (k97))), (3, .int (nI (i158)))]) hx hb dM_within_179 hl (by decide) rfl (fun ls hl => ?_)
                            refine lv_iconst (v := (nI (4))) hx hb dM_within_181 (by decide) ?_
                            refine lv_iload_n hx hb dM_within_182 rfl (lv_at hl 4 rfl) ?_
                            refine bn_mul hx hb dM_within_183 ?_
                            refine lv_istore (lv' := [(5, .int (nI (4 * i158))), (4, .int (bI (false))), (0, .ref (a 0)), (1, .int (bI (b23))), (2, .int (nI (k97))), (3, .int (nI (i158)))]) hx hb dM_within_184 hl (by decide) rfl (fun ls hl => ?_)
                            have loop186 : ∀ (n186 i186 : Nat) (b186 : Bool), i186 ≤ 4 → 4 < i186 + n186 → ((false && !(anyN (m_bab σ158 i158) i186)) = b186) → ∀ (H : Heap) (locs : List Loc) (ls : Array Slot), Yw g (wldM g a) (adM a) S H locs σ158 → lv_has ls 6 [(0, .ref (a 0)), (1, .int (bI (b23))), (2, .int (nI (k97))), (3, .int (nI (i158))), (4, .int (bI (b186))), (5, .int (nI (4 * i158 + i186)))] → W p l e ({ frames := 1, cells := 0, slots := 0, locals := 23 }) S m args below meth c H locs 0 0 Q (F0 m 186 ls []) := by
                              intro n186
                              induction n186 with
                              | zero =>
                                intro i186 b186 b1 b2
                                exact absurd b2 (by omega)
                              | succ n186 ih186 =>
                                intro i186 b186 hi186 hn186 eb186 H locs ls Y hl
                                refine lv_iload hx hb dM_within_186 (lv_at hl 5 rfl) ?_
                                refine lv_iconst (v := (nI (4))) hx hb dM_within_188 (by decide) ?_
                                refine lv_iload_n hx hb dM_within_189 rfl (lv_at hl 3 rfl) ?_
                                refine bn_mul hx hb dM_within_190 ?_
                                refine lv_iconst (v := (nI (4))) hx hb dM_within_191 (by decide) ?_
                                refine bn_add hx hb dM_within_192 ?_
                                refine bn_ge (tgt := 224) hx hb dM_within_193 (by decide) (by omega) (by omega) (fun h193 => ?_) (fun h193 => ?_)
                                · skip
                                  obtain rfl : i186 = 4 := by omega
                                  subst eb186
                                  refine lv_iload hx hb dM_within_224 (lv_at hl 4 rfl) ?_
                                  refine bb_eq (tgt := 243) hx hb dM_within_226 (by decide) (fun h226 => ?_) (fun h226 => ?_)
                                  · skip
                                    refine lv_iinc (v := (nI (i158 + 1))) (lv' := [(3, .int (nI (i158 + 1))), (0, .ref (a 0)), (1, .int (bI (b23))), (2, .int (nI (k97))), (4, .int (bI ((false && !(anyN (m_bab σ158 i158) 4))))), (5, .int (nI (4 * i158 + 4)))]) hx hb dM_within_243 hl (k := 3) rfl (nI_1 _) (by decide) rfl (fun ls hl => ?_)
                                    refine lv_goto (tgt := 158) hx hb dM_within_246 (by decide) ?_
                                    exact ih158 (i158 + 1) σ158 (by omega) (by omega) (by show m_co2 i158 (fldN m_co2 σ97 i158) = _; rw [eσ158]; cases hb2 : anyN (m_bab σ158 i158) 4 <;> rw [hb2] at h226 <;> first | exact absurd h226 (by decide) | simp [m_co2, hb2, h5, h24, h100, h161, h171, h193, h226]) _ _ _ Y (lv_sub hl [1, 2, 3, 0] rfl)
                                  · skip
                                    refine lv_aload_n hx hb dM_within_229 rfl (lv_at hl 0 rfl) ?_
                                    refine rM_ST X Y dM_within_230 ?_
                                    refine lv_iload_n hx hb dM_within_233 rfl (lv_at hl 3 rfl) ?_
                                    refine lv_iconst (v := (nI (0))) hx hb dM_within_234 (by decide) ?_
                                    refine sM_ST X Y (k := i158) (⟨0, by omega⟩) rfl (by omega) dM_within_235 (fun H locs Y => ?_)
                                    refine lv_aload_n hx hb dM_within_236 rfl (lv_at hl 0 rfl) ?_
                                    refine rM_US X Y dM_within_237 ?_
                                    refine lv_iload_n hx hb dM_within_240 rfl (lv_at hl 3 rfl) ?_
                                    refine lv_iconst (v := (nI (0))) hx hb dM_within_241 (by decide) ?_
                                    refine sM_US X Y (k := i158) false (by decide) (by omega) dM_within_242 (fun H locs Y => ?_)
                                    refine lv_iinc (v := (nI (i158 + 1))) (lv' := [(3, .int (nI (i158 + 1))), (0, .ref (a 0)), (1, .int (bI (b23))), (2, .int (nI (k97))), (4, .int (bI ((false && !(anyN (m_bab σ158 i158) 4))))), (5, .int (nI (4 * i158 + 4)))]) hx hb dM_within_243 hl (k := 3) rfl (nI_1 _) (by decide) rfl (fun ls hl => ?_)
                                    refine lv_goto (tgt := 158) hx hb dM_within_246 (by decide) ?_
                                    exact ih158 (i158 + 1) (uM_US (uM_ST σ158 i158 (⟨0, by omega⟩)) i158 false) (by omega) (by omega) (by show m_co2 i158 (fldN m_co2 σ97 i158) = _; rw [eσ158]; cases hb2 : anyN (m_bab σ158 i158) 4 <;> rw [hb2] at h226 <;> first | exact absurd h226 (by decide) | simp [m_co2, hb2, h5, h24, h100, h161, h171, h193, h226]) _ _ _ Y (lv_sub hl [1, 2, 3, 0] rfl)
                                · skip
                                  refine lv_iload hx hb dM_within_196 (lv_at hl 4 rfl) ?_
                                  refine bb_eq (tgt := 215) hx hb dM_within_198 (by decide) (fun h198 => ?_) (fun h198 => ?_)
                                  · skip
                                    refine lv_iconst (v := (nI (0))) hx hb dM_within_215 (by decide) ?_
                                    refine bn_top (y := (bI (false))) (by decide) ?_
                                    refine lv_istore (lv' := [(4, .int (bI (false))), (0, .ref (a 0)), (1, .int (bI (b23))), (2, .int (nI (k97))), (3, .int (nI (i158))), (5, .int (nI (4 * i158 + i186)))]) hx hb dM_within_216 hl (by decide) rfl (fun ls hl => ?_)
                                    refine lv_iinc (v := (nI (4 * i158 + i186 + 1))) (lv' := [(5, .int (nI (4 * i158 + i186 + 1))), (4, .int (bI (false))), (0, .ref (a 0)), (1, .int (bI (b23))), (2, .int (nI (k97))), (3, .int (nI (i158)))]) hx hb dM_within_218 hl (k := 5) rfl (nI_1 _) (by decide) rfl (fun ls hl => ?_)
                                    refine lv_goto (tgt := 186) hx hb dM_within_221 (by decide) ?_
                                    exact ih186 (i186 + 1) false (by omega) (by omega) (by show (false && !(anyN (m_bab σ158 i158) i186 || m_bab σ158 i158 i186)) = _; rw [Bool.not_or, ← Bool.and_assoc, eb186]; simp [m_bab, h5, h24, h100, h161, h171, h193, h198]) _ _ _ Y (lv_sub hl [2, 3, 4, 5, 1, 0] rfl)
                                  · skip
                                    refine lv_aload_n hx hb dM_within_201 rfl (lv_at hl 0 rfl) ?_
                                    refine rM_TH X Y dM_within_202 ?_
                                    refine lv_iload hx hb dM_within_205 (lv_at hl 5 rfl) ?_
                                    refine lM_TH X Y (k := 4 * i158 + i186) (by omega) dM_within_207 ?_
                                    refine bb_ne (tgt := 215) hx hb dM_within_208 (by decide) (fun h208 => ?_) (fun h208 => ?_)
                                    · skip
                                      refine lv_iconst (v := (nI (0))) hx hb dM_within_215 (by decide) ?_
                                      refine bn_top (y := (bI (false))) (by decide) ?_
                                      refine lv_istore (lv' := [(4, .int (bI (false))), (0, .ref (a 0)), (1, .int (bI (b23))), (2, .int (nI (k97))), (3, .int (nI (i158))), (5, .int (nI (4 * i158 + i186)))]) hx hb dM_within_216 hl (by decide) rfl (fun ls hl => ?_)
                                      refine lv_iinc (v := (nI (4 * i158 + i186 + 1))) (lv' := [(5, .int (nI (4 * i158 + i186 + 1))), (4, .int (bI (false))), (0, .ref (a 0)), (1, .int (bI (b23))), (2, .int (nI (k97))), (3, .int (nI (i158)))]) hx hb dM_within_218 hl (k := 5) rfl (nI_1 _) (by decide) rfl (fun ls hl => ?_)
                                      refine lv_goto (tgt := 186) hx hb dM_within_221 (by decide) ?_
                                      exact ih186 (i186 + 1) false (by omega) (by omega) (by show (false && !(anyN (m_bab σ158 i158) i186 || m_bab σ158 i158 i186)) = _; rw [Bool.not_or, ← Bool.and_assoc, eb186]; simp [m_bab, h5, h24, h100, h161, h171, h193, h198, h208]) _ _ _ Y (lv_sub hl [2, 3, 4, 5, 1, 0] rfl)
                                    · skip
                                      refine lv_iconst (v := (nI (1))) hx hb dM_within_211 (by decide) ?_
                                      refine lv_goto (tgt := 216) hx hb dM_within_212 (by decide) ?_
                                      refine bn_top (y := (bI (true))) (by decide) ?_
                                      refine lv_istore (lv' := [(4, .int (bI (true))), (0, .ref (a 0)), (1, .int (bI (b23))), (2, .int (nI (k97))), (3, .int (nI (i158))), (5, .int (nI (4 * i158 + i186)))]) hx hb dM_within_216 hl (by decide) rfl (fun ls hl => ?_)
                                      refine lv_iinc (v := (nI (4 * i158 + i186 + 1))) (lv' := [(5, .int (nI (4 * i158 + i186 + 1))), (4, .int (bI (true))), (0, .ref (a 0)), (1, .int (bI (b23))), (2, .int (nI (k97))), (3, .int (nI (i158)))]) hx hb dM_within_218 hl (k := 5) rfl (nI_1 _) (by decide) rfl (fun ls hl => ?_)
                                      refine lv_goto (tgt := 186) hx hb dM_within_221 (by decide) ?_
                                      exact ih186 (i186 + 1) true (by omega) (by omega) (by show (false && !(anyN (m_bab σ158 i158) i186 || m_bab σ158 i158 i186)) = _; rw [Bool.not_or, ← Bool.and_assoc, eb186]; simp [m_bab, h5, h24, h100, h161, h171, h193, h198, h208]) _ _ _ Y (lv_sub hl [2, 3, 4, 5, 1, 0] rfl)
                            exact loop186 (4 + 1) 0 false (by omega) (by omega) (by simp [anyN]) _ _ _ Y (lv_sub hl [2, 3, 4, 5, 1, 0] rfl)
                          · skip
                            refine lv_iconst (v := (nI (1))) hx hb dM_within_174 (by decide) ?_
                            refine lv_goto (tgt := 179) hx hb dM_within_175 (by decide) ?_
                            refine bn_top (y := (bI (true))) (by decide) ?_
                            refine lv_istore (lv' := [(4, .int (bI (true))), (0, .ref (a 0)), (1, .int (bI (b23))), (2, .int (nI (k97))), (3, .int (nI (i158)))]) hx hb dM_within_179 hl (by decide) rfl (fun ls hl => ?_)
                            refine lv_iconst (v := (nI (4))) hx hb dM_within_181 (by decide) ?_
                            refine lv_iload_n hx hb dM_within_182 rfl (lv_at hl 4 rfl) ?_
                            refine bn_mul hx hb dM_within_183 ?_
                            refine lv_istore (lv' := [(5, .int (nI (4 * i158))), (4, .int (bI (true))), (0, .ref (a 0)), (1, .int (bI (b23))), (2, .int (nI (k97))), (3, .int (nI (i158)))]) hx hb dM_within_184 hl (by decide) rfl (fun ls hl => ?_)
                            have loop186 : ∀ (n186 i186 : Nat) (b186 : Bool), i186 ≤ 4 → 4 < i186 + n186 → ((true && !(anyN (m_bab σ158 i158) i186)) = b186) → ∀ (H : Heap) (locs : List Loc) (ls : Array Slot), Yw g (wldM g a) (adM a) S H locs σ158 → lv_has ls 6 [(0, .ref (a 0)), (1, .int (bI (b23))), (2, .int (nI (k97))), (3, .int (nI (i158))), (4, .int (bI (b186))), (5, .int (nI (4 * i158 + i186)))] → W p l e ({ frames := 1, cells := 0, slots := 0, locals := 23 }) S m args below meth c H locs 0 0 Q (F0 m 186 ls []) := by
                              intro n186
                              induction n186 with
                              | zero =>
                                intro i186 b186 b1 b2
                                exact absurd b2 (by omega)
                              | succ n186 ih186 =>
                                intro i186 b186 hi186 hn186 eb186 H locs ls Y hl
                                refine lv_iload hx hb dM_within_186 (lv_at hl 5 rfl) ?_
                                refine lv_iconst (v := (nI (4))) hx hb dM_within_188 (by decide) ?_
                                refine lv_iload_n hx hb dM_within_189 rfl (lv_at hl 3 rfl) ?_
                                refine bn_mul hx hb dM_within_190 ?_
                                refine lv_iconst (v := (nI (4))) hx hb dM_within_191 (by decide) ?_
                                refine bn_add hx hb dM_within_192 ?_
                                refine bn_ge (tgt := 224) hx hb dM_within_193 (by decide) (by omega) (by omega) (fun h193 => ?_) (fun h193 => ?_)
                                · skip
                                  obtain rfl : i186 = 4 := by omega
                                  subst eb186
                                  refine lv_iload hx hb dM_within_224 (lv_at hl 4 rfl) ?_
                                  refine bb_eq (tgt := 243) hx hb dM_within_226 (by decide) (fun h226 => ?_) (fun h226 => ?_)
                                  · skip
                                    refine lv_iinc (v := (nI (i158 + 1))) (lv' := [(3, .int (nI (i158 + 1))), (0, .ref (a 0)), (1, .int (bI (b23))), (2, .int (nI (k97))), (4, .int (bI ((true && !(anyN (m_bab σ158 i158) 4))))), (5, .int (nI (4 * i158 + 4)))]) hx hb dM_within_243 hl (k := 3) rfl (nI_1 _) (by decide) rfl (fun ls hl => ?_)
                                    refine lv_goto (tgt := 158) hx hb dM_within_246 (by decide) ?_
                                    exact ih158 (i158 + 1) σ158 (by omega) (by omega) (by show m_co2 i158 (fldN m_co2 σ97 i158) = _; rw [eσ158]; cases hb2 : anyN (m_bab σ158 i158) 4 <;> rw [hb2] at h226 <;> first | exact absurd h226 (by decide) | simp [m_co2, hb2, h5, h24, h100, h161, h171, h193, h226]) _ _ _ Y (lv_sub hl [1, 2, 3, 0] rfl)
                                  · skip
                                    refine lv_aload_n hx hb dM_within_229 rfl (lv_at hl 0 rfl) ?_
                                    refine rM_ST X Y dM_within_230 ?_
                                    refine lv_iload_n hx hb dM_within_233 rfl (lv_at hl 3 rfl) ?_
                                    refine lv_iconst (v := (nI (0))) hx hb dM_within_234 (by decide) ?_
                                    refine sM_ST X Y (k := i158) (⟨0, by omega⟩) rfl (by omega) dM_within_235 (fun H locs Y => ?_)
                                    refine lv_aload_n hx hb dM_within_236 rfl (lv_at hl 0 rfl) ?_
                                    refine rM_US X Y dM_within_237 ?_
                                    refine lv_iload_n hx hb dM_within_240 rfl (lv_at hl 3 rfl) ?_
                                    refine lv_iconst (v := (nI (0))) hx hb dM_within_241 (by decide) ?_
                                    refine sM_US X Y (k := i158) false (by decide) (by omega) dM_within_242 (fun H locs Y => ?_)
                                    refine lv_iinc (v := (nI (i158 + 1))) (lv' := [(3, .int (nI (i158 + 1))), (0, .ref (a 0)), (1, .int (bI (b23))), (2, .int (nI (k97))), (4, .int (bI ((true && !(anyN (m_bab σ158 i158) 4))))), (5, .int (nI (4 * i158 + 4)))]) hx hb dM_within_243 hl (k := 3) rfl (nI_1 _) (by decide) rfl (fun ls hl => ?_)
                                    refine lv_goto (tgt := 158) hx hb dM_within_246 (by decide) ?_
                                    exact ih158 (i158 + 1) (uM_US (uM_ST σ158 i158 (⟨0, by omega⟩)) i158 false) (by omega) (by omega) (by show m_co2 i158 (fldN m_co2 σ97 i158) = _; rw [eσ158]; cases hb2 : anyN (m_bab σ158 i158) 4 <;> rw [hb2] at h226 <;> first | exact absurd h226 (by decide) | simp [m_co2, hb2, h5, h24, h100, h161, h171, h193, h226]) _ _ _ Y (lv_sub hl [1, 2, 3, 0] rfl)
                                · skip
                                  refine lv_iload hx hb dM_within_196 (lv_at hl 4 rfl) ?_
                                  refine bb_eq (tgt := 215) hx hb dM_within_198 (by decide) (fun h198 => ?_) (fun h198 => ?_)
                                  · skip
                                    refine lv_iconst (v := (nI (0))) hx hb dM_within_215 (by decide) ?_
                                    refine bn_top (y := (bI (false))) (by decide) ?_
                                    refine lv_istore (lv' := [(4, .int (bI (false))), (0, .ref (a 0)), (1, .int (bI (b23))), (2, .int (nI (k97))), (3, .int (nI (i158))), (5, .int (nI (4 * i158 + i186)))]) hx hb dM_within_216 hl (by decide) rfl (fun ls hl => ?_)
                                    refine lv_iinc (v := (nI (4 * i158 + i186 + 1))) (lv' := [(5, .int (nI (4 * i158 + i186 + 1))), (4, .int (bI (false))), (0, .ref (a 0)), (1, .int (bI (b23))), (2, .int (nI (k97))), (3, .int (nI (i158)))]) hx hb dM_within_218 hl (k := 5) rfl (nI_1 _) (by decide) rfl (fun ls hl => ?_)
                                    refine lv_goto (tgt := 186) hx hb dM_within_221 (by decide) ?_
                                    exact ih186 (i186 + 1) false (by omega) (by omega) (by show (true && !(anyN (m_bab σ158 i158) i186 || m_bab σ158 i158 i186)) = _; rw [Bool.not_or, ← Bool.and_assoc, eb186]; simp [m_bab, h5, h24, h100, h161, h171, h193, h198]) _ _ _ Y (lv_sub hl [2, 3, 4, 5, 1, 0] rfl)
                                  · skip
                                    refine lv_aload_n hx hb dM_within_201 rfl (lv_at hl 0 rfl) ?_
                                    refine rM_TH X Y dM_within_202 ?_
                                    refine lv_iload hx hb dM_within_205 (lv_at hl 5 rfl) ?_
                                    refine lM_TH X Y (k := 4 * i158 + i186) (by omega) dM_within_207 ?_
                                    refine bb_ne (tgt := 215) hx hb dM_within_208 (by decide) (fun h208 => ?_) (fun h208 => ?_)
                                    · skip
                                      refine lv_iconst (v := (nI (0))) hx hb dM_within_215 (by decide) ?_
                                      refine bn_top (y := (bI (false))) (by decide) ?_
                                      refine lv_istore (lv' := [(4, .int (bI (false))), (0, .ref (a 0)), (1, .int (bI (b23))), (2, .int (nI (k97))), (3, .int (nI (i158))), (5, .int (nI (4 * i158 + i186)))]) hx hb dM_within_216 hl (by decide) rfl (fun ls hl => ?_)
                                      refine lv_iinc (v := (nI (4 * i158 + i186 + 1))) (lv' := [(5, .int (nI (4 * i158 + i186 + 1))), (4, .int (bI (false))), (0, .ref (a 0)), (1, .int (bI (b23))), (2, .int (nI (k97))), (3, .int (nI (i158)))]) hx hb dM_within_218 hl (k := 5) rfl (nI_1 _) (by decide) rfl (fun ls hl => ?_)
                                      refine lv_goto (tgt := 186) hx hb dM_within_221 (by decide) ?_
                                      exact ih186 (i186 + 1) false (by omega) (by omega) (by show (true && !(anyN (m_bab σ158 i158) i186 || m_bab σ158 i158 i186)) = _; rw [Bool.not_or, ← Bool.and_assoc, eb186]; simp [m_bab, h5, h24, h100, h161, h171, h193, h198, h208]) _ _ _ Y (lv_sub hl [2, 3, 4, 5, 1, 0] rfl)
                                    · skip
                                      refine lv_iconst (v := (nI (1))) hx hb dM_within_211 (by decide) ?_
                                      refine lv_goto (tgt := 216) hx hb dM_within_212 (by decide) ?_
                                      refine bn_top (y := (bI (true))) (by decide) ?_
                                      refine lv_istore (lv' := [(4, .int (bI (true))), (0, .ref (a 0)), (1, .int (bI (b23))), (2, .int (nI (k97))), (3, .int (nI (i158))), (5, .int (nI (4 * i158 + i186)))]) hx hb dM_within_216 hl (by decide) rfl (fun ls hl => ?_)
                                      refine lv_iinc (v := (nI (4 * i158 + i186 + 1))) (lv' := [(5, .int (nI (4 * i158 + i186 + 1))), (4, .int (bI (true))), (0, .ref (a 0)), (1, .int (bI (b23))), (2, .int (nI (k97))), (3, .int (nI (i158)))]) hx hb dM_within_218 hl (k := 5) rfl (nI_1 _) (by decide) rfl (fun ls hl => ?_)
                                      refine lv_goto (tgt := 186) hx hb dM_within_221 (by decide) ?_
                                      exact ih186 (i186 + 1) true (by omega) (by omega) (by show (true && !(anyN (m_bab σ158 i158) i186 || m_bab σ158 i158 i186)) = _; rw [Bool.not_or, ← Bool.and_assoc, eb186]; simp [m_bab, h5, h24, h100, h161, h171, h193, h198, h208]) _ _ _ Y (lv_sub hl [2, 3, 4, 5, 1, 0] rfl)
                            exact loop186 (4 + 1) 0 true (by omega) (by omega) (by simp [anyN]) _ _ _ Y (lv_sub hl [2, 3, 4, 5, 1, 0] rfl)
                    exact loop158 (8 + 1) 0 σ97 (by omega) (by omega) (fldN_zero) _ _ _ Y (lv_sub hl [1, 2, 3, 0] rfl)
                  · skip
                    refine lv_aload_n hx hb dM_within_103 rfl (lv_at hl 0 rfl) ?_
                    refine rM_TH X Y dM_within_104 ?_
                    refine lv_iload_n hx hb dM_within_107 rfl (lv_at hl 3 rfl) ?_
                    refine lM_TH X Y (k := i97) (by omega) dM_within_108 ?_
                    refine bb_eq (tgt := 150) hx hb dM_within_109 (by decide) (fun h109 => ?_) (fun h109 => ?_)
                    · skip
                      refine lv_iinc (v := (nI (i97 + 1))) (lv' := [(3, .int (nI (i97 + 1))), (0, .ref (a 0)), (1, .int (bI (b23))), (2, .int (nI (k97)))]) hx hb dM_within_150 hl (k := 3) rfl (nI_1 _) (by decide) rfl (fun ls hl => ?_)
                      refine lv_goto (tgt := 97) hx hb dM_within_153 (by decide) ?_
                      exact ih97 (i97 + 1) k97 σ97 (by omega) (by omega) (by show m_co1 i97 (fldN m_co1 (0, m_wi0 s) i97) = _; rw [e97]; simp [m_co1, m_gob, h5, h24, h100, h109]) (by omega) _ _ _ Y (lv_sub hl [1, 2, 3, 0] rfl)
                    · skip
                      refine lv_aload_n hx hb dM_within_112 rfl (lv_at hl 0 rfl) ?_
                      refine rM_ST X Y dM_within_113 ?_
                      refine lv_iload_n hx hb dM_within_116 rfl (lv_at hl 3 rfl) ?_
                      refine lv_iconst (v := (nI (4))) hx hb dM_within_117 (by decide) ?_
                      refine bn_div hx hb dM_within_118 (by omega) (by omega) (by omega) ?_
                      refine lM_ST X Y (k := i97 / 4) (by omega) dM_within_119 ?_
                      have hq2 := (gM_ST σ97 (i97 / 4)).isLt
                      refine lv_iconst (v := (nI (1))) hx hb dM_within_120 (by decide) ?_
                      refine bn_ne (tgt := 150) hx hb dM_within_121 (by decide) (by omega) (by omega) (fun h121 => ?_) (fun h121 => ?_)
                      · skip
                        refine lv_iinc (v := (nI (i97 + 1))) (lv' := [(3, .int (nI (i97 + 1))), (0, .ref (a 0)), (1, .int (bI (b23))), (2, .int (nI (k97)))]) hx hb dM_within_150 hl (k := 3) rfl (nI_1 _) (by decide) rfl (fun ls hl => ?_)
                        refine lv_goto (tgt := 97) hx hb dM_within_153 (by decide) ?_
                        exact ih97 (i97 + 1) k97 σ97 (by omega) (by omega) (by show m_co1 i97 (fldN m_co1 (0, m_wi0 s) i97) = _; rw [e97]; simp [m_co1, m_gob, h5, h24, h100, h109, h121]) (by omega) _ _ _ Y (lv_sub hl [1, 2, 3, 0] rfl)
                      · skip
                        refine lv_aload_n hx hb dM_within_124 rfl (lv_at hl 0 rfl) ?_
                        refine rM_KP X Y dM_within_125 ?_
                        refine lv_iload_n hx hb dM_within_128 rfl (lv_at hl 3 rfl) ?_
                        refine lM_KP X Y (k := i97) (by omega) dM_within_129 ?_
                        refine bb_ne (tgt := 150) hx hb dM_within_130 (by decide) (fun h130 => ?_) (fun h130 => ?_)
                        · skip
                          refine lv_iinc (v := (nI (i97 + 1))) (lv' := [(3, .int (nI (i97 + 1))), (0, .ref (a 0)), (1, .int (bI (b23))), (2, .int (nI (k97)))]) hx hb dM_within_150 hl (k := 3) rfl (nI_1 _) (by decide) rfl (fun ls hl => ?_)
                          refine lv_goto (tgt := 97) hx hb dM_within_153 (by decide) ?_
                          exact ih97 (i97 + 1) k97 σ97 (by omega) (by omega) (by show m_co1 i97 (fldN m_co1 (0, m_wi0 s) i97) = _; rw [e97]; simp [m_co1, m_gob, h5, h24, h100, h109, h121, h130]) (by omega) _ _ _ Y (lv_sub hl [1, 2, 3, 0] rfl)
                        · skip
                          refine lv_aload_n hx hb dM_within_133 rfl (lv_at hl 0 rfl) ?_
                          refine rM_TH X Y dM_within_134 ?_
                          refine lv_iload_n hx hb dM_within_137 rfl (lv_at hl 3 rfl) ?_
                          refine lv_iconst (v := (nI (0))) hx hb dM_within_138 (by decide) ?_
                          refine sM_TH X Y (k := i97) false (by decide) (by omega) dM_within_139 (fun H locs Y => ?_)
                          refine lv_aload_n hx hb dM_within_140 rfl (lv_at hl 0 rfl) ?_
                          refine rM_MK X Y dM_within_141 ?_
                          refine lv_iload_n hx hb dM_within_144 rfl (lv_at hl 3 rfl) ?_
                          refine lv_iconst (v := (nI (0))) hx hb dM_within_145 (by decide) ?_
                          refine sM_MK X Y (k := i97) false (by decide) (by omega) dM_within_146 (fun H locs Y => ?_)
                          refine lv_iinc (v := (nI (k97 + 1))) (lv' := [(2, .int (nI (k97 + 1))), (0, .ref (a 0)), (1, .int (bI (b23))), (3, .int (nI (i97)))]) hx hb dM_within_147 hl (k := 2) rfl (nI_1 _) (by decide) rfl (fun ls hl => ?_)
                          refine lv_iinc (v := (nI (i97 + 1))) (lv' := [(3, .int (nI (i97 + 1))), (2, .int (nI (k97 + 1))), (0, .ref (a 0)), (1, .int (bI (b23)))]) hx hb dM_within_150 hl (k := 3) rfl (nI_1 _) (by decide) rfl (fun ls hl => ?_)
                          refine lv_goto (tgt := 97) hx hb dM_within_153 (by decide) ?_
                          exact ih97 (i97 + 1) (k97 + 1) (uM_MK (uM_TH σ97 i97 false) i97 false) (by omega) (by omega) (by show m_co1 i97 (fldN m_co1 (0, m_wi0 s) i97) = _; rw [e97]; simp [m_co1, m_gob, h5, h24, h100, h109, h121, h130]) (by omega) _ _ _ Y (lv_sub hl [2, 3, 1, 0] rfl)
              exact loop97 (32 + 1) 0 0 ((m_wi0 s)) (by omega) (by omega) (rfl) (Nat.le_refl 0) _ _ _ Y (lv_sub hl [2, 3, 1, 0] rfl)
            · skip
              obtain ⟨ht1, ht2⟩ := et23 h24
              refine lv_iconst (v := (nI (0))) hx hb dM_within_27 (by decide) ?_
              refine bn_top (y := (bI (false))) (by decide) ?_
              refine lv_istore_n (lv' := [(1, .int (bI (false))), (0, .ref (a 0))]) hx hb dM_within_28 rfl hl (by decide) rfl (fun ls hl => ?_)
              refine lv_iconst (v := (nI (0))) hx hb dM_within_29 (by decide) ?_
              refine lv_istore_n (lv' := [(2, .int (nI (0))), (1, .int (bI (false))), (0, .ref (a 0))]) hx hb dM_within_30 rfl hl (by decide) rfl (fun ls hl => ?_)
              have loop31 : ∀ (n31 i31 : Nat) (b31 : Bool) (σ31 : MS), i31 ≤ 32 → 32 < i31 + n31 → (fldN m_sw (false, σ23) i31 = (b31, σ31)) → ∀ (H : Heap) (locs : List Loc) (ls : Array Slot), Yw g (wldM g a) (adM a) S H locs σ31 → lv_has ls 6 [(0, .ref (a 0)), (1, .int (bI (b31))), (2, .int (nI (i31)))] → W p l e ({ frames := 1, cells := 0, slots := 0, locals := 23 }) S m args below meth c H locs 0 0 Q (F0 m 31 ls []) := by
                intro n31
                induction n31 with
                | zero =>
                  intro i31 b31 σ31 b1 b2
                  exact absurd b2 (by omega)
                | succ n31 ih31 =>
                  intro i31 b31 σ31 hi31 hn31 e31 H locs ls Y hl
                  refine lv_iload_n hx hb dM_within_31 rfl (lv_at hl 2 rfl) ?_
                  refine lv_bipush (v := (nI (32))) hx hb dM_within_32 (by decide) ?_
                  refine bn_ge (tgt := 90) hx hb dM_within_34 (by decide) (by omega) (by omega) (fun h34 => ?_) (fun h34 => ?_)
                  · skip
                    obtain rfl : i31 = 32 := by omega
                    have hkc := m_kc_le σ23
                    have ht : i23 ≤ m_kc σ23 ∧ m_fx (33 - i23) σ23 = m_wi0 s := ⟨ht1, ht2⟩
                    refine lv_goto (tgt := 23) hx hb dM_within_90 (by decide) ?_
                    exact ih23 (i23 + 1) b31 σ31 (by omega) (by omega) (m_fx_t ht e31) (m_fx_f ht e31) _ _ _ Y (lv_sub hl [0, 1] rfl)
                  · skip
                    refine lv_aload_n hx hb dM_within_37 rfl (lv_at hl 0 rfl) ?_
                    refine rM_KP X Y dM_within_38 ?_
                    refine lv_iload_n hx hb dM_within_41 rfl (lv_at hl 2 rfl) ?_
                    refine lM_KP X Y (k := i31) (by omega) dM_within_42 ?_
                    refine bb_ne (tgt := 84) hx hb dM_within_43 (by decide) (fun h43 => ?_) (fun h43 => ?_)
                    · skip
                      refine lv_iinc (v := (nI (i31 + 1))) (lv' := [(2, .int (nI (i31 + 1))), (0, .ref (a 0)), (1, .int (bI (b31)))]) hx hb dM_within_84 hl (k := 2) rfl (nI_1 _) (by decide) rfl (fun ls hl => ?_)
                      refine lv_goto (tgt := 31) hx hb dM_within_87 (by decide) ?_
                      exact ih31 (i31 + 1) b31 σ31 (by omega) (by omega) (by show m_sw i31 (fldN m_sw (false, σ23) i31) = _; rw [e31]; simp [m_sw, m_swb, h5, h24, h34, h43]) _ _ _ Y (lv_sub hl [1, 2, 0] rfl)
                    · skip
                      refine lv_aload_n hx hb dM_within_46 rfl (lv_at hl 0 rfl) ?_
                      refine rM_TH X Y dM_within_47 ?_
                      refine lv_iload_n hx hb dM_within_50 rfl (lv_at hl 2 rfl) ?_
                      refine lM_TH X Y (k := i31) (by omega) dM_within_51 ?_
                      refine bb_eq (tgt := 84) hx hb dM_within_52 (by decide) (fun h52 => ?_) (fun h52 => ?_)
                      · skip
                        refine lv_iinc (v := (nI (i31 + 1))) (lv' := [(2, .int (nI (i31 + 1))), (0, .ref (a 0)), (1, .int (bI (b31)))]) hx hb dM_within_84 hl (k := 2) rfl (nI_1 _) (by decide) rfl (fun ls hl => ?_)
                        refine lv_goto (tgt := 31) hx hb dM_within_87 (by decide) ?_
                        exact ih31 (i31 + 1) b31 σ31 (by omega) (by omega) (by show m_sw i31 (fldN m_sw (false, σ23) i31) = _; rw [e31]; simp [m_sw, m_swb, h5, h24, h34, h43, h52]) _ _ _ Y (lv_sub hl [1, 2, 0] rfl)
                      · skip
                        refine lv_aload_n hx hb dM_within_55 rfl (lv_at hl 0 rfl) ?_
                        refine rM_ST X Y dM_within_56 ?_
                        refine lv_iload_n hx hb dM_within_59 rfl (lv_at hl 2 rfl) ?_
                        refine lv_iconst (v := (nI (4))) hx hb dM_within_60 (by decide) ?_
                        refine bn_div hx hb dM_within_61 (by omega) (by omega) (by omega) ?_
                        refine lM_ST X Y (k := i31 / 4) (by omega) dM_within_62 ?_
                        have hq3 := (gM_ST σ31 (i31 / 4)).isLt
                        refine lv_iconst (v := (nI (1))) hx hb dM_within_63 (by decide) ?_
                        refine bn_ne (tgt := 84) hx hb dM_within_64 (by decide) (by omega) (by omega) (fun h64 => ?_) (fun h64 => ?_)
                        · skip
                          refine lv_iinc (v := (nI (i31 + 1))) (lv' := [(2, .int (nI (i31 + 1))), (0, .ref (a 0)), (1, .int (bI (b31)))]) hx hb dM_within_84 hl (k := 2) rfl (nI_1 _) (by decide) rfl (fun ls hl => ?_)
                          refine lv_goto (tgt := 31) hx hb dM_within_87 (by decide) ?_
                          exact ih31 (i31 + 1) b31 σ31 (by omega) (by omega) (by show m_sw i31 (fldN m_sw (false, σ23) i31) = _; rw [e31]; simp [m_sw, m_swb, h5, h24, h34, h43, h52, h64]) _ _ _ Y (lv_sub hl [1, 2, 0] rfl)
                        · skip
                          refine lv_aload_n hx hb dM_within_67 rfl (lv_at hl 0 rfl) ?_
                          refine lv_iload_n hx hb dM_within_68 rfl (lv_at hl 2 rfl) ?_
                          refine cl_vi (na := 1) (rest := []) X hD Y (tM_held l g a ha σ31 i31 (by omega)) gM_M_held (by decide +kernel) rfl rfl rfl ⟨rfl, rfl⟩ ⟨Nat.le_of_ble_eq_true rfl, Nat.le_of_ble_eq_true rfl⟩ ⟨Nat.zero_le _, Nat.zero_le _⟩ hl.1 rfl (Nat.le_of_ble_eq_true rfl) dM_within_69 (fun H locs Y => ?_)
                          refine bb_eq (tgt := 84) hx hb dM_within_72 (by decide) (fun h72 => ?_) (fun h72 => ?_)
                          · skip
                            refine lv_iinc (v := (nI (i31 + 1))) (lv' := [(2, .int (nI (i31 + 1))), (0, .ref (a 0)), (1, .int (bI (b31)))]) hx hb dM_within_84 hl (k := 2) rfl (nI_1 _) (by decide) rfl (fun ls hl => ?_)
                            refine lv_goto (tgt := 31) hx hb dM_within_87 (by decide) ?_
                            exact ih31 (i31 + 1) b31 σ31 (by omega) (by omega) (by show m_sw i31 (fldN m_sw (false, σ23) i31) = _; rw [e31]; simp [m_sw, m_swb, h5, h24, h34, h43, h52, h64, h72]) _ _ _ Y (lv_sub hl [1, 2, 0] rfl)
                          · skip
                            refine lv_aload_n hx hb dM_within_75 rfl (lv_at hl 0 rfl) ?_
                            refine rM_KP X Y dM_within_76 ?_
                            refine lv_iload_n hx hb dM_within_79 rfl (lv_at hl 2 rfl) ?_
                            refine lv_iconst (v := (nI (1))) hx hb dM_within_80 (by decide) ?_
                            refine sM_KP X Y (k := i31) true (by decide) (by omega) dM_within_81 (fun H locs Y => ?_)
                            refine lv_iconst (v := (nI (1))) hx hb dM_within_82 (by decide) ?_
                            refine bn_top (y := (bI (true))) (by decide) ?_
                            refine lv_istore_n (lv' := [(1, .int (bI (true))), (0, .ref (a 0)), (2, .int (nI (i31)))]) hx hb dM_within_83 rfl hl (by decide) rfl (fun ls hl => ?_)
                            refine lv_iinc (v := (nI (i31 + 1))) (lv' := [(2, .int (nI (i31 + 1))), (1, .int (bI (true))), (0, .ref (a 0))]) hx hb dM_within_84 hl (k := 2) rfl (nI_1 _) (by decide) rfl (fun ls hl => ?_)
                            refine lv_goto (tgt := 31) hx hb dM_within_87 (by decide) ?_
                            exact ih31 (i31 + 1) true (uM_KP σ31 i31 true) (by omega) (by omega) (by show m_sw i31 (fldN m_sw (false, σ23) i31) = _; rw [e31]; simp [m_sw, m_swb, h5, h24, h34, h43, h52, h64, h72]) _ _ _ Y (lv_sub hl [2, 1, 0] rfl)
              exact loop31 (32 + 1) 0 false σ23 (by omega) (by omega) (rfl) _ _ _ Y (lv_sub hl [2, 1, 0] rfl)
        exact loop23 (33 + 1) 0 true (((fldN m_k0 s 32))) (by omega) (by omega) (fun _ => ⟨Nat.zero_le _, rfl⟩) (fun h => by cases h) _ _ _ Y (lv_sub hl [1, 0] rfl)
      · skip
        refine lv_aload_n hx hb dM_within_8 rfl (lv_at hl 0 rfl) ?_
        refine rM_KP X Y dM_within_9 ?_
        refine lv_iload_n hx hb dM_within_12 rfl (lv_at hl 1 rfl) ?_
        refine lv_iconst (v := (nI (0))) hx hb dM_within_13 (by decide) ?_
        refine sM_KP X Y (k := i2) false (by decide) (by omega) dM_within_14 (fun H locs Y => ?_)
        refine lv_iinc (v := (nI (i2 + 1))) (lv' := [(1, .int (nI (i2 + 1))), (0, .ref (a 0))]) hx hb dM_within_15 hl (k := 1) rfl (nI_1 _) (by decide) rfl (fun ls hl => ?_)
        refine lv_goto (tgt := 2) hx hb dM_within_18 (by decide) ?_
        exact ih2 (i2 + 1) (uM_KP σ2 i2 false) (by omega) (by omega) (by show m_k0 i2 (fldN m_k0 s i2) = _; rw [eσ2]; simp [m_k0, h5]) _ _ _ Y (lv_sub hl [1, 0] rfl)
  exact loop2 (32 + 1) 0 s (by omega) (by omega) (fldN_zero) _ _ _ Y (lv_sub hl [1, 0] rfl)
set_option maxHeartbeats 1000000 in
set_option maxRecDepth 100000 in
theorem tM_all (l : Launch) (g : GG) (a : Nat → Nat) (ha : apM a) (s : MS)  : Ci l g (wldM g a) (adM a) yM_all kM_all ({ frames := 2, cells := 0, slots := 0, locals := 48 }) [.ref (a 0)] s (nI (m_gone (m_all0 s))) (m_all s) := by
  have hD := wldM_D (g := g) ha
  refine Ci.of (own := RM) (cc := cM_all) (nL := 2) hD (by decide) rfl (Nat.le_of_ble_eq_true rfl) ?_
  intro p e S m args below meth c Q X ret H locs ls Y hl
  have hx := X.1
  have hb := X.2.1
  have hl : lv_has ls 2 [(0, .ref (a 0))] := hl
  refine lv_iconst (v := (nI (0))) hx hb dM_all_0 (by decide) ?_
  refine lv_istore_n (lv' := [(1, .int (nI (0))), (0, .ref (a 0))]) hx hb dM_all_1 rfl hl (by decide) rfl (fun ls hl => ?_)
  have loop2 : ∀ (n2 i2 : Nat) (σ2 : MS), i2 ≤ 8 → 8 < i2 + n2 → (fldN m_al1 s i2 = σ2) → ∀ (H : Heap) (locs : List Loc) (ls : Array Slot), Yw g (wldM g a) (adM a) S H locs σ2 → lv_has ls 2 [(0, .ref (a 0)), (1, .int (nI (i2)))] → W p l e ({ frames := 2, cells := 0, slots := 0, locals := 48 }) S m args below meth c H locs 0 0 Q (F0 m 2 ls []) := by
    intro n2
    induction n2 with
    | zero =>
      intro i2 σ2 b1 b2
      exact absurd b2 (by omega)
    | succ n2 ih2 =>
      intro i2 σ2 hi2 hn2 eσ2 H locs ls Y hl
      refine lv_iload_n hx hb dM_all_2 rfl (lv_at hl 1 rfl) ?_
      refine lv_bipush (v := (nI (8))) hx hb dM_all_3 (by decide) ?_
      refine bn_ge (tgt := 41) hx hb dM_all_5 (by decide) (by omega) (by omega) (fun h5 => ?_) (fun h5 => ?_)
      · skip
        obtain rfl : i2 = 8 := by omega
        subst eσ2
        refine lv_iconst (v := (nI (0))) hx hb dM_all_41 (by decide) ?_
        refine lv_istore_n (lv' := [(1, .int (nI (0))), (0, .ref (a 0))]) hx hb dM_all_42 rfl hl (by decide) rfl (fun ls hl => ?_)
        have loop43 : ∀ (n43 i43 : Nat) (σ43 : MS), i43 ≤ 32 → 32 < i43 + n43 → (fldN m_al2 ((fldN m_al1 s 8)) i43 = σ43) → ∀ (H : Heap) (locs : List Loc) (ls : Array Slot), Yw g (wldM g a) (adM a) S H locs σ43 → lv_has ls 2 [(0, .ref (a 0)), (1, .int (nI (i43)))] → W p l e ({ frames := 2, cells := 0, slots := 0, locals := 48 }) S m args below meth c H locs 0 0 Q (F0 m 43 ls []) := by
          intro n43
          induction n43 with
          | zero =>
            intro i43 σ43 b1 b2
            exact absurd b2 (by omega)
          | succ n43 ih43 =>
            intro i43 σ43 hi43 hn43 eσ43 H locs ls Y hl
            refine lv_iload_n hx hb dM_all_43 rfl (lv_at hl 1 rfl) ?_
            refine lv_bipush (v := (nI (32))) hx hb dM_all_44 (by decide) ?_
            refine bn_ge (tgt := 62) hx hb dM_all_46 (by decide) (by omega) (by omega) (fun h46 => ?_) (fun h46 => ?_)
            · skip
              obtain rfl : i43 = 32 := by omega
              subst eσ43
              refine lv_aload_n hx hb dM_all_62 rfl (lv_at hl 0 rfl) ?_
              refine cl_vi (na := 0) (rest := []) X hD Y (tM_within l g a ha ((fldN m_al2 ((fldN m_al1 s 8)) 32))  ) gM_M_within (by decide +kernel) rfl rfl rfl ⟨rfl, rfl⟩ ⟨Nat.le_of_ble_eq_true rfl, Nat.le_of_ble_eq_true rfl⟩ ⟨Nat.zero_le _, Nat.zero_le _⟩ hl.1 rfl (Nat.le_of_ble_eq_true rfl) dM_all_63 (fun H locs Y => ?_)
              have E : m_within ((fldN m_al2 ((fldN m_al1 s 8)) 32)) = m_all s := rfl
              rw [E] at Y
              exact ret _ _ _ _ _ Y (rfl) dM_all_66
            · skip
              refine lv_aload_n hx hb dM_all_49 rfl (lv_at hl 0 rfl) ?_
              refine rM_MK X Y dM_all_50 ?_
              refine lv_iload_n hx hb dM_all_53 rfl (lv_at hl 1 rfl) ?_
              refine lv_iconst (v := (nI (0))) hx hb dM_all_54 (by decide) ?_
              refine sM_MK X Y (k := i43) false (by decide) (by omega) dM_all_55 (fun H locs Y => ?_)
              refine lv_iinc (v := (nI (i43 + 1))) (lv' := [(1, .int (nI (i43 + 1))), (0, .ref (a 0))]) hx hb dM_all_56 hl (k := 1) rfl (nI_1 _) (by decide) rfl (fun ls hl => ?_)
              refine lv_goto (tgt := 43) hx hb dM_all_59 (by decide) ?_
              exact ih43 (i43 + 1) (uM_MK σ43 i43 false) (by omega) (by omega) (by show m_al2 i43 (fldN m_al2 ((fldN m_al1 s 8)) i43) = _; rw [eσ43]; simp [m_al2, h5, h46]) _ _ _ Y (lv_sub hl [1, 0] rfl)
        exact loop43 (32 + 1) 0 (((fldN m_al1 s 8))) (by omega) (by omega) (fldN_zero) _ _ _ Y (lv_sub hl [1, 0] rfl)
      · skip
        refine lv_aload_n hx hb dM_all_8 rfl (lv_at hl 0 rfl) ?_
        refine rM_ST X Y dM_all_9 ?_
        refine lv_iload_n hx hb dM_all_12 rfl (lv_at hl 1 rfl) ?_
        refine lM_ST X Y (k := i2) (by omega) dM_all_13 ?_
        have hq2 := (gM_ST σ2 i2).isLt
        refine lv_iconst (v := (nI (2))) hx hb dM_all_14 (by decide) ?_
        refine bn_ne (tgt := 35) hx hb dM_all_15 (by decide) (by omega) (by omega) (fun h15 => ?_) (fun h15 => ?_)
        · skip
          refine lv_iinc (v := (nI (i2 + 1))) (lv' := [(1, .int (nI (i2 + 1))), (0, .ref (a 0))]) hx hb dM_all_35 hl (k := 1) rfl (nI_1 _) (by decide) rfl (fun ls hl => ?_)
          refine lv_goto (tgt := 2) hx hb dM_all_38 (by decide) ?_
          exact ih2 (i2 + 1) σ2 (by omega) (by omega) (by show m_al1 i2 (fldN m_al1 s i2) = _; rw [eσ2]; simp [m_al1, m_fi, h5, h15]) _ _ _ Y (lv_sub hl [1, 0] rfl)
        · skip
          refine lv_aload_n hx hb dM_all_18 rfl (lv_at hl 0 rfl) ?_
          refine rM_ST X Y dM_all_19 ?_
          refine lv_iload_n hx hb dM_all_22 rfl (lv_at hl 1 rfl) ?_
          refine lv_iconst (v := (nI (1))) hx hb dM_all_23 (by decide) ?_
          refine sM_ST X Y (k := i2) (⟨1, by omega⟩) rfl (by omega) dM_all_24 (fun H locs Y => ?_)
          refine lv_aload_n hx hb dM_all_25 rfl (lv_at hl 0 rfl) ?_
          refine lv_dup hx hb dM_all_26 rfl ?_
          refine rM_FA X Y dM_all_27 ?_
          refine lv_iconst (v := (nI (1))) hx hb dM_all_30 (by decide) ?_
          refine lv_iadd hx hb dM_all_31 ?_
          refine pM_FA X Y (((gM_FA (uM_ST σ2 i2 (⟨1, by omega⟩))) + (nI (1)))) rfl dM_all_32 (fun H locs Y => ?_)
          refine lv_iinc (v := (nI (i2 + 1))) (lv' := [(1, .int (nI (i2 + 1))), (0, .ref (a 0))]) hx hb dM_all_35 hl (k := 1) rfl (nI_1 _) (by decide) rfl (fun ls hl => ?_)
          refine lv_goto (tgt := 2) hx hb dM_all_38 (by decide) ?_
          exact ih2 (i2 + 1) (uM_FA (uM_ST σ2 i2 (⟨1, by omega⟩)) (((gM_FA (uM_ST σ2 i2 (⟨1, by omega⟩))) + (nI (1))))) (by omega) (by omega) (by show m_al1 i2 (fldN m_al1 s i2) = _; rw [eσ2]; simp [m_al1, m_fi, h5, h15]) _ _ _ Y (lv_sub hl [1, 0] rfl)
  exact loop2 (8 + 1) 0 s (by omega) (by omega) (fldN_zero) _ _ _ Y (lv_sub hl [1, 0] rfl)
