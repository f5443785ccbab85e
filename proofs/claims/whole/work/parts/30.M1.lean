/-! written by wip/whole/specM.py -/
set_option maxHeartbeats 1000000 in
set_option maxRecDepth 100000 in
theorem tM_register (l : Launch) (q : Int32) : Cs l yM_register kM_register ({ frames := 0, cells := 0, slots := 0, locals := 0 }) [.int (q)] (bI (m_reg q)) := by
  refine Cs.of (own := RM) (cc := cM_register) (nL := 1) (bI_nar _) (by decide) rfl (Nat.le_of_ble_eq_true rfl) ?_
  intro p e S m args below meth c Q hx hb ret ls hl
  have hl : lv_has ls 1 [(0, .int (q))] := hl
  refine lv_iload_n hx hb dM_register_0 rfl (lv_at hl 0 rfl) ?_
  refine lv_if_lt (tgt := 13) hx hb dM_register_1 (by decide) (fun h1 => ?_) (fun h1 => ?_)
  · skip
    refine lv_iconst (v := (nI (0))) hx hb dM_register_13 (by decide) ?_
    exact ret _ _ _ (by rw [show m_reg q = false by simp [m_reg, h1]]; decide) dM_register_14
  · skip
    refine lv_iload_n hx hb dM_register_4 rfl (lv_at hl 0 rfl) ?_
    refine lv_iconst (v := (nI (4))) hx hb dM_register_5 (by decide) ?_
    refine lv_icmp_ge (tgt := 13) hx hb dM_register_6 (by decide) (fun h6 => ?_) (fun h6 => ?_)
    · skip
      refine lv_iconst (v := (nI (0))) hx hb dM_register_13 (by decide) ?_
      exact ret _ _ _ (by rw [show m_reg q = false by simp [m_reg, h1, h6]]; decide) dM_register_14
    · skip
      refine lv_iconst (v := (nI (1))) hx hb dM_register_9 (by decide) ?_
      refine lv_goto (tgt := 14) hx hb dM_register_10 (by decide) ?_
      exact ret _ _ _ (by rw [show m_reg q = true by simp [m_reg, h1, h6]]; decide) dM_register_14
set_option maxHeartbeats 1000000 in
set_option maxRecDepth 100000 in
theorem tM_isPage (l : Launch) (q : Int32) : Cs l yM_isPage kM_isPage ({ frames := 0, cells := 0, slots := 0, locals := 0 }) [.int (q)] (bI (h_pg q)) := by
  refine Cs.of (own := RM) (cc := cM_isPage) (nL := 1) (bI_nar _) (by decide) rfl (Nat.le_of_ble_eq_true rfl) ?_
  intro p e S m args below meth c Q hx hb ret ls hl
  have hl : lv_has ls 1 [(0, .int (q))] := hl
  refine lv_iload_n hx hb dM_isPage_0 rfl (lv_at hl 0 rfl) ?_
  refine lv_if_lt (tgt := 14) hx hb dM_isPage_1 (by decide) (fun h1 => ?_) (fun h1 => ?_)
  · skip
    refine lv_iconst (v := (nI (0))) hx hb dM_isPage_14 (by decide) ?_
    exact ret _ _ _ (by rw [show h_pg q = false by simp [h_pg, h1]]; decide) dM_isPage_15
  · skip
    refine lv_iload_n hx hb dM_isPage_4 rfl (lv_at hl 0 rfl) ?_
    refine lv_bipush (v := (nI (8))) hx hb dM_isPage_5 (by decide) ?_
    refine lv_icmp_ge (tgt := 14) hx hb dM_isPage_7 (by decide) (fun h7 => ?_) (fun h7 => ?_)
    · skip
      refine lv_iconst (v := (nI (0))) hx hb dM_isPage_14 (by decide) ?_
      exact ret _ _ _ (by rw [show h_pg q = false by simp [h_pg, h1, h7]]; decide) dM_isPage_15
    · skip
      refine lv_iconst (v := (nI (1))) hx hb dM_isPage_10 (by decide) ?_
      refine lv_goto (tgt := 15) hx hb dM_isPage_11 (by decide) ?_
      exact ret _ _ _ (by rw [show h_pg q = true by simp [h_pg, h1, h7]]; decide) dM_isPage_15
set_option maxHeartbeats 1000000 in
set_option maxRecDepth 100000 in
theorem tM_refers (l : Launch) (g : GG) (a : Nat → Nat) (ha : apM a) (s : MS) (v w : Nat) (hv : v < 8) (hw : w < 8) : Ci l g (wldM g a) (adM a) yM_refers kM_refers ({ frames := 0, cells := 0, slots := 0, locals := 0 }) [.ref (a 0), .int (nI (v)), .int (nI (w))] s (bI (m_refers s v w)) s := by
  have hD := wldM_D (g := g) ha
  refine Ci.ofZ (own := RM) (cc := cM_refers) (nL := 6) hD (by decide) rfl (Nat.le_of_ble_eq_true rfl) ?_
  intro p e S m args below meth c Q X ret H locs ls Y hl
  have hx := X.1
  have hb := X.2.1
  have hl : lv_has ls 6 [(0, .ref (a 0)), (1, .int (nI (v))), (2, .int (nI (w)))] := hl
  refine lv_iconst (v := (nI (0))) hx hb dM_refers_0 (by decide) ?_
  refine bn_top (y := (bI (false))) (by decide) ?_
  refine lv_istore_n (lv' := [(3, .int (bI (false))), (0, .ref (a 0)), (1, .int (nI (v))), (2, .int (nI (w)))]) hx hb dM_refers_1 rfl hl (by decide) rfl (fun ls hl => ?_)
  refine lv_iconst (v := (nI (4))) hx hb dM_refers_2 (by decide) ?_
  refine lv_iload_n hx hb dM_refers_3 rfl (lv_at hl 2 rfl) ?_
  refine bn_mul hx hb dM_refers_4 ?_
  refine lv_istore (lv' := [(4, .int (nI (4 * v))), (3, .int (bI (false))), (0, .ref (a 0)), (1, .int (nI (v))), (2, .int (nI (w)))]) hx hb dM_refers_5 hl (by decide) rfl (fun ls hl => ?_)
  have loop7 : ∀ (n7 i7 : Nat) (b7 : Bool), i7 ≤ 4 → 4 < i7 + n7 → (anyN (m_rf1 s v w) i7 = b7) → ∀ (H : Heap) (locs : List Loc) (ls : Array Slot), Yw g (wldM g a) (adM a) S H locs s → lv_has ls 6 [(0, .ref (a 0)), (1, .int (nI (v))), (2, .int (nI (w))), (3, .int (bI (b7))), (4, .int (nI (4 * v + i7)))] → W p l e ({ frames := 0, cells := 0, slots := 0, locals := 0 }) S m args below meth c H locs 0 0 Q (F0 m 7 ls []) := by
    intro n7
    induction n7 with
    | zero =>
      intro i7 b7 b1 b2
      exact absurd b2 (by omega)
    | succ n7 ih7 =>
      intro i7 b7 hi7 hn7 eb7 H locs ls Y hl
      refine lv_iload hx hb dM_refers_7 (lv_at hl 4 rfl) ?_
      refine lv_iconst (v := (nI (4))) hx hb dM_refers_9 (by decide) ?_
      refine lv_iload_n hx hb dM_refers_10 rfl (lv_at hl 1 rfl) ?_
      refine bn_mul hx hb dM_refers_11 ?_
      refine lv_iconst (v := (nI (4))) hx hb dM_refers_12 (by decide) ?_
      refine bn_add hx hb dM_refers_13 ?_
      refine bn_ge (tgt := 89) hx hb dM_refers_14 (by decide) (by omega) (by omega) (fun h14 => ?_) (fun h14 => ?_)
      · skip
        obtain rfl : i7 = 4 := by omega
        subst eb7
        refine lv_iload_n hx hb dM_refers_89 rfl (lv_at hl 3 rfl) ?_
        refine bb_eq (tgt := 102) hx hb dM_refers_90 (by decide) (fun h90 => ?_) (fun h90 => ?_)
        · skip
          refine lv_iconst (v := (nI (0))) hx hb dM_refers_102 (by decide) ?_
          exact ret _ _ _ _ _ Y (by rw [show m_refers s v w = false by simp [m_refers, h14, h90]]; decide) dM_refers_103
        · skip
          refine lv_iload_n hx hb dM_refers_93 rfl (lv_at hl 1 rfl) ?_
          refine lv_iload_n hx hb dM_refers_94 rfl (lv_at hl 2 rfl) ?_
          refine bn_eq (tgt := 102) hx hb dM_refers_95 (by decide) (by omega) (by omega) (fun h95 => ?_) (fun h95 => ?_)
          · skip
            refine lv_iconst (v := (nI (0))) hx hb dM_refers_102 (by decide) ?_
            exact ret _ _ _ _ _ Y (by rw [show m_refers s v w = false by simp [m_refers, h14, h90, h95]]; decide) dM_refers_103
          · skip
            refine lv_iconst (v := (nI (1))) hx hb dM_refers_98 (by decide) ?_
            refine lv_goto (tgt := 103) hx hb dM_refers_99 (by decide) ?_
            exact ret _ _ _ _ _ Y (by rw [show m_refers s v w = true by simp [m_refers, h14, h90, h95]]; decide) dM_refers_103
      · skip
        refine lv_iconst (v := (nI (2))) hx hb dM_refers_17 (by decide) ?_
        refine lv_iload hx hb dM_refers_18 (lv_at hl 4 rfl) ?_
        refine bn_mul hx hb dM_refers_20 ?_
        refine lv_istore (lv' := [(5, .int (nI (2 * (4 * v + i7)))), (0, .ref (a 0)), (1, .int (nI (v))), (2, .int (nI (w))), (3, .int (bI (b7))), (4, .int (nI (4 * v + i7)))]) hx hb dM_refers_21 hl (by decide) rfl (fun ls hl => ?_)
        have loop23 : ∀ (n23 i23 : Nat) (b23 : Bool), i23 ≤ 2 → 2 < i23 + n23 → ((b7 || anyN (m_rfb s v w i7) i23) = b23) → ∀ (H : Heap) (locs : List Loc) (ls : Array Slot), Yw g (wldM g a) (adM a) S H locs s → lv_has ls 6 [(0, .ref (a 0)), (1, .int (nI (v))), (2, .int (nI (w))), (4, .int (nI (4 * v + i7))), (3, .int (bI (b23))), (5, .int (nI (2 * (4 * v + i7) + i23)))] → W p l e ({ frames := 0, cells := 0, slots := 0, locals := 0 }) S m args below meth c H locs 0 0 Q (F0 m 23 ls []) := by
          intro n23
          induction n23 with
          | zero =>
            intro i23 b23 b1 b2
            exact absurd b2 (by omega)
          | succ n23 ih23 =>
            intro i23 b23 hi23 hn23 eb23 H locs ls Y hl
            refine lv_iload hx hb dM_refers_23 (lv_at hl 5 rfl) ?_
            refine lv_iconst (v := (nI (2))) hx hb dM_refers_25 (by decide) ?_
            refine lv_iload hx hb dM_refers_26 (lv_at hl 3 rfl) ?_
            refine bn_mul hx hb dM_refers_28 ?_
            refine lv_iconst (v := (nI (2))) hx hb dM_refers_29 (by decide) ?_
            refine bn_add hx hb dM_refers_30 ?_
            refine bn_ge (tgt := 83) hx hb dM_refers_31 (by decide) (by omega) (by omega) (fun h31 => ?_) (fun h31 => ?_)
            · skip
              obtain rfl : i23 = 2 := by omega
              refine lv_iinc (v := (nI (4 * v + i7 + 1))) (lv' := [(4, .int (nI (4 * v + i7 + 1))), (0, .ref (a 0)), (1, .int (nI (v))), (2, .int (nI (w))), (3, .int (bI (b23))), (5, .int (nI (2 * (4 * v + i7) + 2)))]) hx hb dM_refers_83 hl (k := 3) rfl (nI_1 _) (by decide) rfl (fun ls hl => ?_)
              refine lv_goto (tgt := 7) hx hb dM_refers_86 (by decide) ?_
              exact ih7 (i7 + 1) b23 (by omega) (by omega) (by show (anyN (m_rf1 s v w) i7 || anyN (m_rfb s v w i7) 2) = _; rw [eb7]; exact eb23) _ _ _ Y (lv_sub hl [1, 2, 3, 4, 0] rfl)
            · skip
              refine lv_iload_n hx hb dM_refers_34 rfl (lv_at hl 4 rfl) ?_
              refine bb_ne (tgt := 71) hx hb dM_refers_35 (by decide) (fun h35 => ?_) (fun h35 => ?_)
              · skip
                refine lv_iconst (v := (nI (1))) hx hb dM_refers_71 (by decide) ?_
                refine lv_goto (tgt := 76) hx hb dM_refers_72 (by decide) ?_
                refine bn_top (y := (bI (true))) (by decide) ?_
                refine lv_istore_n (lv' := [(3, .int (bI (true))), (0, .ref (a 0)), (1, .int (nI (v))), (2, .int (nI (w))), (4, .int (nI (4 * v + i7))), (5, .int (nI (2 * (4 * v + i7) + i23)))]) hx hb dM_refers_76 rfl hl (by decide) rfl (fun ls hl => ?_)
                refine lv_iinc (v := (nI (2 * (4 * v + i7) + i23 + 1))) (lv' := [(5, .int (nI (2 * (4 * v + i7) + i23 + 1))), (3, .int (bI (true))), (0, .ref (a 0)), (1, .int (nI (v))), (2, .int (nI (w))), (4, .int (nI (4 * v + i7)))]) hx hb dM_refers_77 hl (k := 5) rfl (nI_1 _) (by decide) rfl (fun ls hl => ?_)
                refine lv_goto (tgt := 23) hx hb dM_refers_80 (by decide) ?_
                exact ih23 (i23 + 1) true (by omega) (by omega) (by show (b7 || (anyN (m_rfb s v w i7) i23 || m_rfb s v w i7 i23)) = _; rw [← Bool.or_assoc, eb23]; simp [m_rfb, h14, h31, h35]) _ _ _ Y (lv_sub hl [2, 3, 4, 5, 1, 0] rfl)
              · skip
                refine lv_aload_n hx hb dM_refers_38 rfl (lv_at hl 0 rfl) ?_
                refine rM_TH X Y dM_refers_39 ?_
                refine lv_iload hx hb dM_refers_42 (lv_at hl 3 rfl) ?_
                refine lM_TH X Y (k := 4 * v + i7) (by omega) dM_refers_44 ?_
                refine bb_eq (tgt := 75) hx hb dM_refers_45 (by decide) (fun h45 => ?_) (fun h45 => ?_)
                · skip
                  refine lv_iconst (v := (nI (0))) hx hb dM_refers_75 (by decide) ?_
                  refine bn_top (y := (bI (false))) (by decide) ?_
                  refine lv_istore_n (lv' := [(3, .int (bI (false))), (0, .ref (a 0)), (1, .int (nI (v))), (2, .int (nI (w))), (4, .int (nI (4 * v + i7))), (5, .int (nI (2 * (4 * v + i7) + i23)))]) hx hb dM_refers_76 rfl hl (by decide) rfl (fun ls hl => ?_)
                  refine lv_iinc (v := (nI (2 * (4 * v + i7) + i23 + 1))) (lv' := [(5, .int (nI (2 * (4 * v + i7) + i23 + 1))), (3, .int (bI (false))), (0, .ref (a 0)), (1, .int (nI (v))), (2, .int (nI (w))), (4, .int (nI (4 * v + i7)))]) hx hb dM_refers_77 hl (k := 5) rfl (nI_1 _) (by decide) rfl (fun ls hl => ?_)
                  refine lv_goto (tgt := 23) hx hb dM_refers_80 (by decide) ?_
                  exact ih23 (i23 + 1) false (by omega) (by omega) (by show (b7 || (anyN (m_rfb s v w i7) i23 || m_rfb s v w i7 i23)) = _; rw [← Bool.or_assoc, eb23]; simp [m_rfb, h14, h31, h35, h45]) _ _ _ Y (lv_sub hl [2, 3, 4, 5, 1, 0] rfl)
                · skip
                  refine lv_aload_n hx hb dM_refers_48 rfl (lv_at hl 0 rfl) ?_
                  refine rM_FD X Y dM_refers_49 ?_
                  refine lv_iload hx hb dM_refers_52 (lv_at hl 5 rfl) ?_
                  refine lM_FD X Y (k := 2 * (4 * v + i7) + i23) (by omega) dM_refers_54 ?_
                  refine bo_lt (tgt := 75) hx hb dM_refers_55 (by decide) (fun h55 => ?_) (fun k1 h55 => ?_)
                  · skip
                    refine lv_iconst (v := (nI (0))) hx hb dM_refers_75 (by decide) ?_
                    refine bn_top (y := (bI (false))) (by decide) ?_
                    refine lv_istore_n (lv' := [(3, .int (bI (false))), (0, .ref (a 0)), (1, .int (nI (v))), (2, .int (nI (w))), (4, .int (nI (4 * v + i7))), (5, .int (nI (2 * (4 * v + i7) + i23)))]) hx hb dM_refers_76 rfl hl (by decide) rfl (fun ls hl => ?_)
                    refine lv_iinc (v := (nI (2 * (4 * v + i7) + i23 + 1))) (lv' := [(5, .int (nI (2 * (4 * v + i7) + i23 + 1))), (3, .int (bI (false))), (0, .ref (a 0)), (1, .int (nI (v))), (2, .int (nI (w))), (4, .int (nI (4 * v + i7)))]) hx hb dM_refers_77 hl (k := 5) rfl (nI_1 _) (by decide) rfl (fun ls hl => ?_)
                    refine lv_goto (tgt := 23) hx hb dM_refers_80 (by decide) ?_
                    exact ih23 (i23 + 1) false (by omega) (by omega) (by show (b7 || (anyN (m_rfb s v w i7) i23 || m_rfb s v w i7 i23)) = _; rw [← Bool.or_assoc, eb23]; simp [m_rfb, h14, h31, h35, h45, h55]) _ _ _ Y (lv_sub hl [2, 3, 4, 5, 1, 0] rfl)
                  · skip
                    have hq2 := k1.isLt
                    refine lv_aload_n hx hb dM_refers_58 rfl (lv_at hl 0 rfl) ?_
                    refine rM_FD X Y dM_refers_59 ?_
                    refine lv_iload hx hb dM_refers_62 (lv_at hl 5 rfl) ?_
                    refine lM_FD X Y (k := 2 * (4 * v + i7) + i23) (by omega) dM_refers_64 ?_
                    refine bn_top (y := nI k1.val) (by rw [h55]; rfl) ?_
                    refine lv_iconst (v := (nI (4))) hx hb dM_refers_65 (by decide) ?_
                    refine bn_div hx hb dM_refers_66 (by omega) (by omega) (by omega) ?_
                    refine lv_iload_n hx hb dM_refers_67 rfl (lv_at hl 2 rfl) ?_
                    refine bn_ne (tgt := 75) hx hb dM_refers_68 (by decide) (by omega) (by omega) (fun h68 => ?_) (fun h68 => ?_)
                    · skip
                      refine lv_iconst (v := (nI (0))) hx hb dM_refers_75 (by decide) ?_
                      refine bn_top (y := (bI (false))) (by decide) ?_
                      refine lv_istore_n (lv' := [(3, .int (bI (false))), (0, .ref (a 0)), (1, .int (nI (v))), (2, .int (nI (w))), (4, .int (nI (4 * v + i7))), (5, .int (nI (2 * (4 * v + i7) + i23)))]) hx hb dM_refers_76 rfl hl (by decide) rfl (fun ls hl => ?_)
                      refine lv_iinc (v := (nI (2 * (4 * v + i7) + i23 + 1))) (lv' := [(5, .int (nI (2 * (4 * v + i7) + i23 + 1))), (3, .int (bI (false))), (0, .ref (a 0)), (1, .int (nI (v))), (2, .int (nI (w))), (4, .int (nI (4 * v + i7)))]) hx hb dM_refers_77 hl (k := 5) rfl (nI_1 _) (by decide) rfl (fun ls hl => ?_)
                      refine lv_goto (tgt := 23) hx hb dM_refers_80 (by decide) ?_
                      exact ih23 (i23 + 1) false (by omega) (by omega) (by show (b7 || (anyN (m_rfb s v w i7) i23 || m_rfb s v w i7 i23)) = _; rw [← Bool.or_assoc, eb23]; simp [m_rfb, h14, h31, h35, h45, h55, h68]) _ _ _ Y (lv_sub hl [2, 3, 4, 5, 1, 0] rfl)
                    · skip
                      refine lv_iconst (v := (nI (1))) hx hb dM_refers_71 (by decide) ?_
                      refine lv_goto (tgt := 76) hx hb dM_refers_72 (by decide) ?_
                      refine bn_top (y := (bI (true))) (by decide) ?_
                      refine lv_istore_n (lv' := [(3, .int (bI (true))), (0, .ref (a 0)), (1, .int (nI (v))), (2, .int (nI (w))), (4, .int (nI (4 * v + i7))), (5, .int (nI (2 * (4 * v + i7) + i23)))]) hx hb dM_refers_76 rfl hl (by decide) rfl (fun ls hl => ?_)
                      refine lv_iinc (v := (nI (2 * (4 * v + i7) + i23 + 1))) (lv' := [(5, .int (nI (2 * (4 * v + i7) + i23 + 1))), (3, .int (bI (true))), (0, .ref (a 0)), (1, .int (nI (v))), (2, .int (nI (w))), (4, .int (nI (4 * v + i7)))]) hx hb dM_refers_77 hl (k := 5) rfl (nI_1 _) (by decide) rfl (fun ls hl => ?_)
                      refine lv_goto (tgt := 23) hx hb dM_refers_80 (by decide) ?_
                      exact ih23 (i23 + 1) true (by omega) (by omega) (by show (b7 || (anyN (m_rfb s v w i7) i23 || m_rfb s v w i7 i23)) = _; rw [← Bool.or_assoc, eb23]; simp [m_rfb, h14, h31, h35, h45, h55, h68]) _ _ _ Y (lv_sub hl [2, 3, 4, 5, 1, 0] rfl)
        exact loop23 (2 + 1) 0 b7 (by omega) (by omega) (by simp [anyN]) _ _ _ Y (lv_sub hl [1, 2, 3, 5, 4, 0] rfl)
  exact loop7 (4 + 1) 0 false (by omega) (by omega) (rfl) _ _ _ Y (lv_sub hl [2, 3, 4, 1, 0] rfl)
set_option maxHeartbeats 1000000 in
set_option maxRecDepth 100000 in
theorem tM_counted (l : Launch) (g : GG) (a : Nat → Nat) (ha : apM a) (s : MS) (w : Nat) (hw : w < 8) : Ci l g (wldM g a) (adM a) yM_counted kM_counted ({ frames := 1, cells := 0, slots := 0, locals := 25 }) [.ref (a 0), .int (nI (w))] s (nI (m_counted s w)) s := by
  have hD := wldM_D (g := g) ha
  refine Ci.of (own := RM) (cc := cM_counted) (nL := 4) hD (by decide) rfl (Nat.le_of_ble_eq_true rfl) ?_
  intro p e S m args below meth c Q X ret H locs ls Y hl
  have hx := X.1
  have hb := X.2.1
  have hl : lv_has ls 4 [(0, .ref (a 0)), (1, .int (nI (w)))] := hl
  refine lv_iconst (v := (nI (0))) hx hb dM_counted_0 (by decide) ?_
  refine lv_istore_n (lv' := [(2, .int (nI (0))), (0, .ref (a 0)), (1, .int (nI (w)))]) hx hb dM_counted_1 rfl hl (by decide) rfl (fun ls hl => ?_)
  refine lv_iconst (v := (nI (0))) hx hb dM_counted_2 (by decide) ?_
  refine lv_istore_n (lv' := [(3, .int (nI (0))), (2, .int (nI (0))), (0, .ref (a 0)), (1, .int (nI (w)))]) hx hb dM_counted_3 rfl hl (by decide) rfl (fun ls hl => ?_)
  have loop4 : ∀ (n4 i4 : Nat) (k4 : Nat), i4 ≤ 8 → 8 < i4 + n4 → (cntN (m_ctb s w) i4 = k4) → (k4 ≤ i4) → ∀ (H : Heap) (locs : List Loc) (ls : Array Slot), Yw g (wldM g a) (adM a) S H locs s → lv_has ls 4 [(0, .ref (a 0)), (1, .int (nI (w))), (2, .int (nI (k4))), (3, .int (nI (i4)))] → W p l e ({ frames := 1, cells := 0, slots := 0, locals := 25 }) S m args below meth c H locs 0 0 Q (F0 m 4 ls []) := by
    intro n4
    induction n4 with
    | zero =>
      intro i4 k4 b1 b2
      exact absurd b2 (by omega)
    | succ n4 ih4 =>
      intro i4 k4 hi4 hn4 ek4 hk4 H locs ls Y hl
      refine lv_iload_n hx hb dM_counted_4 rfl (lv_at hl 3 rfl) ?_
      refine lv_bipush (v := (nI (8))) hx hb dM_counted_5 (by decide) ?_
      refine bn_ge (tgt := 43) hx hb dM_counted_7 (by decide) (by omega) (by omega) (fun h7 => ?_) (fun h7 => ?_)
      · skip
        obtain rfl : i4 = 8 := by omega
        subst ek4
        refine lv_iload_n hx hb dM_counted_43 rfl (lv_at hl 2 rfl) ?_
        exact ret _ _ _ _ _ Y (rfl) dM_counted_44
      · skip
        refine lv_aload_n hx hb dM_counted_10 rfl (lv_at hl 0 rfl) ?_
        refine rM_ST X Y dM_counted_11 ?_
        refine lv_iload_n hx hb dM_counted_14 rfl (lv_at hl 3 rfl) ?_
        refine lM_ST X Y (k := i4) (by omega) dM_counted_15 ?_
        have hq1 := (gM_ST s i4).isLt
        refine lv_iconst (v := (nI (2))) hx hb dM_counted_16 (by decide) ?_
        refine bn_ne (tgt := 35) hx hb dM_counted_17 (by decide) (by omega) (by omega) (fun h17 => ?_) (fun h17 => ?_)
        · skip
          refine lv_iload_n hx hb dM_counted_35 rfl (lv_at hl 2 rfl) ?_
          refine lv_istore_n (lv' := [(2, .int (nI (k4))), (0, .ref (a 0)), (1, .int (nI (w))), (3, .int (nI (i4)))]) hx hb dM_counted_36 rfl hl (by decide) rfl (fun ls hl => ?_)
          refine lv_iinc (v := (nI (i4 + 1))) (lv' := [(3, .int (nI (i4 + 1))), (2, .int (nI (k4))), (0, .ref (a 0)), (1, .int (nI (w)))]) hx hb dM_counted_37 hl (k := 3) rfl (nI_1 _) (by decide) rfl (fun ls hl => ?_)
          refine lv_goto (tgt := 4) hx hb dM_counted_40 (by decide) ?_
          exact ih4 (i4 + 1) k4 (by omega) (by omega) (by show cntN (m_ctb s w) i4 + _ = _; rw [ek4]; simp [m_ctb, h7, h17]) (by omega) _ _ _ Y (lv_sub hl [2, 3, 1, 0] rfl)
        · skip
          refine lv_aload_n hx hb dM_counted_20 rfl (lv_at hl 0 rfl) ?_
          refine lv_iload_n hx hb dM_counted_21 rfl (lv_at hl 3 rfl) ?_
          refine lv_iload_n hx hb dM_counted_22 rfl (lv_at hl 1 rfl) ?_
          refine cl_vi (na := 2) (rest := []) X hD Y (tM_refers l g a ha s i4 w (by omega) (by omega)) gM_M_refers (by decide +kernel) rfl rfl rfl ⟨rfl, rfl⟩ ⟨Nat.le_of_ble_eq_true rfl, Nat.le_of_ble_eq_true rfl⟩ ⟨Nat.zero_le _, Nat.zero_le _⟩ hl.1 rfl (Nat.le_of_ble_eq_true rfl) dM_counted_23 (fun H locs Y => ?_)
          refine bb_eq (tgt := 35) hx hb dM_counted_26 (by decide) (fun h26 => ?_) (fun h26 => ?_)
          · skip
            refine lv_iload_n hx hb dM_counted_35 rfl (lv_at hl 2 rfl) ?_
            refine lv_istore_n (lv' := [(2, .int (nI (k4))), (0, .ref (a 0)), (1, .int (nI (w))), (3, .int (nI (i4)))]) hx hb dM_counted_36 rfl hl (by decide) rfl (fun ls hl => ?_)
            refine lv_iinc (v := (nI (i4 + 1))) (lv' := [(3, .int (nI (i4 + 1))), (2, .int (nI (k4))), (0, .ref (a 0)), (1, .int (nI (w)))]) hx hb dM_counted_37 hl (k := 3) rfl (nI_1 _) (by decide) rfl (fun ls hl => ?_)
            refine lv_goto (tgt := 4) hx hb dM_counted_40 (by decide) ?_
            exact ih4 (i4 + 1) k4 (by omega) (by omega) (by show cntN (m_ctb s w) i4 + _ = _; rw [ek4]; simp [m_ctb, h7, h17, h26]) (by omega) _ _ _ Y (lv_sub hl [2, 3, 1, 0] rfl)
          · skip
            refine lv_iload_n hx hb dM_counted_29 rfl (lv_at hl 2 rfl) ?_
            refine lv_iconst (v := (nI (1))) hx hb dM_counted_30 (by decide) ?_
            refine bn_add hx hb dM_counted_31 ?_
            refine lv_goto (tgt := 36) hx hb dM_counted_32 (by decide) ?_
            refine lv_istore_n (lv' := [(2, .int (nI (k4 + 1))), (0, .ref (a 0)), (1, .int (nI (w))), (3, .int (nI (i4)))]) hx hb dM_counted_36 rfl hl (by decide) rfl (fun ls hl => ?_)
            refine lv_iinc (v := (nI (i4 + 1))) (lv' := [(3, .int (nI (i4 + 1))), (2, .int (nI (k4 + 1))), (0, .ref (a 0)), (1, .int (nI (w)))]) hx hb dM_counted_37 hl (k := 3) rfl (nI_1 _) (by decide) rfl (fun ls hl => ?_)
            refine lv_goto (tgt := 4) hx hb dM_counted_40 (by decide) ?_
            exact ih4 (i4 + 1) (k4 + 1) (by omega) (by omega) (by show cntN (m_ctb s w) i4 + _ = _; rw [ek4]; simp [m_ctb, h7, h17, h26]) (by omega) _ _ _ Y (lv_sub hl [2, 3, 1, 0] rfl)
  exact loop4 (8 + 1) 0 0 (by omega) (by omega) (rfl) (Nat.le_refl 0) _ _ _ Y (lv_sub hl [2, 3, 1, 0] rfl)
set_option maxHeartbeats 1000000 in
set_option maxRecDepth 100000 in
theorem tM_pagesIn (l : Launch) (g : GG) (a : Nat → Nat) (ha : apM a) (s : MS)  : Ci l g (wldM g a) (adM a) yM_pagesIn kM_pagesIn ({ frames := 0, cells := 0, slots := 0, locals := 0 }) [.ref (a 0)] s (nI (m_in s)) s := by
  have hD := wldM_D (g := g) ha
  refine Ci.of (own := RM) (cc := cM_pagesIn) (nL := 3) hD (by decide) rfl (Nat.le_of_ble_eq_true rfl) ?_
  intro p e S m args below meth c Q X ret H locs ls Y hl
  have hx := X.1
  have hb := X.2.1
  have hl : lv_has ls 3 [(0, .ref (a 0))] := hl
  refine lv_iconst (v := (nI (0))) hx hb dM_pagesIn_0 (by decide) ?_
  refine lv_istore_n (lv' := [(1, .int (nI (0))), (0, .ref (a 0))]) hx hb dM_pagesIn_1 rfl hl (by decide) rfl (fun ls hl => ?_)
  refine lv_iconst (v := (nI (0))) hx hb dM_pagesIn_2 (by decide) ?_
  refine lv_istore_n (lv' := [(2, .int (nI (0))), (1, .int (nI (0))), (0, .ref (a 0))]) hx hb dM_pagesIn_3 rfl hl (by decide) rfl (fun ls hl => ?_)
  have loop4 : ∀ (n4 i4 : Nat) (k4 : Nat), i4 ≤ 8 → 8 < i4 + n4 → (cntN (m_inb s) i4 = k4) → (k4 ≤ i4) → ∀ (H : Heap) (locs : List Loc) (ls : Array Slot), Yw g (wldM g a) (adM a) S H locs s → lv_has ls 3 [(0, .ref (a 0)), (1, .int (nI (k4))), (2, .int (nI (i4)))] → W p l e ({ frames := 0, cells := 0, slots := 0, locals := 0 }) S m args below meth c H locs 0 0 Q (F0 m 4 ls []) := by
    intro n4
    induction n4 with
    | zero =>
      intro i4 k4 b1 b2
      exact absurd b2 (by omega)
    | succ n4 ih4 =>
      intro i4 k4 hi4 hn4 ek4 hk4 H locs ls Y hl
      refine lv_iload_n hx hb dM_pagesIn_4 rfl (lv_at hl 2 rfl) ?_
      refine lv_bipush (v := (nI (8))) hx hb dM_pagesIn_5 (by decide) ?_
      refine bn_ge (tgt := 34) hx hb dM_pagesIn_7 (by decide) (by omega) (by omega) (fun h7 => ?_) (fun h7 => ?_)
      · skip
        obtain rfl : i4 = 8 := by omega
        subst ek4
        refine lv_iload_n hx hb dM_pagesIn_34 rfl (lv_at hl 1 rfl) ?_
        exact ret _ _ _ _ _ Y (rfl) dM_pagesIn_35
      · skip
        refine lv_aload_n hx hb dM_pagesIn_10 rfl (lv_at hl 0 rfl) ?_
        refine rM_ST X Y dM_pagesIn_11 ?_
        refine lv_iload_n hx hb dM_pagesIn_14 rfl (lv_at hl 2 rfl) ?_
        refine lM_ST X Y (k := i4) (by omega) dM_pagesIn_15 ?_
        have hq1 := (gM_ST s i4).isLt
        refine lv_iconst (v := (nI (1))) hx hb dM_pagesIn_16 (by decide) ?_
        refine bn_ne (tgt := 26) hx hb dM_pagesIn_17 (by decide) (by omega) (by omega) (fun h17 => ?_) (fun h17 => ?_)
        · skip
          refine lv_iload_n hx hb dM_pagesIn_26 rfl (lv_at hl 1 rfl) ?_
          refine lv_istore_n (lv' := [(1, .int (nI (k4))), (0, .ref (a 0)), (2, .int (nI (i4)))]) hx hb dM_pagesIn_27 rfl hl (by decide) rfl (fun ls hl => ?_)
          refine lv_iinc (v := (nI (i4 + 1))) (lv' := [(2, .int (nI (i4 + 1))), (1, .int (nI (k4))), (0, .ref (a 0))]) hx hb dM_pagesIn_28 hl (k := 2) rfl (nI_1 _) (by decide) rfl (fun ls hl => ?_)
          refine lv_goto (tgt := 4) hx hb dM_pagesIn_31 (by decide) ?_
          exact ih4 (i4 + 1) k4 (by omega) (by omega) (by show cntN (m_inb s) i4 + _ = _; rw [ek4]; simp [m_inb, h7, h17]) (by omega) _ _ _ Y (lv_sub hl [2, 1, 0] rfl)
        · skip
          refine lv_iload_n hx hb dM_pagesIn_20 rfl (lv_at hl 1 rfl) ?_
          refine lv_iconst (v := (nI (1))) hx hb dM_pagesIn_21 (by decide) ?_
          refine bn_add hx hb dM_pagesIn_22 ?_
          refine lv_goto (tgt := 27) hx hb dM_pagesIn_23 (by decide) ?_
          refine lv_istore_n (lv' := [(1, .int (nI (k4 + 1))), (0, .ref (a 0)), (2, .int (nI (i4)))]) hx hb dM_pagesIn_27 rfl hl (by decide) rfl (fun ls hl => ?_)
          refine lv_iinc (v := (nI (i4 + 1))) (lv' := [(2, .int (nI (i4 + 1))), (1, .int (nI (k4 + 1))), (0, .ref (a 0))]) hx hb dM_pagesIn_28 hl (k := 2) rfl (nI_1 _) (by decide) rfl (fun ls hl => ?_)
          refine lv_goto (tgt := 4) hx hb dM_pagesIn_31 (by decide) ?_
          exact ih4 (i4 + 1) (k4 + 1) (by omega) (by omega) (by show cntN (m_inb s) i4 + _ = _; rw [ek4]; simp [m_inb, h7, h17]) (by omega) _ _ _ Y (lv_sub hl [2, 1, 0] rfl)
  exact loop4 (8 + 1) 0 0 (by omega) (by omega) (rfl) (Nat.le_refl 0) _ _ _ Y (lv_sub hl [2, 1, 0] rfl)
set_option maxHeartbeats 1000000 in
set_option maxRecDepth 100000 in
theorem tM_unmark (l : Launch) (g : GG) (a : Nat → Nat) (ha : apM a) (s : MS) (w : Nat) (hw : w < 8) : Cv l g (wldM g a) (adM a) yM_unmark kM_unmark ({ frames := 0, cells := 0, slots := 0, locals := 0 }) [.ref (a 0), .int (nI (w))] s (m_unmark w s) := by
  have hD := wldM_D (g := g) ha
  refine Cv.of (own := RM) (cc := cM_unmark) (nL := 3) hD (by decide) rfl (Nat.le_of_ble_eq_true rfl) ?_
  intro p e S m args below meth c Q X ret H locs ls Y hl
  have hx := X.1
  have hb := X.2.1
  have hl : lv_has ls 3 [(0, .ref (a 0)), (1, .int (nI (w)))] := hl
  refine lv_iconst (v := (nI (4))) hx hb dM_unmark_0 (by decide) ?_
  refine lv_iload_n hx hb dM_unmark_1 rfl (lv_at hl 1 rfl) ?_
  refine bn_mul hx hb dM_unmark_2 ?_
  refine lv_istore_n (lv' := [(2, .int (nI (4 * w))), (0, .ref (a 0)), (1, .int (nI (w)))]) hx hb dM_unmark_3 rfl hl (by decide) rfl (fun ls hl => ?_)
  have loop4 : ∀ (n4 i4 : Nat) (σ4 : MS), i4 ≤ 4 → 4 < i4 + n4 → (fldN (m_un1 w) s i4 = σ4) → ∀ (H : Heap) (locs : List Loc) (ls : Array Slot), Yw g (wldM g a) (adM a) S H locs σ4 → lv_has ls 3 [(0, .ref (a 0)), (1, .int (nI (w))), (2, .int (nI (4 * w + i4)))] → W p l e ({ frames := 0, cells := 0, slots := 0, locals := 0 }) S m args below meth c H locs 0 0 Q (F0 m 4 ls []) := by
    intro n4
    induction n4 with
    | zero =>
      intro i4 σ4 b1 b2
      exact absurd b2 (by omega)
    | succ n4 ih4 =>
      intro i4 σ4 hi4 hn4 eσ4 H locs ls Y hl
      refine lv_iload_n hx hb dM_unmark_4 rfl (lv_at hl 2 rfl) ?_
      refine lv_iconst (v := (nI (4))) hx hb dM_unmark_5 (by decide) ?_
      refine lv_iload_n hx hb dM_unmark_6 rfl (lv_at hl 1 rfl) ?_
      refine bn_mul hx hb dM_unmark_7 ?_
      refine lv_iconst (v := (nI (4))) hx hb dM_unmark_8 (by decide) ?_
      refine bn_add hx hb dM_unmark_9 ?_
      refine bn_ge (tgt := 26) hx hb dM_unmark_10 (by decide) (by omega) (by omega) (fun h10 => ?_) (fun h10 => ?_)
      · skip
        obtain rfl : i4 = 4 := by omega
        subst eσ4
        have E : (fldN (m_un1 w) s 4) = m_unmark w s := rfl
        rw [E] at Y
        exact ret _ _ _ _ Y dM_unmark_26
      · skip
        refine lv_aload_n hx hb dM_unmark_13 rfl (lv_at hl 0 rfl) ?_
        refine rM_MK X Y dM_unmark_14 ?_
        refine lv_iload_n hx hb dM_unmark_17 rfl (lv_at hl 2 rfl) ?_
        refine lv_iconst (v := (nI (0))) hx hb dM_unmark_18 (by decide) ?_
        refine sM_MK X Y (k := 4 * w + i4) false (by decide) (by omega) dM_unmark_19 (fun H locs Y => ?_)
        refine lv_iinc (v := (nI (4 * w + i4 + 1))) (lv' := [(2, .int (nI (4 * w + i4 + 1))), (0, .ref (a 0)), (1, .int (nI (w)))]) hx hb dM_unmark_20 hl (k := 2) rfl (nI_1 _) (by decide) rfl (fun ls hl => ?_)
        refine lv_goto (tgt := 4) hx hb dM_unmark_23 (by decide) ?_
        exact ih4 (i4 + 1) (uM_MK σ4 (4 * w + i4) false) (by omega) (by omega) (by show m_un1 w i4 (fldN (m_un1 w) s i4) = _; rw [eσ4]; simp [m_un1, h10]) _ _ _ Y (lv_sub hl [1, 2, 0] rfl)
  exact loop4 (4 + 1) 0 s (by omega) (by omega) (fldN_zero) _ _ _ Y (lv_sub hl [1, 2, 0] rfl)
set_option maxHeartbeats 1000000 in
set_option maxRecDepth 100000 in
theorem tM_putOut (l : Launch) (g : GG) (a : Nat → Nat) (ha : apM a) (s : MS) (v : Nat) (hv : v < 8) : Cv l g (wldM g a) (adM a) yM_putOut kM_putOut ({ frames := 0, cells := 0, slots := 0, locals := 0 }) [.ref (a 0), .int (nI (v))] s (m_putOut v s) := by
  have hD := wldM_D (g := g) ha
  refine Cv.of (own := RM) (cc := cM_putOut) (nL := 4) hD (by decide) rfl (Nat.le_of_ble_eq_true rfl) ?_
  intro p e S m args below meth c Q X ret H locs ls Y hl
  have hx := X.1
  have hb := X.2.1
  have hl : lv_has ls 4 [(0, .ref (a 0)), (1, .int (nI (v)))] := hl
  refine lv_iconst (v := (nI (4))) hx hb dM_putOut_0 (by decide) ?_
  refine lv_iload_n hx hb dM_putOut_1 rfl (lv_at hl 1 rfl) ?_
  refine bn_mul hx hb dM_putOut_2 ?_
  refine lv_istore_n (lv' := [(2, .int (nI (4 * v))), (0, .ref (a 0)), (1, .int (nI (v)))]) hx hb dM_putOut_3 rfl hl (by decide) rfl (fun ls hl => ?_)
  have loop4 : ∀ (n4 i4 : Nat) (σ4 : MS), i4 ≤ 4 → 4 < i4 + n4 → (fldN (m_po1 v) s i4 = σ4) → ∀ (H : Heap) (locs : List Loc) (ls : Array Slot), Yw g (wldM g a) (adM a) S H locs σ4 → lv_has ls 4 [(0, .ref (a 0)), (1, .int (nI (v))), (2, .int (nI (4 * v + i4)))] → W p l e ({ frames := 0, cells := 0, slots := 0, locals := 0 }) S m args below meth c H locs 0 0 Q (F0 m 4 ls []) := by
    intro n4
    induction n4 with
    | zero =>
      intro i4 σ4 b1 b2
      exact absurd b2 (by omega)
    | succ n4 ih4 =>
      intro i4 σ4 hi4 hn4 eσ4 H locs ls Y hl
      refine lv_iload_n hx hb dM_putOut_4 rfl (lv_at hl 2 rfl) ?_
      refine lv_iconst (v := (nI (4))) hx hb dM_putOut_5 (by decide) ?_
      refine lv_iload_n hx hb dM_putOut_6 rfl (lv_at hl 1 rfl) ?_
      refine bn_mul hx hb dM_putOut_7 ?_
      refine lv_iconst (v := (nI (4))) hx hb dM_putOut_8 (by decide) ?_
      refine bn_add hx hb dM_putOut_9 ?_
      refine bn_ge (tgt := 80) hx hb dM_putOut_10 (by decide) (by omega) (by omega) (fun h10 => ?_) (fun h10 => ?_)
      · skip
        obtain rfl : i4 = 4 := by omega
        subst eσ4
        refine lv_aload_n hx hb dM_putOut_80 rfl (lv_at hl 0 rfl) ?_
        refine rM_ST X Y dM_putOut_81 ?_
        refine lv_iload_n hx hb dM_putOut_84 rfl (lv_at hl 1 rfl) ?_
        refine lv_iconst (v := (nI (2))) hx hb dM_putOut_85 (by decide) ?_
        refine sM_ST X Y (k := v) (⟨2, by omega⟩) rfl (by omega) dM_putOut_86 (fun H locs Y => ?_)
        refine lv_aload_n hx hb dM_putOut_87 rfl (lv_at hl 0 rfl) ?_
        refine rM_US X Y dM_putOut_88 ?_
        refine lv_iload_n hx hb dM_putOut_91 rfl (lv_at hl 1 rfl) ?_
        refine lv_iconst (v := (nI (0))) hx hb dM_putOut_92 (by decide) ?_
        refine sM_US X Y (k := v) false (by decide) (by omega) dM_putOut_93 (fun H locs Y => ?_)
        have E : uM_US (uM_ST ((fldN (m_po1 v) s 4)) v (⟨2, by omega⟩)) v false = m_putOut v s := rfl
        rw [E] at Y
        exact ret _ _ _ _ Y dM_putOut_94
      · skip
        refine lv_aload_n hx hb dM_putOut_13 rfl (lv_at hl 0 rfl) ?_
        refine rM_MK X Y dM_putOut_14 ?_
        refine lv_iload_n hx hb dM_putOut_17 rfl (lv_at hl 2 rfl) ?_
        refine lv_aload_n hx hb dM_putOut_18 rfl (lv_at hl 0 rfl) ?_
        refine rM_TH X Y dM_putOut_19 ?_
        refine lv_iload_n hx hb dM_putOut_22 rfl (lv_at hl 2 rfl) ?_
        refine lM_TH X Y (k := 4 * v + i4) (by omega) dM_putOut_23 ?_
        refine sM_MK X Y (k := 4 * v + i4) (gM_TH σ4 (4 * v + i4)) rfl (by omega) dM_putOut_24 (fun H locs Y => ?_)
        refine lv_iconst (v := (nI (2))) hx hb dM_putOut_25 (by decide) ?_
        refine lv_iload_n hx hb dM_putOut_26 rfl (lv_at hl 2 rfl) ?_
        refine bn_mul hx hb dM_putOut_27 ?_
        refine lv_istore_n (lv' := [(3, .int (nI (2 * (4 * v + i4)))), (0, .ref (a 0)), (1, .int (nI (v))), (2, .int (nI (4 * v + i4)))]) hx hb dM_putOut_28 rfl hl (by decide) rfl (fun ls hl => ?_)
        have loop29 : ∀ (n29 i29 : Nat) (σ29 : MS), i29 ≤ 2 → 2 < i29 + n29 → (fldN (m_po2 v i4) (uM_MK σ4 (4 * v + i4) (gM_TH σ4 (4 * v + i4))) i29 = σ29) → ∀ (H : Heap) (locs : List Loc) (ls : Array Slot), Yw g (wldM g a) (adM a) S H locs σ29 → lv_has ls 4 [(0, .ref (a 0)), (1, .int (nI (v))), (2, .int (nI (4 * v + i4))), (3, .int (nI (2 * (4 * v + i4) + i29)))] → W p l e ({ frames := 0, cells := 0, slots := 0, locals := 0 }) S m args below meth c H locs 0 0 Q (F0 m 29 ls []) := by
          intro n29
          induction n29 with
          | zero =>
            intro i29 σ29 b1 b2
            exact absurd b2 (by omega)
          | succ n29 ih29 =>
            intro i29 σ29 hi29 hn29 eσ29 H locs ls Y hl
            refine lv_iload_n hx hb dM_putOut_29 rfl (lv_at hl 3 rfl) ?_
            refine lv_iconst (v := (nI (2))) hx hb dM_putOut_30 (by decide) ?_
            refine lv_iload_n hx hb dM_putOut_31 rfl (lv_at hl 2 rfl) ?_
            refine bn_mul hx hb dM_putOut_32 ?_
            refine lv_iconst (v := (nI (2))) hx hb dM_putOut_33 (by decide) ?_
            refine bn_add hx hb dM_putOut_34 ?_
            refine bn_ge (tgt := 74) hx hb dM_putOut_35 (by decide) (by omega) (by omega) (fun h35 => ?_) (fun h35 => ?_)
            · skip
              obtain rfl : i29 = 2 := by omega
              subst eσ29
              refine lv_iinc (v := (nI (4 * v + i4 + 1))) (lv' := [(2, .int (nI (4 * v + i4 + 1))), (0, .ref (a 0)), (1, .int (nI (v))), (3, .int (nI (2 * (4 * v + i4) + 2)))]) hx hb dM_putOut_74 hl (k := 2) rfl (nI_1 _) (by decide) rfl (fun ls hl => ?_)
              refine lv_goto (tgt := 4) hx hb dM_putOut_77 (by decide) ?_
              exact ih4 (i4 + 1) ((fldN (m_po2 v i4) (uM_MK σ4 (4 * v + i4) (gM_TH σ4 (4 * v + i4))) 2)) (by omega) (by omega) (by show m_po1 v i4 (fldN (m_po1 v) s i4) = _; rw [eσ4]; simp [m_po1, h10, h35]) _ _ _ Y (lv_sub hl [1, 2, 0] rfl)
            · skip
              refine lv_aload_n hx hb dM_putOut_38 rfl (lv_at hl 0 rfl) ?_
              refine rM_TH X Y dM_putOut_39 ?_
              refine lv_iload_n hx hb dM_putOut_42 rfl (lv_at hl 2 rfl) ?_
              refine lM_TH X Y (k := 4 * v + i4) (by omega) dM_putOut_43 ?_
              refine bb_eq (tgt := 68) hx hb dM_putOut_44 (by decide) (fun h44 => ?_) (fun h44 => ?_)
              · skip
                refine lv_iinc (v := (nI (2 * (4 * v + i4) + i29 + 1))) (lv' := [(3, .int (nI (2 * (4 * v + i4) + i29 + 1))), (0, .ref (a 0)), (1, .int (nI (v))), (2, .int (nI (4 * v + i4)))]) hx hb dM_putOut_68 hl (k := 3) rfl (nI_1 _) (by decide) rfl (fun ls hl => ?_)
                refine lv_goto (tgt := 29) hx hb dM_putOut_71 (by decide) ?_
                exact ih29 (i29 + 1) σ29 (by omega) (by omega) (by show m_po2 v i4 i29 (fldN (m_po2 v i4) (uM_MK σ4 (4 * v + i4) (gM_TH σ4 (4 * v + i4))) i29) = _; rw [eσ29]; simp [m_po2, h10, h35, h44]) _ _ _ Y (lv_sub hl [1, 2, 3, 0] rfl)
              · skip
                refine lv_aload_n hx hb dM_putOut_47 rfl (lv_at hl 0 rfl) ?_
                refine rM_FD X Y dM_putOut_48 ?_
                refine lv_iload_n hx hb dM_putOut_51 rfl (lv_at hl 3 rfl) ?_
                refine lM_FD X Y (k := 2 * (4 * v + i4) + i29) (by omega) dM_putOut_52 ?_
                refine bo_lt (tgt := 68) hx hb dM_putOut_53 (by decide) (fun h53 => ?_) (fun k1 h53 => ?_)
                · skip
                  refine lv_iinc (v := (nI (2 * (4 * v + i4) + i29 + 1))) (lv' := [(3, .int (nI (2 * (4 * v + i4) + i29 + 1))), (0, .ref (a 0)), (1, .int (nI (v))), (2, .int (nI (4 * v + i4)))]) hx hb dM_putOut_68 hl (k := 3) rfl (nI_1 _) (by decide) rfl (fun ls hl => ?_)
                  refine lv_goto (tgt := 29) hx hb dM_putOut_71 (by decide) ?_
                  exact ih29 (i29 + 1) σ29 (by omega) (by omega) (by show m_po2 v i4 i29 (fldN (m_po2 v i4) (uM_MK σ4 (4 * v + i4) (gM_TH σ4 (4 * v + i4))) i29) = _; rw [eσ29]; simp [m_po2, h10, h35, h44, h53]) _ _ _ Y (lv_sub hl [1, 2, 3, 0] rfl)
                · skip
                  have hq2 := k1.isLt
                  refine lv_aload_n hx hb dM_putOut_56 rfl (lv_at hl 0 rfl) ?_
                  refine rM_MK X Y dM_putOut_57 ?_
                  refine lv_aload_n hx hb dM_putOut_60 rfl (lv_at hl 0 rfl) ?_
                  refine rM_FD X Y dM_putOut_61 ?_
                  refine lv_iload_n hx hb dM_putOut_64 rfl (lv_at hl 3 rfl) ?_
                  refine lM_FD X Y (k := 2 * (4 * v + i4) + i29) (by omega) dM_putOut_65 ?_
                  refine bn_top (y := nI k1.val) (by rw [h53]; rfl) ?_
                  refine lv_iconst (v := (nI (1))) hx hb dM_putOut_66 (by decide) ?_
                  refine sM_MK X Y (k := k1.val) true (by decide) (by omega) dM_putOut_67 (fun H locs Y => ?_)
                  refine lv_iinc (v := (nI (2 * (4 * v + i4) + i29 + 1))) (lv' := [(3, .int (nI (2 * (4 * v + i4) + i29 + 1))), (0, .ref (a 0)), (1, .int (nI (v))), (2, .int (nI (4 * v + i4)))]) hx hb dM_putOut_68 hl (k := 3) rfl (nI_1 _) (by decide) rfl (fun ls hl => ?_)
                  refine lv_goto (tgt := 29) hx hb dM_putOut_71 (by decide) ?_
                  exact ih29 (i29 + 1) (uM_MK σ29 k1.val true) (by omega) (by omega) (by show m_po2 v i4 i29 (fldN (m_po2 v i4) (uM_MK σ4 (4 * v + i4) (gM_TH σ4 (4 * v + i4))) i29) = _; rw [eσ29]; simp [m_po2, h10, h35, h44, h53]) _ _ _ Y (lv_sub hl [1, 2, 3, 0] rfl)
        exact loop29 (2 + 1) 0 ((uM_MK σ4 (4 * v + i4) (gM_TH σ4 (4 * v + i4)))) (by omega) (by omega) (fldN_zero) _ _ _ Y (lv_sub hl [1, 2, 3, 0] rfl)
  exact loop4 (4 + 1) 0 s (by omega) (by omega) (fldN_zero) _ _ _ Y (lv_sub hl [1, 2, 0] rfl)
set_option maxHeartbeats 1000000 in
set_option maxRecDepth 100000 in
theorem tM_choose (l : Launch) (g : GG) (a : Nat → Nat) (ha : apM a) (s : MS) (sp : Int32) (hst : m_stops s sp) : Ci l g (wldM g a) (adM a) yM_choose kM_choose ({ frames := 0, cells := 0, slots := 0, locals := 0 }) [.ref (a 0), .int (sp)] s (nI (m_chp s sp)) (m_cho s sp) := by
  have hD := wldM_D (g := g) ha
  refine Ci.of (own := RM) (cc := cM_choose) (nL := 3) hD (by decide) rfl (Nat.le_of_ble_eq_true rfl) ?_
  intro p e S m args below meth c Q X ret H locs ls Y hl
  have hx := X.1
  have hb := X.2.1
  have hl : lv_has ls 3 [(0, .ref (a 0)), (1, .int (sp))] := hl
  have loop0 : ∀ (n0 i0 : Nat) (σ0 : MS), i0 ≤ 16 → 16 < i0 + n0 → (m_chs sp (16 - i0) σ0 = m_chs sp 16 s) → ∀ (H : Heap) (locs : List Loc) (ls : Array Slot), Yw g (wldM g a) (adM a) S H locs σ0 → lv_has ls 3 [(0, .ref (a 0)), (1, .int (sp))] → W p l e ({ frames := 0, cells := 0, slots := 0, locals := 0 }) S m args below meth c H locs 0 0 Q (F0 m 0 ls []) := by
    intro n0
    induction n0 with
    | zero =>
      intro i0 σ0 b1 b2
      exact absurd b2 (by omega)
    | succ n0 ih0 =>
      intro i0 σ0 hi0 hn0 eσ0 H locs ls Y hl
      refine lv_aload_n hx hb dM_choose_0 rfl (lv_at hl 0 rfl) ?_
      refine rM_ST X Y dM_choose_1 ?_
      refine lv_aload_n hx hb dM_choose_4 rfl (lv_at hl 0 rfl) ?_
      refine rM_HA X Y dM_choose_5 ?_
      have hq1 := (gM_HA σ0).isLt
      refine lM_ST X Y (k := (gM_HA σ0).val) (by omega) dM_choose_8 ?_
      have hq2 := (gM_ST σ0 ((gM_HA σ0).val)).isLt
      refine lv_iconst (v := (nI (1))) hx hb dM_choose_9 (by decide) ?_
      refine bn_ne (tgt := 33) hx hb dM_choose_10 (by decide) (by omega) (by omega) (fun h10 => ?_) (fun h10 => ?_)
      · skip
        have hps : m_pass σ0 sp = true := by simp [m_pass, h10]
        have hlt := m_lt16 hst eσ0 hps hi0
        refine lv_aload_n hx hb dM_choose_33 rfl (lv_at hl 0 rfl) ?_
        refine rM_ST X Y dM_choose_34 ?_
        refine lv_aload_n hx hb dM_choose_37 rfl (lv_at hl 0 rfl) ?_
        refine rM_HA X Y dM_choose_38 ?_
        have hq3 := (gM_HA σ0).isLt
        refine lM_ST X Y (k := (gM_HA σ0).val) (by omega) dM_choose_41 ?_
        have hq4 := (gM_ST σ0 ((gM_HA σ0).val)).isLt
        refine lv_iconst (v := (nI (1))) hx hb dM_choose_42 (by decide) ?_
        refine bn_ne (tgt := 64) hx hb dM_choose_43 (by decide) (by omega) (by omega) (fun _ => ?_) (fun q => absurd q h10)
        refine lv_aload_n hx hb dM_choose_64 rfl (lv_at hl 0 rfl) ?_
        refine lv_aload_n hx hb dM_choose_65 rfl (lv_at hl 0 rfl) ?_
        refine rM_HA X Y dM_choose_66 ?_
        have hq5 := (gM_HA σ0).isLt
        refine lv_iconst (v := (nI (1))) hx hb dM_choose_69 (by decide) ?_
        refine bn_add hx hb dM_choose_70 ?_
        refine lv_bipush (v := (nI (8))) hx hb dM_choose_71 (by decide) ?_
        refine bn_rem hx hb dM_choose_73 (by omega) (by omega) (by omega) ?_
        refine pM_HA X Y (⟨(((gM_HA σ0).val) + 1) % 8, by omega⟩) rfl dM_choose_74 (fun H locs Y => ?_)
        refine lv_goto (tgt := 0) hx hb dM_choose_77 (by decide) ?_
        exact ih0 (i0 + 1) (uM_HA σ0 (⟨(((gM_HA σ0).val) + 1) % 8, by omega⟩)) (by omega) (by omega) (by rw [← eσ0, show 16 - i0 = (16 - (i0 + 1)) + 1 by omega]; simp [m_chs, m_cs1, m_mv, hps, h10]) _ _ _ Y (lv_sub hl [0, 1] rfl)
      · skip
        refine lv_aload_n hx hb dM_choose_13 rfl (lv_at hl 0 rfl) ?_
        refine rM_HA X Y dM_choose_14 ?_
        have hq6 := (gM_HA σ0).isLt
        refine lv_iload_n hx hb dM_choose_17 rfl (lv_at hl 1 rfl) ?_
        refine lv_icmp_eq (tgt := 33) hx hb dM_choose_18 (by decide) (fun h18 => ?_) (fun h18 => ?_)
        · skip
          have hps : m_pass σ0 sp = true := by simp [m_pass, h10, h18]
          have hlt := m_lt16 hst eσ0 hps hi0
          refine lv_aload_n hx hb dM_choose_33 rfl (lv_at hl 0 rfl) ?_
          refine rM_ST X Y dM_choose_34 ?_
          refine lv_aload_n hx hb dM_choose_37 rfl (lv_at hl 0 rfl) ?_
          refine rM_HA X Y dM_choose_38 ?_
          have hq7 := (gM_HA σ0).isLt
          refine lM_ST X Y (k := (gM_HA σ0).val) (by omega) dM_choose_41 ?_
          have hq8 := (gM_ST σ0 ((gM_HA σ0).val)).isLt
          refine lv_iconst (v := (nI (1))) hx hb dM_choose_42 (by decide) ?_
          refine bn_ne (tgt := 64) hx hb dM_choose_43 (by decide) (by omega) (by omega) (fun q => absurd h10 q) (fun _ => ?_)
          refine lv_aload_n hx hb dM_choose_46 rfl (lv_at hl 0 rfl) ?_
          refine rM_HA X Y dM_choose_47 ?_
          have hq9 := (gM_HA σ0).isLt
          refine lv_iload_n hx hb dM_choose_50 rfl (lv_at hl 1 rfl) ?_
          refine lv_icmp_eq (tgt := 64) hx hb dM_choose_51 (by decide) (fun _ => ?_) (fun q => absurd h18 q)
          refine lv_aload_n hx hb dM_choose_64 rfl (lv_at hl 0 rfl) ?_
          refine lv_aload_n hx hb dM_choose_65 rfl (lv_at hl 0 rfl) ?_
          refine rM_HA X Y dM_choose_66 ?_
          have hq10 := (gM_HA σ0).isLt
          refine lv_iconst (v := (nI (1))) hx hb dM_choose_69 (by decide) ?_
          refine bn_add hx hb dM_choose_70 ?_
          refine lv_bipush (v := (nI (8))) hx hb dM_choose_71 (by decide) ?_
          refine bn_rem hx hb dM_choose_73 (by omega) (by omega) (by omega) ?_
          refine pM_HA X Y (⟨(((gM_HA σ0).val) + 1) % 8, by omega⟩) rfl dM_choose_74 (fun H locs Y => ?_)
          refine lv_goto (tgt := 0) hx hb dM_choose_77 (by decide) ?_
          exact ih0 (i0 + 1) (uM_HA σ0 (⟨(((gM_HA σ0).val) + 1) % 8, by omega⟩)) (by omega) (by omega) (by rw [← eσ0, show 16 - i0 = (16 - (i0 + 1)) + 1 by omega]; simp [m_chs, m_cs1, m_mv, hps, h10, h18]) _ _ _ Y (lv_sub hl [0, 1] rfl)
        · skip
          refine lv_aload_n hx hb dM_choose_21 rfl (lv_at hl 0 rfl) ?_
          refine rM_US X Y dM_choose_22 ?_
          refine lv_aload_n hx hb dM_choose_25 rfl (lv_at hl 0 rfl) ?_
          refine rM_HA X Y dM_choose_26 ?_
          have hq11 := (gM_HA σ0).isLt
          refine lM_US X Y (k := (gM_HA σ0).val) (by omega) dM_choose_29 ?_
          refine bb_eq (tgt := 80) hx hb dM_choose_30 (by decide) (fun h30 => ?_) (fun h30 => ?_)
          · skip
            have E2 : σ0 = m_cst s sp := m_cst_of eσ0 (by simp [m_pass, h10, h18, h30])
            rw [E2] at Y
            refine lv_aload_n hx hb dM_choose_80 rfl (lv_at hl 0 rfl) ?_
            refine rM_HA X Y dM_choose_81 ?_
            have hq12 := (gM_HA (m_cst s sp)).isLt
            refine lv_istore_n (lv' := [(2, .int (nI ((gM_HA (m_cst s sp)).val))), (0, .ref (a 0)), (1, .int (sp))]) hx hb dM_choose_84 rfl hl (by decide) rfl (fun ls hl => ?_)
            refine lv_aload_n hx hb dM_choose_85 rfl (lv_at hl 1 rfl) ?_
            refine lv_aload_n hx hb dM_choose_86 rfl (lv_at hl 1 rfl) ?_
            refine rM_HA X Y dM_choose_87 ?_
            have hq13 := (gM_HA (m_cst s sp)).isLt
            refine lv_iconst (v := (nI (1))) hx hb dM_choose_90 (by decide) ?_
            refine bn_add hx hb dM_choose_91 ?_
            refine lv_bipush (v := (nI (8))) hx hb dM_choose_92 (by decide) ?_
            refine bn_rem hx hb dM_choose_94 (by omega) (by omega) (by omega) ?_
            refine pM_HA X Y (⟨(((gM_HA (m_cst s sp)).val) + 1) % 8, by omega⟩) rfl dM_choose_95 (fun H locs Y => ?_)
            refine lv_iload_n hx hb dM_choose_98 rfl (lv_at hl 0 rfl) ?_
            have E : uM_HA (m_cst s sp) (⟨(((gM_HA (m_cst s sp)).val) + 1) % 8, by omega⟩) = m_cho s sp := rfl
            rw [E] at Y
            exact ret _ _ _ _ _ Y (rfl) dM_choose_99
          · skip
            have hps : m_pass σ0 sp = true := by simp [m_pass, h10, h18, h30]
            have hlt := m_lt16 hst eσ0 hps hi0
            refine lv_aload_n hx hb dM_choose_33 rfl (lv_at hl 0 rfl) ?_
            refine rM_ST X Y dM_choose_34 ?_
            refine lv_aload_n hx hb dM_choose_37 rfl (lv_at hl 0 rfl) ?_
            refine rM_HA X Y dM_choose_38 ?_
            have hq14 := (gM_HA σ0).isLt
            refine lM_ST X Y (k := (gM_HA σ0).val) (by omega) dM_choose_41 ?_
            have hq15 := (gM_ST σ0 ((gM_HA σ0).val)).isLt
            refine lv_iconst (v := (nI (1))) hx hb dM_choose_42 (by decide) ?_
            refine bn_ne (tgt := 64) hx hb dM_choose_43 (by decide) (by omega) (by omega) (fun q => absurd h10 q) (fun _ => ?_)
            refine lv_aload_n hx hb dM_choose_46 rfl (lv_at hl 0 rfl) ?_
            refine rM_HA X Y dM_choose_47 ?_
            have hq16 := (gM_HA σ0).isLt
            refine lv_iload_n hx hb dM_choose_50 rfl (lv_at hl 1 rfl) ?_
            refine lv_icmp_eq (tgt := 64) hx hb dM_choose_51 (by decide) (fun q => absurd q h18) (fun _ => ?_)
            refine lv_aload_n hx hb dM_choose_54 rfl (lv_at hl 0 rfl) ?_
            refine rM_US X Y dM_choose_55 ?_
            refine lv_aload_n hx hb dM_choose_58 rfl (lv_at hl 0 rfl) ?_
            refine rM_HA X Y dM_choose_59 ?_
            have hq17 := (gM_HA σ0).isLt
            refine lv_iconst (v := (nI (0))) hx hb dM_choose_62 (by decide) ?_
            refine sM_US X Y (k := (gM_HA σ0).val) false (by decide) (by omega) dM_choose_63 (fun H locs Y => ?_)
            refine lv_aload_n hx hb dM_choose_64 rfl (lv_at hl 0 rfl) ?_
            refine lv_aload_n hx hb dM_choose_65 rfl (lv_at hl 0 rfl) ?_
            refine rM_HA X Y dM_choose_66 ?_
            have hq18 := (gM_HA (uM_US σ0 ((gM_HA σ0).val) false)).isLt
            refine lv_iconst (v := (nI (1))) hx hb dM_choose_69 (by decide) ?_
            refine bn_add hx hb dM_choose_70 ?_
            refine lv_bipush (v := (nI (8))) hx hb dM_choose_71 (by decide) ?_
            refine bn_rem hx hb dM_choose_73 (by omega) (by omega) (by omega) ?_
            refine pM_HA X Y (⟨(((gM_HA (uM_US σ0 ((gM_HA σ0).val) false)).val) + 1) % 8, by omega⟩) rfl dM_choose_74 (fun H locs Y => ?_)
            refine lv_goto (tgt := 0) hx hb dM_choose_77 (by decide) ?_
            exact ih0 (i0 + 1) (uM_HA (uM_US σ0 ((gM_HA σ0).val) false) (⟨(((gM_HA (uM_US σ0 ((gM_HA σ0).val) false)).val) + 1) % 8, by omega⟩)) (by omega) (by omega) (by rw [← eσ0, show 16 - i0 = (16 - (i0 + 1)) + 1 by omega]; simp [m_chs, m_cs1, m_mv, hps, h10, h18, h30]) _ _ _ Y (lv_sub hl [0, 1] rfl)
  exact loop0 (16 + 1) 0 s (by omega) (by omega) (rfl) _ _ _ Y (lv_sub hl [0, 1] rfl)
set_option maxHeartbeats 1000000 in
set_option maxRecDepth 100000 in
theorem tM_putOutOne (l : Launch) (g : GG) (a : Nat → Nat) (ha : apM a) (s : MS) (sp : Int32) (hst : m_stops s sp) : Cv l g (wldM g a) (adM a) yM_putOutOne kM_putOutOne ({ frames := 1, cells := 0, slots := 0, locals := 23 }) [.ref (a 0), .int (sp)] s (m_one sp s) := by
  have hD := wldM_D (g := g) ha
  refine Cv.of (own := RM) (cc := cM_putOutOne) (nL := 3) hD (by decide) rfl (Nat.le_of_ble_eq_true rfl) ?_
  intro p e S m args below meth c Q X ret H locs ls Y hl
  have hx := X.1
  have hb := X.2.1
  have hl : lv_has ls 3 [(0, .ref (a 0)), (1, .int (sp))] := hl
  refine lv_aload_n hx hb dM_putOutOne_0 rfl (lv_at hl 0 rfl) ?_
  refine lv_iload_n hx hb dM_putOutOne_1 rfl (lv_at hl 1 rfl) ?_
  refine cl_vi (na := 1) (rest := []) X hD Y (tM_choose l g a ha s ((sp)) (by assumption)) gM_M_choose (by decide +kernel) rfl rfl rfl ⟨rfl, rfl⟩ ⟨Nat.le_of_ble_eq_true rfl, Nat.le_of_ble_eq_true rfl⟩ ⟨Nat.zero_le _, Nat.zero_le _⟩ hl.1 rfl (Nat.le_of_ble_eq_true rfl) dM_putOutOne_2 (fun H locs Y => ?_)
  have hf1 := m_chp_lt s ((sp))
  refine lv_istore_n (lv' := [(2, .int (nI (m_chp s ((sp))))), (0, .ref (a 0)), (1, .int (sp))]) hx hb dM_putOutOne_5 rfl hl (by decide) rfl (fun ls hl => ?_)
  refine lv_aload_n hx hb dM_putOutOne_6 rfl (lv_at hl 1 rfl) ?_
  refine lv_iload_n hx hb dM_putOutOne_7 rfl (lv_at hl 0 rfl) ?_
  refine cl_vv (na := 1) (rest := []) X hD Y (tM_putOut l g a ha (m_cho s ((sp))) (m_chp s ((sp))) (by omega)) gM_M_putOut (by decide +kernel) rfl rfl rfl ⟨rfl, rfl⟩ ⟨Nat.le_of_ble_eq_true rfl, Nat.le_of_ble_eq_true rfl⟩ ⟨Nat.zero_le _, Nat.zero_le _⟩ hl.1 rfl (Nat.le_of_ble_eq_true rfl) dM_putOutOne_8 (fun H locs Y => ?_)
  have E : m_putOut (m_chp s ((sp))) (m_cho s ((sp))) = m_one sp s := rfl
  rw [E] at Y
  exact ret _ _ _ _ Y dM_putOutOne_11
