/-! written by wip/whole/specH.py -/
set_option maxHeartbeats 1000000 in
set_option maxRecDepth 100000 in
theorem tH_bookmarkAllOf (l : Launch) (g : GG) (a : Nat → Nat) (ha : apH a) (s : HS) (v : Nat) (hv : v < 8) : Cv l g (wldH g a) (adH a) yH_bookmarkAllOf kH_bookmarkAllOf ({ frames := 1, cells := 0, slots := 0, locals := 20 }) [.ref (a 0), .int (nI (v))] s (h_bkall v s) := by
  have hD := wldH_D (g := g) ha
  refine Cv.of (own := RH) (cc := cH_bookmarkAllOf) (nL := 4) hD (by decide) rfl (Nat.le_of_ble_eq_true rfl) ?_
  intro p e S m args below meth c Q X ret H locs ls Y hl
  have hx := X.1
  have hb := X.2.1
  have hl : lv_has ls 4 [(0, .ref (a 0)), (1, .int (nI (v)))] := hl
  refine lv_iload_n hx hb dH_bookmarkAllOf_0 rfl (lv_at hl 1 rfl) ?_
  refine cl_s (na := 1) (rest := []) X Y (tH_firstPlaceOf l v ) gH_H_firstPlaceOf (by decide +kernel) rfl ⟨rfl, rfl⟩ ⟨Nat.le_of_ble_eq_true rfl, Nat.le_of_ble_eq_true rfl⟩ ⟨Nat.zero_le _, Nat.zero_le _⟩ hl.1 rfl (Nat.le_of_ble_eq_true rfl) dH_bookmarkAllOf_1 (fun H locs Y => ?_)
  refine lv_istore_n (lv' := [(2, .int (nI (4 * v))), (0, .ref (a 0)), (1, .int (nI (v)))]) hx hb dH_bookmarkAllOf_4 rfl hl (by decide) rfl (fun ls hl => ?_)
  refine lv_iload_n hx hb dH_bookmarkAllOf_5 rfl (lv_at hl 0 rfl) ?_
  refine lv_istore_n (lv' := [(3, .int (nI (4 * v))), (2, .int (nI (4 * v))), (0, .ref (a 0)), (1, .int (nI (v)))]) hx hb dH_bookmarkAllOf_6 rfl hl (by decide) rfl (fun ls hl => ?_)
  have loop7 : ∀ (n7 i7 : Nat) (σ7 : HS), i7 ≤ 4 → 4 < i7 + n7 → (fldN (h_bk1 v) s i7 = σ7) → ∀ (H : Heap) (locs : List Loc) (ls : Array Slot), Yw g (wldH g a) (adH a) S H locs σ7 → lv_has ls 4 [(2, .int (nI (4 * v))), (0, .ref (a 0)), (1, .int (nI (v))), (3, .int (nI (4 * v + i7)))] → W p l e ({ frames := 1, cells := 0, slots := 0, locals := 20 }) S m args below meth c H locs 0 0 Q (F0 m 7 ls []) := by
    intro n7
    induction n7 with
    | zero =>
      intro i7 σ7 b1 b2
      exact absurd b2 (by omega)
    | succ n7 ih7 =>
      intro i7 σ7 hi7 hn7 eσ7 H locs ls Y hl
      refine lv_iload_n hx hb dH_bookmarkAllOf_7 rfl (lv_at hl 3 rfl) ?_
      refine lv_iload_n hx hb dH_bookmarkAllOf_8 rfl (lv_at hl 0 rfl) ?_
      refine lv_iconst (v := (nI (4))) hx hb dH_bookmarkAllOf_9 (by decide) ?_
      refine bn_add hx hb dH_bookmarkAllOf_10 ?_
      refine bn_ge (tgt := 36) hx hb dH_bookmarkAllOf_11 (by decide) (by omega) (by omega) (fun h11 => ?_) (fun h11 => ?_)
      · skip
        obtain rfl : i7 = 4 := by omega
        subst eσ7
        refine lv_iconst (v := (nI (2))) hx hb dH_bookmarkAllOf_36 (by decide) ?_
        refine lv_iload_n hx hb dH_bookmarkAllOf_37 rfl (lv_at hl 0 rfl) ?_
        refine bn_mul hx hb dH_bookmarkAllOf_38 ?_
        refine lv_istore_n (lv' := [(3, .int (nI (2 * (4 * v)))), (2, .int (nI (4 * v))), (0, .ref (a 0)), (1, .int (nI (v)))]) hx hb dH_bookmarkAllOf_39 rfl hl (by decide) rfl (fun ls hl => ?_)
        have loop40 : ∀ (n40 i40 : Nat) (σ40 : HS), i40 ≤ 8 → 8 < i40 + n40 → (fldN (h_bk2 v) ((fldN (h_bk1 v) s 4)) i40 = σ40) → ∀ (H : Heap) (locs : List Loc) (ls : Array Slot), Yw g (wldH g a) (adH a) S H locs σ40 → lv_has ls 4 [(2, .int (nI (4 * v))), (0, .ref (a 0)), (1, .int (nI (v))), (3, .int (nI (2 * (4 * v) + i40)))] → W p l e ({ frames := 1, cells := 0, slots := 0, locals := 20 }) S m args below meth c H locs 0 0 Q (F0 m 40 ls []) := by
          intro n40
          induction n40 with
          | zero =>
            intro i40 σ40 b1 b2
            exact absurd b2 (by omega)
          | succ n40 ih40 =>
            intro i40 σ40 hi40 hn40 eσ40 H locs ls Y hl
            refine lv_iload_n hx hb dH_bookmarkAllOf_40 rfl (lv_at hl 3 rfl) ?_
            refine lv_iconst (v := (nI (2))) hx hb dH_bookmarkAllOf_41 (by decide) ?_
            refine lv_iload_n hx hb dH_bookmarkAllOf_42 rfl (lv_at hl 0 rfl) ?_
            refine lv_iconst (v := (nI (4))) hx hb dH_bookmarkAllOf_43 (by decide) ?_
            refine bn_add hx hb dH_bookmarkAllOf_44 ?_
            refine bn_mul hx hb dH_bookmarkAllOf_45 ?_
            refine bn_ge (tgt := 77) hx hb dH_bookmarkAllOf_46 (by decide) (by omega) (by omega) (fun h46 => ?_) (fun h46 => ?_)
            · skip
              obtain rfl : i40 = 8 := by omega
              subst eσ40
              have E : (fldN (h_bk2 v) ((fldN (h_bk1 v) s 4)) 8) = h_bkall v s := rfl
              rw [E] at Y
              exact ret _ _ _ _ Y dH_bookmarkAllOf_77
            · skip
              refine lv_aload_n hx hb dH_bookmarkAllOf_49 rfl (lv_at hl 1 rfl) ?_
              refine rH_FD X Y dH_bookmarkAllOf_50 ?_
              refine lv_iload_n hx hb dH_bookmarkAllOf_53 rfl (lv_at hl 3 rfl) ?_
              refine lH_FD X Y (k := 2 * (4 * v) + i40) (by omega) dH_bookmarkAllOf_54 ?_
              refine lv_iconst (v := (-1)) hx hb dH_bookmarkAllOf_55 (by decide) ?_
              refine bo_eq (tgt := 71) hx hb dH_bookmarkAllOf_56 (by decide) (fun h56 => ?_) (fun k2 h56 => ?_)
              · skip
                refine lv_iinc (v := (nI (2 * (4 * v) + i40 + 1))) (lv' := [(3, .int (nI (2 * (4 * v) + i40 + 1))), (2, .int (nI (4 * v))), (0, .ref (a 0)), (1, .int (nI (v)))]) hx hb dH_bookmarkAllOf_71 hl (k := 3) rfl (nI_1 _) (by decide) rfl (fun ls hl => ?_)
                refine lv_goto (tgt := 40) hx hb dH_bookmarkAllOf_74 (by decide) ?_
                exact ih40 (i40 + 1) σ40 (by omega) (by omega) (by show h_bk2 v i40 (fldN (h_bk2 v) ((fldN (h_bk1 v) s 4)) i40) = _; rw [eσ40]; simp [h_bk2, h11, h46, h56]) _ _ _ Y (lv_sub hl [1, 2, 3, 0] rfl)
              · skip
                have hq3 := k2.isLt
                refine lv_aload_n hx hb dH_bookmarkAllOf_59 rfl (lv_at hl 1 rfl) ?_
                refine rH_BM X Y dH_bookmarkAllOf_60 ?_
                refine lv_aload_n hx hb dH_bookmarkAllOf_63 rfl (lv_at hl 1 rfl) ?_
                refine rH_FD X Y dH_bookmarkAllOf_64 ?_
                refine lv_iload_n hx hb dH_bookmarkAllOf_67 rfl (lv_at hl 3 rfl) ?_
                refine lH_FD X Y (k := 2 * (4 * v) + i40) (by omega) dH_bookmarkAllOf_68 ?_
                refine bn_top (y := nI k2.val) (by rw [h56]; rfl) ?_
                refine lv_iconst (v := (nI (1))) hx hb dH_bookmarkAllOf_69 (by decide) ?_
                refine sH_BM X Y (k := k2.val) true (by decide) (by omega) dH_bookmarkAllOf_70 (fun H locs Y => ?_)
                refine lv_iinc (v := (nI (2 * (4 * v) + i40 + 1))) (lv' := [(3, .int (nI (2 * (4 * v) + i40 + 1))), (2, .int (nI (4 * v))), (0, .ref (a 0)), (1, .int (nI (v)))]) hx hb dH_bookmarkAllOf_71 hl (k := 3) rfl (nI_1 _) (by decide) rfl (fun ls hl => ?_)
                refine lv_goto (tgt := 40) hx hb dH_bookmarkAllOf_74 (by decide) ?_
                exact ih40 (i40 + 1) (uH_BM σ40 k2.val true) (by omega) (by omega) (by show h_bk2 v i40 (fldN (h_bk2 v) ((fldN (h_bk1 v) s 4)) i40) = _; rw [eσ40]; simp [h_bk2, h11, h46, h56]) _ _ _ Y (lv_sub hl [1, 2, 3, 0] rfl)
        exact loop40 (8 + 1) 0 (((fldN (h_bk1 v) s 4))) (by omega) (by omega) (fldN_zero) _ _ _ Y (lv_sub hl [1, 2, 3, 0] rfl)
      · skip
        refine lv_aload_n hx hb dH_bookmarkAllOf_14 rfl (lv_at hl 1 rfl) ?_
        refine rH_TK X Y dH_bookmarkAllOf_15 ?_
        refine lv_iload_n hx hb dH_bookmarkAllOf_18 rfl (lv_at hl 3 rfl) ?_
        refine lH_TK X Y (k := 4 * v + i7) (by omega) dH_bookmarkAllOf_19 ?_
        refine bb_eq (tgt := 30) hx hb dH_bookmarkAllOf_20 (by decide) (fun h20 => ?_) (fun h20 => ?_)
        · skip
          refine lv_iinc (v := (nI (4 * v + i7 + 1))) (lv' := [(3, .int (nI (4 * v + i7 + 1))), (2, .int (nI (4 * v))), (0, .ref (a 0)), (1, .int (nI (v)))]) hx hb dH_bookmarkAllOf_30 hl (k := 3) rfl (nI_1 _) (by decide) rfl (fun ls hl => ?_)
          refine lv_goto (tgt := 7) hx hb dH_bookmarkAllOf_33 (by decide) ?_
          exact ih7 (i7 + 1) σ7 (by omega) (by omega) (by show h_bk1 v i7 (fldN (h_bk1 v) s i7) = _; rw [eσ7]; simp [h_bk1, h11, h20]) _ _ _ Y (lv_sub hl [1, 2, 3, 0] rfl)
        · skip
          refine lv_aload_n hx hb dH_bookmarkAllOf_23 rfl (lv_at hl 1 rfl) ?_
          refine rH_BM X Y dH_bookmarkAllOf_24 ?_
          refine lv_iload_n hx hb dH_bookmarkAllOf_27 rfl (lv_at hl 3 rfl) ?_
          refine lv_iconst (v := (nI (1))) hx hb dH_bookmarkAllOf_28 (by decide) ?_
          refine sH_BM X Y (k := 4 * v + i7) true (by decide) (by omega) dH_bookmarkAllOf_29 (fun H locs Y => ?_)
          refine lv_iinc (v := (nI (4 * v + i7 + 1))) (lv' := [(3, .int (nI (4 * v + i7 + 1))), (2, .int (nI (4 * v))), (0, .ref (a 0)), (1, .int (nI (v)))]) hx hb dH_bookmarkAllOf_30 hl (k := 3) rfl (nI_1 _) (by decide) rfl (fun ls hl => ?_)
          refine lv_goto (tgt := 7) hx hb dH_bookmarkAllOf_33 (by decide) ?_
          exact ih7 (i7 + 1) (uH_BM σ7 (4 * v + i7) true) (by omega) (by omega) (by show h_bk1 v i7 (fldN (h_bk1 v) s i7) = _; rw [eσ7]; simp [h_bk1, h11, h20]) _ _ _ Y (lv_sub hl [1, 2, 3, 0] rfl)
  exact loop7 (4 + 1) 0 s (by omega) (by omega) (fldN_zero) _ _ _ Y (lv_sub hl [1, 2, 3, 0] rfl)
set_option maxHeartbeats 1000000 in
set_option maxRecDepth 100000 in
theorem tH_putOut (l : Launch) (g : GG) (a : Nat → Nat) (ha : apH a) (s : HS) (v : Nat) (hv : v < 8) : Cv l g (wldH g a) (adH a) yH_putOut kH_putOut ({ frames := 2, cells := 0, slots := 0, locals := 44 }) [.ref (a 0), .int (nI (v))] s (h_putOut v s) := by
  have hD := wldH_D (g := g) ha
  refine Cv.of (own := RH) (cc := cH_putOut) (nL := 3) hD (by decide) rfl (Nat.le_of_ble_eq_true rfl) ?_
  intro p e S m args below meth c Q X ret H locs ls Y hl
  have hx := X.1
  have hb := X.2.1
  have hl : lv_has ls 3 [(0, .ref (a 0)), (1, .int (nI (v)))] := hl
  refine lv_aload_n hx hb dH_putOut_0 rfl (lv_at hl 0 rfl) ?_
  refine lv_iload_n hx hb dH_putOut_1 rfl (lv_at hl 1 rfl) ?_
  refine cl_vv (na := 1) (rest := []) X hD Y (tH_bookmarkAllOf l g a ha s v (by omega)) gH_H_bookmarkAllOf (by decide +kernel) rfl rfl rfl ⟨rfl, rfl⟩ ⟨Nat.le_of_ble_eq_true rfl, Nat.le_of_ble_eq_true rfl⟩ ⟨Nat.zero_le _, Nat.zero_le _⟩ hl.1 rfl (Nat.le_of_ble_eq_true rfl) dH_putOut_2 (fun H locs Y => ?_)
  refine lv_iconst (v := (nI (0))) hx hb dH_putOut_5 (by decide) ?_
  refine lv_istore_n (lv' := [(2, .int (nI (0))), (0, .ref (a 0)), (1, .int (nI (v)))]) hx hb dH_putOut_6 rfl hl (by decide) rfl (fun ls hl => ?_)
  have loop7 : ∀ (n7 i7 : Nat) (σ7 : HS), i7 ≤ 8 → 8 < i7 + n7 → (fldN (h_cinc v) (h_bkall v s) i7 = σ7) → ∀ (H : Heap) (locs : List Loc) (ls : Array Slot), Yw g (wldH g a) (adH a) S H locs σ7 → lv_has ls 3 [(0, .ref (a 0)), (1, .int (nI (v))), (2, .int (nI (i7)))] → W p l e ({ frames := 2, cells := 0, slots := 0, locals := 44 }) S m args below meth c H locs 0 0 Q (F0 m 7 ls []) := by
    intro n7
    induction n7 with
    | zero =>
      intro i7 σ7 b1 b2
      exact absurd b2 (by omega)
    | succ n7 ih7 =>
      intro i7 σ7 hi7 hn7 eσ7 H locs ls Y hl
      refine lv_iload_n hx hb dH_putOut_7 rfl (lv_at hl 2 rfl) ?_
      refine lv_bipush (v := (nI (8))) hx hb dH_putOut_8 (by decide) ?_
      refine bn_ge (tgt := 38) hx hb dH_putOut_10 (by decide) (by omega) (by omega) (fun h10 => ?_) (fun h10 => ?_)
      · skip
        obtain rfl : i7 = 8 := by omega
        subst eσ7
        refine lv_aload_n hx hb dH_putOut_38 rfl (lv_at hl 0 rfl) ?_
        refine rH_ST X Y dH_putOut_39 ?_
        refine lv_iload_n hx hb dH_putOut_42 rfl (lv_at hl 1 rfl) ?_
        refine lv_iconst (v := (nI (2))) hx hb dH_putOut_43 (by decide) ?_
        refine sH_ST X Y (k := v) (⟨2, by omega⟩) rfl (by omega) dH_putOut_44 (fun H locs Y => ?_)
        refine lv_aload_n hx hb dH_putOut_45 rfl (lv_at hl 0 rfl) ?_
        refine rH_US X Y dH_putOut_46 ?_
        refine lv_iload_n hx hb dH_putOut_49 rfl (lv_at hl 1 rfl) ?_
        refine lv_iconst (v := (nI (0))) hx hb dH_putOut_50 (by decide) ?_
        refine sH_US X Y (k := v) false (by decide) (by omega) dH_putOut_51 (fun H locs Y => ?_)
        have E : uH_US (uH_ST ((fldN (h_cinc v) (h_bkall v s) 8)) v (⟨2, by omega⟩)) v false = h_putOut v s := rfl
        rw [E] at Y
        exact ret _ _ _ _ Y dH_putOut_52
      · skip
        refine lv_aload_n hx hb dH_putOut_13 rfl (lv_at hl 0 rfl) ?_
        refine lv_iload_n hx hb dH_putOut_14 rfl (lv_at hl 1 rfl) ?_
        refine lv_iload_n hx hb dH_putOut_15 rfl (lv_at hl 2 rfl) ?_
        refine cl_vi (na := 2) (rest := []) X hD Y (tH_refersTo l g a ha σ7 v i7 (by omega) (by omega)) gH_H_refersTo (by decide +kernel) rfl rfl rfl ⟨rfl, rfl⟩ ⟨Nat.le_of_ble_eq_true rfl, Nat.le_of_ble_eq_true rfl⟩ ⟨Nat.zero_le _, Nat.zero_le _⟩ hl.1 rfl (Nat.le_of_ble_eq_true rfl) dH_putOut_16 (fun H locs Y => ?_)
        refine bb_eq (tgt := 32) hx hb dH_putOut_19 (by decide) (fun h19 => ?_) (fun h19 => ?_)
        · skip
          refine lv_iinc (v := (nI (i7 + 1))) (lv' := [(2, .int (nI (i7 + 1))), (0, .ref (a 0)), (1, .int (nI (v)))]) hx hb dH_putOut_32 hl (k := 2) rfl (nI_1 _) (by decide) rfl (fun ls hl => ?_)
          refine lv_goto (tgt := 7) hx hb dH_putOut_35 (by decide) ?_
          exact ih7 (i7 + 1) σ7 (by omega) (by omega) (by show h_cinc v i7 (fldN (h_cinc v) (h_bkall v s) i7) = _; rw [eσ7]; simp [h_cinc, h10, h19]) _ _ _ Y (lv_sub hl [1, 2, 0] rfl)
        · skip
          refine lv_aload_n hx hb dH_putOut_22 rfl (lv_at hl 0 rfl) ?_
          refine rH_CT X Y dH_putOut_23 ?_
          refine lv_iload_n hx hb dH_putOut_26 rfl (lv_at hl 2 rfl) ?_
          refine lv_dup2_11 hx hb dH_putOut_27 rfl rfl ?_
          refine lH_CT X Y (k := i7) (by omega) dH_putOut_28 ?_
          refine lv_iconst (v := (nI (1))) hx hb dH_putOut_29 (by decide) ?_
          refine lv_iadd hx hb dH_putOut_30 ?_
          refine sH_CT X Y (k := i7) (((gH_CT σ7 i7) + (nI (1)))) rfl (by omega) dH_putOut_31 (fun H locs Y => ?_)
          refine lv_iinc (v := (nI (i7 + 1))) (lv' := [(2, .int (nI (i7 + 1))), (0, .ref (a 0)), (1, .int (nI (v)))]) hx hb dH_putOut_32 hl (k := 2) rfl (nI_1 _) (by decide) rfl (fun ls hl => ?_)
          refine lv_goto (tgt := 7) hx hb dH_putOut_35 (by decide) ?_
          exact ih7 (i7 + 1) (uH_CT σ7 i7 (((gH_CT σ7 i7) + (nI (1))))) (by omega) (by omega) (by show h_cinc v i7 (fldN (h_cinc v) (h_bkall v s) i7) = _; rw [eσ7]; simp [h_cinc, h10, h19]) _ _ _ Y (lv_sub hl [1, 2, 0] rfl)
  exact loop7 (8 + 1) 0 ((h_bkall v s)) (by omega) (by omega) (fldN_zero) _ _ _ Y (lv_sub hl [1, 2, 0] rfl)
set_option maxHeartbeats 1000000 in
set_option maxRecDepth 100000 in
theorem tH_forgetBookmarksUnlessCounted (l : Launch) (g : GG) (a : Nat → Nat) (ha : apH a) (s : HS) (w : Nat) (hw : w < 8) : Cv l g (wldH g a) (adH a) yH_forgetBookmarksUnlessCounted kH_forgetBookmarksUnlessCounted ({ frames := 1, cells := 0, slots := 0, locals := 20 }) [.ref (a 0), .int (nI (w))] s (h_forget w s) := by
  have hD := wldH_D (g := g) ha
  refine Cv.of (own := RH) (cc := cH_forgetBookmarksUnlessCounted) (nL := 4) hD (by decide) rfl (Nat.le_of_ble_eq_true rfl) ?_
  intro p e S m args below meth c Q X ret H locs ls Y hl
  have hx := X.1
  have hb := X.2.1
  have hl : lv_has ls 4 [(0, .ref (a 0)), (1, .int (nI (w)))] := hl
  refine lv_aload_n hx hb dH_forgetBookmarksUnlessCounted_0 rfl (lv_at hl 0 rfl) ?_
  refine rH_ST X Y dH_forgetBookmarksUnlessCounted_1 ?_
  refine lv_iload_n hx hb dH_forgetBookmarksUnlessCounted_4 rfl (lv_at hl 1 rfl) ?_
  refine lH_ST X Y (k := w) (by omega) dH_forgetBookmarksUnlessCounted_5 ?_
  have hq1 := (gH_ST s w).isLt
  refine lv_iconst (v := (nI (1))) hx hb dH_forgetBookmarksUnlessCounted_6 (by decide) ?_
  refine bn_ne (tgt := 19) hx hb dH_forgetBookmarksUnlessCounted_7 (by decide) (by omega) (by omega) (fun h7 => ?_) (fun h7 => ?_)
  · skip
    have E : s = h_forget w s := by simp [h_forget, h7]
    rw [E] at Y
    exact ret _ _ _ _ Y dH_forgetBookmarksUnlessCounted_19
  · skip
    refine lv_aload_n hx hb dH_forgetBookmarksUnlessCounted_10 rfl (lv_at hl 0 rfl) ?_
    refine rH_CT X Y dH_forgetBookmarksUnlessCounted_11 ?_
    refine lv_iload_n hx hb dH_forgetBookmarksUnlessCounted_14 rfl (lv_at hl 1 rfl) ?_
    refine lH_CT X Y (k := w) (by omega) dH_forgetBookmarksUnlessCounted_15 ?_
    refine lv_if_eq (tgt := 20) hx hb dH_forgetBookmarksUnlessCounted_16 (by decide) (fun h16 => ?_) (fun h16 => ?_)
    · skip
      refine lv_iload_n hx hb dH_forgetBookmarksUnlessCounted_20 rfl (lv_at hl 1 rfl) ?_
      refine cl_s (na := 1) (rest := []) X Y (tH_firstPlaceOf l w ) gH_H_firstPlaceOf (by decide +kernel) rfl ⟨rfl, rfl⟩ ⟨Nat.le_of_ble_eq_true rfl, Nat.le_of_ble_eq_true rfl⟩ ⟨Nat.zero_le _, Nat.zero_le _⟩ hl.1 rfl (Nat.le_of_ble_eq_true rfl) dH_forgetBookmarksUnlessCounted_21 (fun H locs Y => ?_)
      refine lv_istore_n (lv' := [(2, .int (nI (4 * w))), (0, .ref (a 0)), (1, .int (nI (w)))]) hx hb dH_forgetBookmarksUnlessCounted_24 rfl hl (by decide) rfl (fun ls hl => ?_)
      refine lv_iload_n hx hb dH_forgetBookmarksUnlessCounted_25 rfl (lv_at hl 0 rfl) ?_
      refine lv_istore_n (lv' := [(3, .int (nI (4 * w))), (2, .int (nI (4 * w))), (0, .ref (a 0)), (1, .int (nI (w)))]) hx hb dH_forgetBookmarksUnlessCounted_26 rfl hl (by decide) rfl (fun ls hl => ?_)
      have loop27 : ∀ (n27 i27 : Nat) (σ27 : HS), i27 ≤ 4 → 4 < i27 + n27 → (fldN (h_fg1 w) s i27 = σ27) → ∀ (H : Heap) (locs : List Loc) (ls : Array Slot), Yw g (wldH g a) (adH a) S H locs σ27 → lv_has ls 4 [(2, .int (nI (4 * w))), (0, .ref (a 0)), (1, .int (nI (w))), (3, .int (nI (4 * w + i27)))] → W p l e ({ frames := 1, cells := 0, slots := 0, locals := 20 }) S m args below meth c H locs 0 0 Q (F0 m 27 ls []) := by
        intro n27
        induction n27 with
        | zero =>
          intro i27 σ27 b1 b2
          exact absurd b2 (by omega)
        | succ n27 ih27 =>
          intro i27 σ27 hi27 hn27 eσ27 H locs ls Y hl
          refine lv_iload_n hx hb dH_forgetBookmarksUnlessCounted_27 rfl (lv_at hl 3 rfl) ?_
          refine lv_iload_n hx hb dH_forgetBookmarksUnlessCounted_28 rfl (lv_at hl 0 rfl) ?_
          refine lv_iconst (v := (nI (4))) hx hb dH_forgetBookmarksUnlessCounted_29 (by decide) ?_
          refine bn_add hx hb dH_forgetBookmarksUnlessCounted_30 ?_
          refine bn_ge (tgt := 47) hx hb dH_forgetBookmarksUnlessCounted_31 (by decide) (by omega) (by omega) (fun h31 => ?_) (fun h31 => ?_)
          · skip
            obtain rfl : i27 = 4 := by omega
            subst eσ27
            have E : (fldN (h_fg1 w) s 4) = h_forget w s := by simp [h_forget, h7, h16, h31]
            rw [E] at Y
            exact ret _ _ _ _ Y dH_forgetBookmarksUnlessCounted_47
          · skip
            refine lv_aload_n hx hb dH_forgetBookmarksUnlessCounted_34 rfl (lv_at hl 1 rfl) ?_
            refine rH_BM X Y dH_forgetBookmarksUnlessCounted_35 ?_
            refine lv_iload_n hx hb dH_forgetBookmarksUnlessCounted_38 rfl (lv_at hl 3 rfl) ?_
            refine lv_iconst (v := (nI (0))) hx hb dH_forgetBookmarksUnlessCounted_39 (by decide) ?_
            refine sH_BM X Y (k := 4 * w + i27) false (by decide) (by omega) dH_forgetBookmarksUnlessCounted_40 (fun H locs Y => ?_)
            refine lv_iinc (v := (nI (4 * w + i27 + 1))) (lv' := [(3, .int (nI (4 * w + i27 + 1))), (2, .int (nI (4 * w))), (0, .ref (a 0)), (1, .int (nI (w)))]) hx hb dH_forgetBookmarksUnlessCounted_41 hl (k := 3) rfl (nI_1 _) (by decide) rfl (fun ls hl => ?_)
            refine lv_goto (tgt := 27) hx hb dH_forgetBookmarksUnlessCounted_44 (by decide) ?_
            exact ih27 (i27 + 1) (uH_BM σ27 (4 * w + i27) false) (by omega) (by omega) (by show h_fg1 w i27 (fldN (h_fg1 w) s i27) = _; rw [eσ27]; simp [h_fg1, h7, h16, h31]) _ _ _ Y (lv_sub hl [1, 2, 3, 0] rfl)
      exact loop27 (4 + 1) 0 s (by omega) (by omega) (fldN_zero) _ _ _ Y (lv_sub hl [1, 2, 3, 0] rfl)
    · skip
      have E : s = h_forget w s := by simp [h_forget, h7, h16]
      rw [E] at Y
      exact ret _ _ _ _ Y dH_forgetBookmarksUnlessCounted_19
set_option maxHeartbeats 1000000 in
set_option maxRecDepth 100000 in
theorem tH_bringIn (l : Launch) (g : GG) (a : Nat → Nat) (ha : apH a) (s : HS) (v : Nat) (hv : v < 8) : Cv l g (wldH g a) (adH a) yH_bringIn kH_bringIn ({ frames := 2, cells := 0, slots := 0, locals := 44 }) [.ref (a 0), .int (nI (v))] s (h_bringIn v s) := by
  have hD := wldH_D (g := g) ha
  refine Cv.of (own := RH) (cc := cH_bringIn) (nL := 3) hD (by decide) rfl (Nat.le_of_ble_eq_true rfl) ?_
  intro p e S m args below meth c Q X ret H locs ls Y hl
  have hx := X.1
  have hb := X.2.1
  have hl : lv_has ls 3 [(0, .ref (a 0)), (1, .int (nI (v)))] := hl
  refine lv_aload_n hx hb dH_bringIn_0 rfl (lv_at hl 0 rfl) ?_
  refine rH_ST X Y dH_bringIn_1 ?_
  refine lv_iload_n hx hb dH_bringIn_4 rfl (lv_at hl 1 rfl) ?_
  refine lv_iconst (v := (nI (1))) hx hb dH_bringIn_5 (by decide) ?_
  refine sH_ST X Y (k := v) (⟨1, by omega⟩) rfl (by omega) dH_bringIn_6 (fun H locs Y => ?_)
  refine lv_aload_n hx hb dH_bringIn_7 rfl (lv_at hl 0 rfl) ?_
  refine rH_US X Y dH_bringIn_8 ?_
  refine lv_iload_n hx hb dH_bringIn_11 rfl (lv_at hl 1 rfl) ?_
  refine lv_iconst (v := (nI (0))) hx hb dH_bringIn_12 (by decide) ?_
  refine sH_US X Y (k := v) false (by decide) (by omega) dH_bringIn_13 (fun H locs Y => ?_)
  refine lv_iconst (v := (nI (0))) hx hb dH_bringIn_14 (by decide) ?_
  refine lv_istore_n (lv' := [(2, .int (nI (0))), (0, .ref (a 0)), (1, .int (nI (v)))]) hx hb dH_bringIn_15 rfl hl (by decide) rfl (fun ls hl => ?_)
  have loop16 : ∀ (n16 i16 : Nat) (σ16 : HS), i16 ≤ 8 → 8 < i16 + n16 → (fldN (h_bi1 v) (uH_US (uH_ST s v (⟨1, by omega⟩)) v false) i16 = σ16) → ∀ (H : Heap) (locs : List Loc) (ls : Array Slot), Yw g (wldH g a) (adH a) S H locs σ16 → lv_has ls 3 [(0, .ref (a 0)), (1, .int (nI (v))), (2, .int (nI (i16)))] → W p l e ({ frames := 2, cells := 0, slots := 0, locals := 44 }) S m args below meth c H locs 0 0 Q (F0 m 16 ls []) := by
    intro n16
    induction n16 with
    | zero =>
      intro i16 σ16 b1 b2
      exact absurd b2 (by omega)
    | succ n16 ih16 =>
      intro i16 σ16 hi16 hn16 eσ16 H locs ls Y hl
      refine lv_iload_n hx hb dH_bringIn_16 rfl (lv_at hl 2 rfl) ?_
      refine lv_bipush (v := (nI (8))) hx hb dH_bringIn_17 (by decide) ?_
      refine bn_ge (tgt := 52) hx hb dH_bringIn_19 (by decide) (by omega) (by omega) (fun h19 => ?_) (fun h19 => ?_)
      · skip
        obtain rfl : i16 = 8 := by omega
        subst eσ16
        refine lv_aload_n hx hb dH_bringIn_52 rfl (lv_at hl 0 rfl) ?_
        refine lv_iload_n hx hb dH_bringIn_53 rfl (lv_at hl 1 rfl) ?_
        refine cl_vv (na := 1) (rest := []) X hD Y (tH_forgetBookmarksUnlessCounted l g a ha ((fldN (h_bi1 v) (uH_US (uH_ST s v (⟨1, by omega⟩)) v false) 8)) v (by omega)) gH_H_forgetBookmarksUnlessCounted (by decide +kernel) rfl rfl rfl ⟨rfl, rfl⟩ ⟨Nat.le_of_ble_eq_true rfl, Nat.le_of_ble_eq_true rfl⟩ ⟨Nat.zero_le _, Nat.zero_le _⟩ hl.1 rfl (Nat.le_of_ble_eq_true rfl) dH_bringIn_54 (fun H locs Y => ?_)
        have E : h_forget v ((fldN (h_bi1 v) (uH_US (uH_ST s v (⟨1, by omega⟩)) v false) 8)) = h_bringIn v s := rfl
        rw [E] at Y
        exact ret _ _ _ _ Y dH_bringIn_57
      · skip
        refine lv_aload_n hx hb dH_bringIn_22 rfl (lv_at hl 0 rfl) ?_
        refine lv_iload_n hx hb dH_bringIn_23 rfl (lv_at hl 1 rfl) ?_
        refine lv_iload_n hx hb dH_bringIn_24 rfl (lv_at hl 2 rfl) ?_
        refine cl_vi (na := 2) (rest := []) X hD Y (tH_refersTo l g a ha σ16 v i16 (by omega) (by omega)) gH_H_refersTo (by decide +kernel) rfl rfl rfl ⟨rfl, rfl⟩ ⟨Nat.le_of_ble_eq_true rfl, Nat.le_of_ble_eq_true rfl⟩ ⟨Nat.zero_le _, Nat.zero_le _⟩ hl.1 rfl (Nat.le_of_ble_eq_true rfl) dH_bringIn_25 (fun H locs Y => ?_)
        refine bb_eq (tgt := 46) hx hb dH_bringIn_28 (by decide) (fun h28 => ?_) (fun h28 => ?_)
        · skip
          refine lv_iinc (v := (nI (i16 + 1))) (lv' := [(2, .int (nI (i16 + 1))), (0, .ref (a 0)), (1, .int (nI (v)))]) hx hb dH_bringIn_46 hl (k := 2) rfl (nI_1 _) (by decide) rfl (fun ls hl => ?_)
          refine lv_goto (tgt := 16) hx hb dH_bringIn_49 (by decide) ?_
          exact ih16 (i16 + 1) σ16 (by omega) (by omega) (by show h_bi1 v i16 (fldN (h_bi1 v) (uH_US (uH_ST s v (⟨1, by omega⟩)) v false) i16) = _; rw [eσ16]; simp [h_bi1, h19, h28]) _ _ _ Y (lv_sub hl [1, 2, 0] rfl)
        · skip
          refine lv_aload_n hx hb dH_bringIn_31 rfl (lv_at hl 0 rfl) ?_
          refine rH_CT X Y dH_bringIn_32 ?_
          refine lv_iload_n hx hb dH_bringIn_35 rfl (lv_at hl 2 rfl) ?_
          refine lv_dup2_11 hx hb dH_bringIn_36 rfl rfl ?_
          refine lH_CT X Y (k := i16) (by omega) dH_bringIn_37 ?_
          refine lv_iconst (v := (nI (1))) hx hb dH_bringIn_38 (by decide) ?_
          refine lv_isub hx hb dH_bringIn_39 ?_
          refine sH_CT X Y (k := i16) (((gH_CT σ16 i16) - (nI (1)))) rfl (by omega) dH_bringIn_40 (fun H locs Y => ?_)
          refine lv_aload_n hx hb dH_bringIn_41 rfl (lv_at hl 0 rfl) ?_
          refine lv_iload_n hx hb dH_bringIn_42 rfl (lv_at hl 2 rfl) ?_
          refine cl_vv (na := 1) (rest := []) X hD Y (tH_forgetBookmarksUnlessCounted l g a ha (uH_CT σ16 i16 (((gH_CT σ16 i16) - (nI (1))))) i16 (by omega)) gH_H_forgetBookmarksUnlessCounted (by decide +kernel) rfl rfl rfl ⟨rfl, rfl⟩ ⟨Nat.le_of_ble_eq_true rfl, Nat.le_of_ble_eq_true rfl⟩ ⟨Nat.zero_le _, Nat.zero_le _⟩ hl.1 rfl (Nat.le_of_ble_eq_true rfl) dH_bringIn_43 (fun H locs Y => ?_)
          refine lv_iinc (v := (nI (i16 + 1))) (lv' := [(2, .int (nI (i16 + 1))), (0, .ref (a 0)), (1, .int (nI (v)))]) hx hb dH_bringIn_46 hl (k := 2) rfl (nI_1 _) (by decide) rfl (fun ls hl => ?_)
          refine lv_goto (tgt := 16) hx hb dH_bringIn_49 (by decide) ?_
          exact ih16 (i16 + 1) (h_forget i16 (uH_CT σ16 i16 (((gH_CT σ16 i16) - (nI (1)))))) (by omega) (by omega) (by show h_bi1 v i16 (fldN (h_bi1 v) (uH_US (uH_ST s v (⟨1, by omega⟩)) v false) i16) = _; rw [eσ16]; simp [h_bi1, h19, h28]) _ _ _ Y (lv_sub hl [1, 2, 0] rfl)
  exact loop16 (8 + 1) 0 ((uH_US (uH_ST s v (⟨1, by omega⟩)) v false)) (by omega) (by omega) (fldN_zero) _ _ _ Y (lv_sub hl [1, 2, 0] rfl)
set_option maxHeartbeats 1000000 in
set_option maxRecDepth 100000 in
theorem tH_makeRoomForPage (l : Launch) (g : GG) (a : Nat → Nat) (ha : apH a) (s : HS)  : Cv l g (wldH g a) (adH a) yH_makeRoomForPage kH_makeRoomForPage ({ frames := 3, cells := 0, slots := 0, locals := 66 }) [.ref (a 0)] s (h_room s) := by
  have hD := wldH_D (g := g) ha
  refine Cv.of (own := RH) (cc := cH_makeRoomForPage) (nL := 1) hD (by decide) rfl (Nat.le_of_ble_eq_true rfl) ?_
  intro p e S m args below meth c Q X ret H locs ls Y hl
  have hx := X.1
  have hb := X.2.1
  have hl : lv_has ls 1 [(0, .ref (a 0))] := hl
  refine lv_aload_n hx hb dH_makeRoomForPage_0 rfl (lv_at hl 0 rfl) ?_
  refine cl_vi (na := 0) (rest := []) X hD Y (tH_pagesIn l g a ha s  ) gH_H_pagesIn (by decide +kernel) rfl rfl rfl ⟨rfl, rfl⟩ ⟨Nat.le_of_ble_eq_true rfl, Nat.le_of_ble_eq_true rfl⟩ ⟨Nat.zero_le _, Nat.zero_le _⟩ hl.1 rfl (Nat.le_of_ble_eq_true rfl) dH_makeRoomForPage_1 (fun H locs Y => ?_)
  have hf1 := h_in_le s
  refine lv_aload_n hx hb dH_makeRoomForPage_4 rfl (lv_at hl 0 rfl) ?_
  refine rH_BU X Y dH_makeRoomForPage_5 ?_
  have hq2 := (gH_BU s).isLt
  refine bn_lt (tgt := 20) hx hb dH_makeRoomForPage_8 (by decide) (by omega) (by omega) (fun h8 => ?_) (fun h8 => ?_)
  · skip
    have E : s = h_room s := by first | (rw [h_room, if_pos h8]) | (rw [h_room, if_neg (Nat.not_lt_of_le h8)])
    rw [E] at Y
    exact ret _ _ _ _ Y dH_makeRoomForPage_20
  · skip
    refine lv_aload_n hx hb dH_makeRoomForPage_11 rfl (lv_at hl 0 rfl) ?_
    refine lv_aload_n hx hb dH_makeRoomForPage_12 rfl (lv_at hl 0 rfl) ?_
    refine lv_iconst (v := (-1)) hx hb dH_makeRoomForPage_13 (by decide) ?_
    refine cl_vi (na := 1) (rest := [.ref (a 0)]) X hD Y (tH_choose l g a ha s ((-1)) ) gH_H_choose (by decide +kernel) rfl rfl rfl ⟨rfl, rfl⟩ ⟨Nat.le_of_ble_eq_true rfl, Nat.le_of_ble_eq_true rfl⟩ ⟨Nat.zero_le _, Nat.zero_le _⟩ hl.1 rfl (Nat.le_of_ble_eq_true rfl) dH_makeRoomForPage_14 (fun H locs Y => ?_)
    have hf3 := h_chp_lt s ((-1))
    refine cl_vv (na := 1) (rest := []) X hD Y (tH_putOut l g a ha (h_cho s ((-1))) (h_chp s ((-1))) (by omega)) gH_H_putOut (by decide +kernel) rfl rfl rfl ⟨rfl, rfl⟩ ⟨Nat.le_of_ble_eq_true rfl, Nat.le_of_ble_eq_true rfl⟩ ⟨Nat.zero_le _, Nat.zero_le _⟩ hl.1 rfl (Nat.le_of_ble_eq_true rfl) dH_makeRoomForPage_17 (fun H locs Y => ?_)
    have E : h_putOut (h_chp s ((-1))) (h_cho s ((-1))) = h_room s := by first | (rw [h_room, if_pos h8]) | (rw [h_room, if_neg (Nat.not_lt_of_le h8)])
    rw [E] at Y
    exact ret _ _ _ _ Y dH_makeRoomForPage_20
set_option maxHeartbeats 1000000 in
set_option maxRecDepth 100000 in
theorem tH_touch (l : Launch) (g : GG) (a : Nat → Nat) (ha : apH a) (s : HS) (v : Nat) (hv : v < 8) : Cv l g (wldH g a) (adH a) yH_touch kH_touch ({ frames := 4, cells := 0, slots := 0, locals := 86 }) [.ref (a 0), .int (nI (v))] s (h_touch v s) := by
  have hD := wldH_D (g := g) ha
  refine Cv.of (own := RH) (cc := cH_touch) (nL := 2) hD (by decide) rfl (Nat.le_of_ble_eq_true rfl) ?_
  intro p e S m args below meth c Q X ret H locs ls Y hl
  have hx := X.1
  have hb := X.2.1
  have hl : lv_has ls 2 [(0, .ref (a 0)), (1, .int (nI (v)))] := hl
  refine lv_aload_n hx hb dH_touch_0 rfl (lv_at hl 0 rfl) ?_
  refine rH_ST X Y dH_touch_1 ?_
  refine lv_iload_n hx hb dH_touch_4 rfl (lv_at hl 1 rfl) ?_
  refine lH_ST X Y (k := v) (by omega) dH_touch_5 ?_
  have hq1 := (gH_ST s v).isLt
  refine lv_iconst (v := (nI (2))) hx hb dH_touch_6 (by decide) ?_
  refine bn_ne (tgt := 29) hx hb dH_touch_7 (by decide) (by omega) (by omega) (fun h7 => ?_) (fun h7 => ?_)
  · skip
    refine lv_aload_n hx hb dH_touch_29 rfl (lv_at hl 0 rfl) ?_
    refine rH_US X Y dH_touch_30 ?_
    refine lv_iload_n hx hb dH_touch_33 rfl (lv_at hl 1 rfl) ?_
    refine lv_iconst (v := (nI (1))) hx hb dH_touch_34 (by decide) ?_
    refine sH_US X Y (k := v) true (by decide) (by omega) dH_touch_35 (fun H locs Y => ?_)
    have E : uH_US s v true = h_touch v s := by simp [h_touch, h_fi, h7]
    rw [E] at Y
    exact ret _ _ _ _ Y dH_touch_36
  · skip
    refine lv_aload_n hx hb dH_touch_10 rfl (lv_at hl 0 rfl) ?_
    refine lv_dup hx hb dH_touch_11 rfl ?_
    refine rH_FA X Y dH_touch_12 ?_
    refine lv_iconst (v := (nI (1))) hx hb dH_touch_15 (by decide) ?_
    refine lv_iadd hx hb dH_touch_16 ?_
    refine pH_FA X Y (((gH_FA s) + (nI (1)))) rfl dH_touch_17 (fun H locs Y => ?_)
    refine lv_aload_n hx hb dH_touch_20 rfl (lv_at hl 0 rfl) ?_
    refine cl_vv (na := 0) (rest := []) X hD Y (tH_makeRoomForPage l g a ha (uH_FA s (((gH_FA s) + (nI (1)))))  ) gH_H_makeRoomForPage (by decide +kernel) rfl rfl rfl ⟨rfl, rfl⟩ ⟨Nat.le_of_ble_eq_true rfl, Nat.le_of_ble_eq_true rfl⟩ ⟨Nat.zero_le _, Nat.zero_le _⟩ hl.1 rfl (Nat.le_of_ble_eq_true rfl) dH_touch_21 (fun H locs Y => ?_)
    refine lv_aload_n hx hb dH_touch_24 rfl (lv_at hl 0 rfl) ?_
    refine lv_iload_n hx hb dH_touch_25 rfl (lv_at hl 1 rfl) ?_
    refine cl_vv (na := 1) (rest := []) X hD Y (tH_bringIn l g a ha (h_room (uH_FA s (((gH_FA s) + (nI (1)))))) v (by omega)) gH_H_bringIn (by decide +kernel) rfl rfl rfl ⟨rfl, rfl⟩ ⟨Nat.le_of_ble_eq_true rfl, Nat.le_of_ble_eq_true rfl⟩ ⟨Nat.zero_le _, Nat.zero_le _⟩ hl.1 rfl (Nat.le_of_ble_eq_true rfl) dH_touch_26 (fun H locs Y => ?_)
    refine lv_aload_n hx hb dH_touch_29 rfl (lv_at hl 0 rfl) ?_
    refine rH_US X Y dH_touch_30 ?_
    refine lv_iload_n hx hb dH_touch_33 rfl (lv_at hl 1 rfl) ?_
    refine lv_iconst (v := (nI (1))) hx hb dH_touch_34 (by decide) ?_
    refine sH_US X Y (k := v) true (by decide) (by omega) dH_touch_35 (fun H locs Y => ?_)
    have E : uH_US (h_bringIn v (h_room (uH_FA s (((gH_FA s) + (nI (1))))))) v true = h_touch v s := by simp [h_touch, h_fi, h7]
    rw [E] at Y
    exact ret _ _ _ _ Y dH_touch_36
set_option maxHeartbeats 1000000 in
set_option maxRecDepth 100000 in
theorem tH_bringInAll (l : Launch) (g : GG) (a : Nat → Nat) (ha : apH a) (s : HS)  : Cv l g (wldH g a) (adH a) yH_bringInAll kH_bringInAll ({ frames := 3, cells := 0, slots := 0, locals := 66 }) [.ref (a 0)] s (h_bringAll s) := by
  have hD := wldH_D (g := g) ha
  refine Cv.of (own := RH) (cc := cH_bringInAll) (nL := 2) hD (by decide) rfl (Nat.le_of_ble_eq_true rfl) ?_
  intro p e S m args below meth c Q X ret H locs ls Y hl
  have hx := X.1
  have hb := X.2.1
  have hl : lv_has ls 2 [(0, .ref (a 0))] := hl
  refine lv_iconst (v := (nI (0))) hx hb dH_bringInAll_0 (by decide) ?_
  refine lv_istore_n (lv' := [(1, .int (nI (0))), (0, .ref (a 0))]) hx hb dH_bringInAll_1 rfl hl (by decide) rfl (fun ls hl => ?_)
  have loop2 : ∀ (n2 i2 : Nat) (σ2 : HS), i2 ≤ 8 → 8 < i2 + n2 → (fldN h_ba1 s i2 = σ2) → ∀ (H : Heap) (locs : List Loc) (ls : Array Slot), Yw g (wldH g a) (adH a) S H locs σ2 → lv_has ls 2 [(0, .ref (a 0)), (1, .int (nI (i2)))] → W p l e ({ frames := 3, cells := 0, slots := 0, locals := 66 }) S m args below meth c H locs 0 0 Q (F0 m 2 ls []) := by
    intro n2
    induction n2 with
    | zero =>
      intro i2 σ2 b1 b2
      exact absurd b2 (by omega)
    | succ n2 ih2 =>
      intro i2 σ2 hi2 hn2 eσ2 H locs ls Y hl
      refine lv_iload_n hx hb dH_bringInAll_2 rfl (lv_at hl 1 rfl) ?_
      refine lv_bipush (v := (nI (8))) hx hb dH_bringInAll_3 (by decide) ?_
      refine bn_ge (tgt := 39) hx hb dH_bringInAll_5 (by decide) (by omega) (by omega) (fun h5 => ?_) (fun h5 => ?_)
      · skip
        obtain rfl : i2 = 8 := by omega
        subst eσ2
        have E : (fldN h_ba1 s 8) = h_bringAll s := rfl
        rw [E] at Y
        exact ret _ _ _ _ Y dH_bringInAll_39
      · skip
        refine lv_aload_n hx hb dH_bringInAll_8 rfl (lv_at hl 0 rfl) ?_
        refine rH_ST X Y dH_bringInAll_9 ?_
        refine lv_iload_n hx hb dH_bringInAll_12 rfl (lv_at hl 1 rfl) ?_
        refine lH_ST X Y (k := i2) (by omega) dH_bringInAll_13 ?_
        have hq1 := (gH_ST σ2 i2).isLt
        refine lv_iconst (v := (nI (2))) hx hb dH_bringInAll_14 (by decide) ?_
        refine bn_ne (tgt := 33) hx hb dH_bringInAll_15 (by decide) (by omega) (by omega) (fun h15 => ?_) (fun h15 => ?_)
        · skip
          refine lv_iinc (v := (nI (i2 + 1))) (lv' := [(1, .int (nI (i2 + 1))), (0, .ref (a 0))]) hx hb dH_bringInAll_33 hl (k := 1) rfl (nI_1 _) (by decide) rfl (fun ls hl => ?_)
          refine lv_goto (tgt := 2) hx hb dH_bringInAll_36 (by decide) ?_
          exact ih2 (i2 + 1) σ2 (by omega) (by omega) (by show h_ba1 i2 (fldN h_ba1 s i2) = _; rw [eσ2]; simp [h_ba1, h_fi, h5, h15]) _ _ _ Y (lv_sub hl [1, 0] rfl)
        · skip
          refine lv_aload_n hx hb dH_bringInAll_18 rfl (lv_at hl 0 rfl) ?_
          refine lv_dup hx hb dH_bringInAll_19 rfl ?_
          refine rH_FA X Y dH_bringInAll_20 ?_
          refine lv_iconst (v := (nI (1))) hx hb dH_bringInAll_23 (by decide) ?_
          refine lv_iadd hx hb dH_bringInAll_24 ?_
          refine pH_FA X Y (((gH_FA σ2) + (nI (1)))) rfl dH_bringInAll_25 (fun H locs Y => ?_)
          refine lv_aload_n hx hb dH_bringInAll_28 rfl (lv_at hl 0 rfl) ?_
          refine lv_iload_n hx hb dH_bringInAll_29 rfl (lv_at hl 1 rfl) ?_
          refine cl_vv (na := 1) (rest := []) X hD Y (tH_bringIn l g a ha (uH_FA σ2 (((gH_FA σ2) + (nI (1))))) i2 (by omega)) gH_H_bringIn (by decide +kernel) rfl rfl rfl ⟨rfl, rfl⟩ ⟨Nat.le_of_ble_eq_true rfl, Nat.le_of_ble_eq_true rfl⟩ ⟨Nat.zero_le _, Nat.zero_le _⟩ hl.1 rfl (Nat.le_of_ble_eq_true rfl) dH_bringInAll_30 (fun H locs Y => ?_)
          refine lv_iinc (v := (nI (i2 + 1))) (lv' := [(1, .int (nI (i2 + 1))), (0, .ref (a 0))]) hx hb dH_bringInAll_33 hl (k := 1) rfl (nI_1 _) (by decide) rfl (fun ls hl => ?_)
          refine lv_goto (tgt := 2) hx hb dH_bringInAll_36 (by decide) ?_
          exact ih2 (i2 + 1) (h_bringIn i2 (uH_FA σ2 (((gH_FA σ2) + (nI (1)))))) (by omega) (by omega) (by show h_ba1 i2 (fldN h_ba1 s i2) = _; rw [eσ2]; simp [h_ba1, h_fi, h5, h15]) _ _ _ Y (lv_sub hl [1, 0] rfl)
  exact loop2 (8 + 1) 0 s (by omega) (by omega) (fldN_zero) _ _ _ Y (lv_sub hl [1, 0] rfl)
set_option maxHeartbeats 1000000 in
set_option maxRecDepth 100000 in
theorem tH_putOutBeyondBudget (l : Launch) (g : GG) (a : Nat → Nat) (ha : apH a) (s : HS) (sp : Int32) : Ci l g (wldH g a) (adH a) yH_putOutBeyondBudget kH_putOutBeyondBudget ({ frames := 3, cells := 0, slots := 0, locals := 66 }) [.ref (a 0), .int (sp)] s (nI (h_byn s)) (h_beyond sp s) := by
  have hD := wldH_D (g := g) ha
  refine Ci.of (own := RH) (cc := cH_putOutBeyondBudget) (nL := 4) hD (by decide) rfl (Nat.le_of_ble_eq_true rfl) ?_
  intro p e S m args below meth c Q X ret H locs ls Y hl
  have hx := X.1
  have hb := X.2.1
  have hl : lv_has ls 4 [(0, .ref (a 0)), (1, .int (sp))] := hl
  refine lv_iconst (v := (nI (0))) hx hb dH_putOutBeyondBudget_0 (by decide) ?_
  refine lv_istore_n (lv' := [(2, .int (nI (0))), (0, .ref (a 0)), (1, .int (sp))]) hx hb dH_putOutBeyondBudget_1 rfl hl (by decide) rfl (fun ls hl => ?_)
  refine lv_aload_n hx hb dH_putOutBeyondBudget_2 rfl (lv_at hl 1 rfl) ?_
  refine cl_vi (na := 0) (rest := []) X hD Y (tH_pagesIn l g a ha s  ) gH_H_pagesIn (by decide +kernel) rfl rfl rfl ⟨rfl, rfl⟩ ⟨Nat.le_of_ble_eq_true rfl, Nat.le_of_ble_eq_true rfl⟩ ⟨Nat.zero_le _, Nat.zero_le _⟩ hl.1 rfl (Nat.le_of_ble_eq_true rfl) dH_putOutBeyondBudget_3 (fun H locs Y => ?_)
  have hf1 := h_in_le s
  refine lv_istore_n (lv' := [(3, .int (nI (h_in s))), (2, .int (nI (0))), (0, .ref (a 0)), (1, .int (sp))]) hx hb dH_putOutBeyondBudget_6 rfl hl (by decide) rfl (fun ls hl => ?_)
  have loop7 : ∀ (n7 i7 : Nat) (σ7 : HS), i7 ≤ h_byn s → h_byn s < i7 + n7 → (fldN (h_by1 sp) s i7 = σ7) → ((gH_BU σ7).val = (gH_BU s).val) → ∀ (H : Heap) (locs : List Loc) (ls : Array Slot), Yw g (wldH g a) (adH a) S H locs σ7 → lv_has ls 4 [(0, .ref (a 0)), (1, .int (sp)), (2, .int (nI (i7))), (3, .int (nI (h_in s - i7)))] → W p l e ({ frames := 3, cells := 0, slots := 0, locals := 66 }) S m args below meth c H locs 0 0 Q (F0 m 7 ls []) := by
    intro n7
    induction n7 with
    | zero =>
      intro i7 σ7 b1 b2
      exact absurd b2 (by omega)
    | succ n7 ih7 =>
      intro i7 σ7 hi7 hn7 eσ7 hbu H locs ls Y hl
      have hin := h_in_le s
      have hby : h_byn s = h_in s - (gH_BU s).val := rfl
      refine lv_iload_n hx hb dH_putOutBeyondBudget_7 rfl (lv_at hl 3 rfl) ?_
      refine lv_aload_n hx hb dH_putOutBeyondBudget_8 rfl (lv_at hl 0 rfl) ?_
      refine rH_BU X Y dH_putOutBeyondBudget_9 ?_
      have hq2 := (gH_BU σ7).isLt
      refine bn_le (tgt := 33) hx hb dH_putOutBeyondBudget_12 (by decide) (by omega) (by omega) (fun h12 => ?_) (fun h12 => ?_)
      · skip
        obtain rfl : i7 = h_byn s := by omega
        subst eσ7
        refine lv_iload_n hx hb dH_putOutBeyondBudget_33 rfl (lv_at hl 2 rfl) ?_
        have E : (fldN (h_by1 sp) s (h_byn s)) = h_beyond sp s := rfl
        rw [E] at Y
        exact ret _ _ _ _ _ Y (rfl) dH_putOutBeyondBudget_34
      · skip
        refine lv_aload_n hx hb dH_putOutBeyondBudget_15 rfl (lv_at hl 0 rfl) ?_
        refine lv_aload_n hx hb dH_putOutBeyondBudget_16 rfl (lv_at hl 0 rfl) ?_
        refine lv_iload_n hx hb dH_putOutBeyondBudget_17 rfl (lv_at hl 1 rfl) ?_
        refine cl_vi (na := 1) (rest := [.ref (a 0)]) X hD Y (tH_choose l g a ha σ7 ((sp)) ) gH_H_choose (by decide +kernel) rfl rfl rfl ⟨rfl, rfl⟩ ⟨Nat.le_of_ble_eq_true rfl, Nat.le_of_ble_eq_true rfl⟩ ⟨Nat.zero_le _, Nat.zero_le _⟩ hl.1 rfl (Nat.le_of_ble_eq_true rfl) dH_putOutBeyondBudget_18 (fun H locs Y => ?_)
        have hf3 := h_chp_lt σ7 ((sp))
        refine cl_vv (na := 1) (rest := []) X hD Y (tH_putOut l g a ha (h_cho σ7 ((sp))) (h_chp σ7 ((sp))) (by omega)) gH_H_putOut (by decide +kernel) rfl rfl rfl ⟨rfl, rfl⟩ ⟨Nat.le_of_ble_eq_true rfl, Nat.le_of_ble_eq_true rfl⟩ ⟨Nat.zero_le _, Nat.zero_le _⟩ hl.1 rfl (Nat.le_of_ble_eq_true rfl) dH_putOutBeyondBudget_21 (fun H locs Y => ?_)
        refine lv_iinc (v := (nI (i7 + 1))) (lv' := [(2, .int (nI (i7 + 1))), (0, .ref (a 0)), (1, .int (sp)), (3, .int (nI (h_in s - i7)))]) hx hb dH_putOutBeyondBudget_24 hl (k := 2) rfl (nI_1 _) (by decide) rfl (fun ls hl => ?_)
        refine lv_iinc (v := (nI (h_in s - i7 - 1))) (lv' := [(3, .int (nI (h_in s - i7 - 1))), (2, .int (nI (i7 + 1))), (0, .ref (a 0)), (1, .int (sp))]) hx hb dH_putOutBeyondBudget_27 hl (k := 3) rfl (bn_dec (by omega)) (by decide) rfl (fun ls hl => ?_)
        refine lv_goto (tgt := 7) hx hb dH_putOutBeyondBudget_30 (by decide) ?_
        exact ih7 (i7 + 1) (h_putOut (h_chp σ7 ((sp))) (h_cho σ7 ((sp)))) (by omega) (by omega) (by show h_by1 sp i7 (fldN (h_by1 sp) s i7) = _; rw [eσ7]; simp [h_by1, h12]) ((congrArg Fin.val (bu_by1 sp i7 σ7)).trans hbu) _ _ _ Y (lv_sub hl [2, 3, 1, 0] rfl)
  exact loop7 ((h_byn s) + 1) 0 s (by omega) (by omega) (fldN_zero) (rfl) _ _ _ Y (lv_sub hl [2, 3, 1, 0] rfl)
