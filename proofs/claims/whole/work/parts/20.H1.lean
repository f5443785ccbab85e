/-! written by wip/whole/specH.py -/
set_option maxHeartbeats 1000000 in
set_option maxRecDepth 100000 in
theorem tH_pageOf (l : Launch) (k : Nat) (hk : k < 2 ^ 31) : Cs l yH_pageOf kH_pageOf ({ frames := 0, cells := 0, slots := 0, locals := 0 }) [.int (nI (k))] (nI (k / 4)) := by
  refine Cs.of (own := RH) (cc := cH_pageOf) (nL := 1) rfl (by decide) rfl (Nat.le_of_ble_eq_true rfl) ?_
  intro p e S m args below meth c Q hx hb ret ls hl
  have hl : lv_has ls 1 [(0, .int (nI (k)))] := hl
  refine lv_iload_n hx hb dH_pageOf_0 rfl (lv_at hl 0 rfl) ?_
  refine lv_iconst (v := (nI (4))) hx hb dH_pageOf_1 (by decide) ?_
  refine bn_div hx hb dH_pageOf_2 (by omega) (by omega) (by omega) ?_
  exact ret _ _ _ (rfl) dH_pageOf_3
set_option maxHeartbeats 1000000 in
set_option maxRecDepth 100000 in
theorem tH_firstPlaceOf (l : Launch) (k : Nat) : Cs l yH_firstPlaceOf kH_firstPlaceOf ({ frames := 0, cells := 0, slots := 0, locals := 0 }) [.int (nI (k))] (nI (4 * k)) := by
  refine Cs.of (own := RH) (cc := cH_firstPlaceOf) (nL := 1) rfl (by decide) rfl (Nat.le_of_ble_eq_true rfl) ?_
  intro p e S m args below meth c Q hx hb ret ls hl
  have hl : lv_has ls 1 [(0, .int (nI (k)))] := hl
  refine lv_iconst (v := (nI (4))) hx hb dH_firstPlaceOf_0 (by decide) ?_
  refine lv_iload_n hx hb dH_firstPlaceOf_1 rfl (lv_at hl 0 rfl) ?_
  refine bn_mul hx hb dH_firstPlaceOf_2 ?_
  exact ret _ _ _ (rfl) dH_firstPlaceOf_3
set_option maxHeartbeats 1000000 in
set_option maxRecDepth 100000 in
theorem tH_isPage (l : Launch) (q : Int32) : Cs l yH_isPage kH_isPage ({ frames := 0, cells := 0, slots := 0, locals := 0 }) [.int (q)] (bI (h_pg q)) := by
  refine Cs.of (own := RH) (cc := cH_isPage) (nL := 1) (bI_nar _) (by decide) rfl (Nat.le_of_ble_eq_true rfl) ?_
  intro p e S m args below meth c Q hx hb ret ls hl
  have hl : lv_has ls 1 [(0, .int (q))] := hl
  refine lv_iload_n hx hb dH_isPage_0 rfl (lv_at hl 0 rfl) ?_
  refine lv_if_lt (tgt := 14) hx hb dH_isPage_1 (by decide) (fun h1 => ?_) (fun h1 => ?_)
  · skip
    refine lv_iconst (v := (nI (0))) hx hb dH_isPage_14 (by decide) ?_
    exact ret _ _ _ (by rw [show h_pg q = false by simp [h_pg, h1]]; decide) dH_isPage_15
  · skip
    refine lv_iload_n hx hb dH_isPage_4 rfl (lv_at hl 0 rfl) ?_
    refine lv_bipush (v := (nI (8))) hx hb dH_isPage_5 (by decide) ?_
    refine lv_icmp_ge (tgt := 14) hx hb dH_isPage_7 (by decide) (fun h7 => ?_) (fun h7 => ?_)
    · skip
      refine lv_iconst (v := (nI (0))) hx hb dH_isPage_14 (by decide) ?_
      exact ret _ _ _ (by rw [show h_pg q = false by simp [h_pg, h1, h7]]; decide) dH_isPage_15
    · skip
      refine lv_iconst (v := (nI (1))) hx hb dH_isPage_10 (by decide) ?_
      refine lv_goto (tgt := 15) hx hb dH_isPage_11 (by decide) ?_
      exact ret _ _ _ (by rw [show h_pg q = true by simp [h_pg, h1, h7]]; decide) dH_isPage_15
set_option maxHeartbeats 1000000 in
set_option maxRecDepth 100000 in
theorem tH_pagesIn (l : Launch) (g : GG) (a : Nat → Nat) (ha : apH a) (s : HS)  : Ci l g (wldH g a) (adH a) yH_pagesIn kH_pagesIn ({ frames := 0, cells := 0, slots := 0, locals := 0 }) [.ref (a 0)] s (nI (h_in s)) s := by
  have hD := wldH_D (g := g) ha
  refine Ci.of (own := RH) (cc := cH_pagesIn) (nL := 3) hD (by decide) rfl (Nat.le_of_ble_eq_true rfl) ?_
  intro p e S m args below meth c Q X ret H locs ls Y hl
  have hx := X.1
  have hb := X.2.1
  have hl : lv_has ls 3 [(0, .ref (a 0))] := hl
  refine lv_iconst (v := (nI (0))) hx hb dH_pagesIn_0 (by decide) ?_
  refine lv_istore_n (lv' := [(1, .int (nI (0))), (0, .ref (a 0))]) hx hb dH_pagesIn_1 rfl hl (by decide) rfl (fun ls hl => ?_)
  refine lv_iconst (v := (nI (0))) hx hb dH_pagesIn_2 (by decide) ?_
  refine lv_istore_n (lv' := [(2, .int (nI (0))), (1, .int (nI (0))), (0, .ref (a 0))]) hx hb dH_pagesIn_3 rfl hl (by decide) rfl (fun ls hl => ?_)
  have loop4 : ∀ (n4 i4 : Nat) (k4 : Nat), i4 ≤ 8 → 8 < i4 + n4 → (cntN (h_inb s) i4 = k4) → (k4 ≤ i4) → ∀ (H : Heap) (locs : List Loc) (ls : Array Slot), Yw g (wldH g a) (adH a) S H locs s → lv_has ls 3 [(0, .ref (a 0)), (1, .int (nI (k4))), (2, .int (nI (i4)))] → W p l e ({ frames := 0, cells := 0, slots := 0, locals := 0 }) S m args below meth c H locs 0 0 Q (F0 m 4 ls []) := by
    intro n4
    induction n4 with
    | zero =>
      intro i4 k4 b1 b2
      exact absurd b2 (by omega)
    | succ n4 ih4 =>
      intro i4 k4 hi4 hn4 ek4 hk4 H locs ls Y hl
      refine lv_iload_n hx hb dH_pagesIn_4 rfl (lv_at hl 2 rfl) ?_
      refine lv_bipush (v := (nI (8))) hx hb dH_pagesIn_5 (by decide) ?_
      refine bn_ge (tgt := 29) hx hb dH_pagesIn_7 (by decide) (by omega) (by omega) (fun h7 => ?_) (fun h7 => ?_)
      · skip
        obtain rfl : i4 = 8 := by omega
        subst ek4
        refine lv_iload_n hx hb dH_pagesIn_29 rfl (lv_at hl 1 rfl) ?_
        exact ret _ _ _ _ _ Y (rfl) dH_pagesIn_30
      · skip
        refine lv_aload_n hx hb dH_pagesIn_10 rfl (lv_at hl 0 rfl) ?_
        refine rH_ST X Y dH_pagesIn_11 ?_
        refine lv_iload_n hx hb dH_pagesIn_14 rfl (lv_at hl 2 rfl) ?_
        refine lH_ST X Y (k := i4) (by omega) dH_pagesIn_15 ?_
        have hq1 := (gH_ST s i4).isLt
        refine lv_iconst (v := (nI (1))) hx hb dH_pagesIn_16 (by decide) ?_
        refine bn_ne (tgt := 23) hx hb dH_pagesIn_17 (by decide) (by omega) (by omega) (fun h17 => ?_) (fun h17 => ?_)
        · skip
          refine lv_iinc (v := (nI (i4 + 1))) (lv' := [(2, .int (nI (i4 + 1))), (0, .ref (a 0)), (1, .int (nI (k4)))]) hx hb dH_pagesIn_23 hl (k := 2) rfl (nI_1 _) (by decide) rfl (fun ls hl => ?_)
          refine lv_goto (tgt := 4) hx hb dH_pagesIn_26 (by decide) ?_
          exact ih4 (i4 + 1) k4 (by omega) (by omega) (by show cntN (h_inb s) i4 + _ = _; rw [ek4]; simp [h_inb, h7, h17]) (by omega) _ _ _ Y (lv_sub hl [1, 2, 0] rfl)
        · skip
          refine lv_iinc (v := (nI (k4 + 1))) (lv' := [(1, .int (nI (k4 + 1))), (0, .ref (a 0)), (2, .int (nI (i4)))]) hx hb dH_pagesIn_20 hl (k := 1) rfl (nI_1 _) (by decide) rfl (fun ls hl => ?_)
          refine lv_iinc (v := (nI (i4 + 1))) (lv' := [(2, .int (nI (i4 + 1))), (1, .int (nI (k4 + 1))), (0, .ref (a 0))]) hx hb dH_pagesIn_23 hl (k := 2) rfl (nI_1 _) (by decide) rfl (fun ls hl => ?_)
          refine lv_goto (tgt := 4) hx hb dH_pagesIn_26 (by decide) ?_
          exact ih4 (i4 + 1) (k4 + 1) (by omega) (by omega) (by show cntN (h_inb s) i4 + _ = _; rw [ek4]; simp [h_inb, h7, h17]) (by omega) _ _ _ Y (lv_sub hl [2, 1, 0] rfl)
  exact loop4 (8 + 1) 0 0 (by omega) (by omega) (rfl) (Nat.le_refl 0) _ _ _ Y (lv_sub hl [2, 1, 0] rfl)
set_option maxHeartbeats 1000000 in
set_option maxRecDepth 100000 in
theorem tH_refersTo (l : Launch) (g : GG) (a : Nat → Nat) (ha : apH a) (s : HS) (v w : Nat) (hv : v < 8) (hw : w < 8) : Ci l g (wldH g a) (adH a) yH_refersTo kH_refersTo ({ frames := 1, cells := 0, slots := 0, locals := 20 }) [.ref (a 0), .int (nI (v)), .int (nI (w))] s (bI (h_refers s v w)) s := by
  have hD := wldH_D (g := g) ha
  refine Ci.ofZ (own := RH) (cc := cH_refersTo) (nL := 5) hD (by decide) rfl (Nat.le_of_ble_eq_true rfl) ?_
  intro p e S m args below meth c Q X ret H locs ls Y hl
  have hx := X.1
  have hb := X.2.1
  have hl : lv_has ls 5 [(0, .ref (a 0)), (1, .int (nI (v))), (2, .int (nI (w)))] := hl
  refine lv_iload_n hx hb dH_refersTo_0 rfl (lv_at hl 1 rfl) ?_
  refine lv_iload_n hx hb dH_refersTo_1 rfl (lv_at hl 2 rfl) ?_
  refine bn_ne (tgt := 7) hx hb dH_refersTo_2 (by decide) (by omega) (by omega) (fun h2 => ?_) (fun h2 => ?_)
  · skip
    refine lv_iconst (v := (nI (2))) hx hb dH_refersTo_7 (by decide) ?_
    refine lv_iload_n hx hb dH_refersTo_8 rfl (lv_at hl 1 rfl) ?_
    refine cl_s (na := 1) (rest := [.int (nI (2))]) X Y (tH_firstPlaceOf l v ) gH_H_firstPlaceOf (by decide +kernel) rfl ⟨rfl, rfl⟩ ⟨Nat.le_of_ble_eq_true rfl, Nat.le_of_ble_eq_true rfl⟩ ⟨Nat.zero_le _, Nat.zero_le _⟩ hl.1 rfl (Nat.le_of_ble_eq_true rfl) dH_refersTo_9 (fun H locs Y => ?_)
    refine bn_mul hx hb dH_refersTo_12 ?_
    refine lv_istore_n (lv' := [(3, .int (nI (2 * (4 * v)))), (0, .ref (a 0)), (1, .int (nI (v))), (2, .int (nI (w)))]) hx hb dH_refersTo_13 rfl hl (by decide) rfl (fun ls hl => ?_)
    refine lv_iload_n hx hb dH_refersTo_14 rfl (lv_at hl 0 rfl) ?_
    refine lv_istore (lv' := [(4, .int (nI (2 * (4 * v)))), (3, .int (nI (2 * (4 * v)))), (0, .ref (a 0)), (1, .int (nI (v))), (2, .int (nI (w)))]) hx hb dH_refersTo_15 hl (by decide) rfl (fun ls hl => ?_)
    have loop17 : ∀ (n17 i17 : Nat), i17 ≤ 8 → 8 < i17 + n17 → (∀ j, j < i17 → h_rfb s v w j = false) → ∀ (H : Heap) (locs : List Loc) (ls : Array Slot), Yw g (wldH g a) (adH a) S H locs s → lv_has ls 5 [(3, .int (nI (2 * (4 * v)))), (0, .ref (a 0)), (1, .int (nI (v))), (2, .int (nI (w))), (4, .int (nI (2 * (4 * v) + i17)))] → W p l e ({ frames := 1, cells := 0, slots := 0, locals := 20 }) S m args below meth c H locs 0 0 Q (F0 m 17 ls []) := by
      intro n17
      induction n17 with
      | zero =>
        intro i17 b1 b2
        exact absurd b2 (by omega)
      | succ n17 ih17 =>
        intro i17 hi17 hn17 hno H locs ls Y hl
        refine lv_iload hx hb dH_refersTo_17 (lv_at hl 4 rfl) ?_
        refine lv_iload_n hx hb dH_refersTo_19 rfl (lv_at hl 0 rfl) ?_
        refine lv_bipush (v := (nI (8))) hx hb dH_refersTo_20 (by decide) ?_
        refine bn_add hx hb dH_refersTo_22 ?_
        refine bn_ge (tgt := 59) hx hb dH_refersTo_23 (by decide) (by omega) (by omega) (fun h23 => ?_) (fun h23 => ?_)
        · skip
          refine lv_iconst (v := (nI (0))) hx hb dH_refersTo_59 (by decide) ?_
          exact ret _ _ _ _ _ Y (by rw [show h_refers s v w = false by (simp only [h_refers]; rw [anyN_f (n := 8) (fun j hj => hno j (by omega))]; simp)]; decide) dH_refersTo_60
        · skip
          refine lv_aload_n hx hb dH_refersTo_26 rfl (lv_at hl 1 rfl) ?_
          refine rH_FD X Y dH_refersTo_27 ?_
          refine lv_iload hx hb dH_refersTo_30 (lv_at hl 4 rfl) ?_
          refine lH_FD X Y (k := 2 * (4 * v) + i17) (by omega) dH_refersTo_32 ?_
          refine lv_iconst (v := (-1)) hx hb dH_refersTo_33 (by decide) ?_
          refine bo_eq (tgt := 53) hx hb dH_refersTo_34 (by decide) (fun h34 => ?_) (fun k2 h34 => ?_)
          · skip
            refine lv_iinc (v := (nI (2 * (4 * v) + i17 + 1))) (lv' := [(4, .int (nI (2 * (4 * v) + i17 + 1))), (3, .int (nI (2 * (4 * v)))), (0, .ref (a 0)), (1, .int (nI (v))), (2, .int (nI (w)))]) hx hb dH_refersTo_53 hl (k := 4) rfl (nI_1 _) (by decide) rfl (fun ls hl => ?_)
            refine lv_goto (tgt := 17) hx hb dH_refersTo_56 (by decide) ?_
            exact ih17 (i17 + 1) (by omega) (by omega) (lt_s hno (by simp [h_rfb, h2, h23, h34])) _ _ _ Y (lv_sub hl [1, 2, 3, 4, 0] rfl)
          · skip
            have hq3 := k2.isLt
            refine lv_aload_n hx hb dH_refersTo_37 rfl (lv_at hl 1 rfl) ?_
            refine rH_FD X Y dH_refersTo_38 ?_
            refine lv_iload hx hb dH_refersTo_41 (lv_at hl 4 rfl) ?_
            refine lH_FD X Y (k := 2 * (4 * v) + i17) (by omega) dH_refersTo_43 ?_
            refine bn_top (y := nI k2.val) (by rw [h34]; rfl) ?_
            refine cl_s (na := 1) (rest := []) X Y (tH_pageOf l k2.val (by omega)) gH_H_pageOf (by decide +kernel) rfl ⟨rfl, rfl⟩ ⟨Nat.le_of_ble_eq_true rfl, Nat.le_of_ble_eq_true rfl⟩ ⟨Nat.zero_le _, Nat.zero_le _⟩ hl.1 rfl (Nat.le_of_ble_eq_true rfl) dH_refersTo_44 (fun H locs Y => ?_)
            refine lv_iload_n hx hb dH_refersTo_47 rfl (lv_at hl 3 rfl) ?_
            refine bn_ne (tgt := 53) hx hb dH_refersTo_48 (by decide) (by omega) (by omega) (fun h48 => ?_) (fun h48 => ?_)
            · skip
              refine lv_iinc (v := (nI (2 * (4 * v) + i17 + 1))) (lv' := [(4, .int (nI (2 * (4 * v) + i17 + 1))), (3, .int (nI (2 * (4 * v)))), (0, .ref (a 0)), (1, .int (nI (v))), (2, .int (nI (w)))]) hx hb dH_refersTo_53 hl (k := 4) rfl (nI_1 _) (by decide) rfl (fun ls hl => ?_)
              refine lv_goto (tgt := 17) hx hb dH_refersTo_56 (by decide) ?_
              exact ih17 (i17 + 1) (by omega) (by omega) (lt_s hno (by simp [h_rfb, h2, h23, h34, h48])) _ _ _ Y (lv_sub hl [1, 2, 3, 4, 0] rfl)
            · skip
              refine lv_iconst (v := (nI (1))) hx hb dH_refersTo_51 (by decide) ?_
              exact ret _ _ _ _ _ Y (by rw [show h_refers s v w = true by (simp only [h_refers]; rw [anyN_t (i := i17) (by simp [h_rfb, h2, h23, h34, h48]) (by omega)]; simp [h2])]; decide) dH_refersTo_52
    exact loop17 (8 + 1) 0 (by omega) (by omega) (fun j hj => absurd hj (by omega)) _ _ _ Y (lv_sub hl [1, 2, 3, 4, 0] rfl)
  · skip
    refine lv_iconst (v := (nI (0))) hx hb dH_refersTo_5 (by decide) ?_
    exact ret _ _ _ _ _ Y (by rw [show h_refers s v w = false by simp [h_refers, h2]]; decide) dH_refersTo_6
set_option maxHeartbeats 1000000 in
set_option maxRecDepth 100000 in
theorem tH_moveHand (l : Launch) (g : GG) (a : Nat → Nat) (ha : apH a) (s : HS)  : Cv l g (wldH g a) (adH a) yH_moveHand kH_moveHand ({ frames := 0, cells := 0, slots := 0, locals := 0 }) [.ref (a 0)] s (h_mv s) := by
  have hD := wldH_D (g := g) ha
  refine Cv.of (own := RH) (cc := cH_moveHand) (nL := 1) hD (by decide) rfl (Nat.le_of_ble_eq_true rfl) ?_
  intro p e S m args below meth c Q X ret H locs ls Y hl
  have hx := X.1
  have hb := X.2.1
  have hl : lv_has ls 1 [(0, .ref (a 0))] := hl
  refine lv_aload_n hx hb dH_moveHand_0 rfl (lv_at hl 0 rfl) ?_
  refine lv_aload_n hx hb dH_moveHand_1 rfl (lv_at hl 0 rfl) ?_
  refine rH_HA X Y dH_moveHand_2 ?_
  have hq1 := (gH_HA s).isLt
  refine lv_iconst (v := (nI (1))) hx hb dH_moveHand_5 (by decide) ?_
  refine bn_add hx hb dH_moveHand_6 ?_
  refine lv_bipush (v := (nI (8))) hx hb dH_moveHand_7 (by decide) ?_
  refine bn_rem hx hb dH_moveHand_9 (by omega) (by omega) (by omega) ?_
  refine pH_HA X Y (⟨(((gH_HA s).val) + 1) % 8, by omega⟩) rfl dH_moveHand_10 (fun H locs Y => ?_)
  have E : uH_HA s (⟨(((gH_HA s).val) + 1) % 8, by omega⟩) = h_mv s := rfl
  rw [E] at Y
  exact ret _ _ _ _ Y dH_moveHand_13
set_option maxHeartbeats 1000000 in
set_option maxRecDepth 100000 in
theorem tH_passes (l : Launch) (g : GG) (a : Nat → Nat) (ha : apH a) (s : HS) (sp : Int32) : Ci l g (wldH g a) (adH a) yH_passes kH_passes ({ frames := 0, cells := 0, slots := 0, locals := 0 }) [.ref (a 0), .int (sp)] s (bI (h_passes s sp)) s := by
  have hD := wldH_D (g := g) ha
  refine Ci.ofZ (own := RH) (cc := cH_passes) (nL := 2) hD (by decide) rfl (Nat.le_of_ble_eq_true rfl) ?_
  intro p e S m args below meth c Q X ret H locs ls Y hl
  have hx := X.1
  have hb := X.2.1
  have hl : lv_has ls 2 [(0, .ref (a 0)), (1, .int (sp))] := hl
  refine lv_aload_n hx hb dH_passes_0 rfl (lv_at hl 0 rfl) ?_
  refine rH_ST X Y dH_passes_1 ?_
  refine lv_aload_n hx hb dH_passes_4 rfl (lv_at hl 0 rfl) ?_
  refine rH_HA X Y dH_passes_5 ?_
  have hq1 := (gH_HA s).isLt
  refine lH_ST X Y (k := (gH_HA s).val) (by omega) dH_passes_8 ?_
  have hq2 := (gH_ST s ((gH_HA s).val)).isLt
  refine lv_iconst (v := (nI (1))) hx hb dH_passes_9 (by decide) ?_
  refine bn_ne (tgt := 33) hx hb dH_passes_10 (by decide) (by omega) (by omega) (fun h10 => ?_) (fun h10 => ?_)
  · skip
    refine lv_iconst (v := (nI (1))) hx hb dH_passes_33 (by decide) ?_
    refine lv_goto (tgt := 38) hx hb dH_passes_34 (by decide) ?_
    exact ret _ _ _ _ _ Y (by rw [show h_passes s sp = true by simp [h_passes, h10]]; decide) dH_passes_38
  · skip
    refine lv_aload_n hx hb dH_passes_13 rfl (lv_at hl 0 rfl) ?_
    refine rH_HA X Y dH_passes_14 ?_
    have hq3 := (gH_HA s).isLt
    refine lv_iload_n hx hb dH_passes_17 rfl (lv_at hl 1 rfl) ?_
    refine lv_icmp_eq (tgt := 33) hx hb dH_passes_18 (by decide) (fun h18 => ?_) (fun h18 => ?_)
    · skip
      refine lv_iconst (v := (nI (1))) hx hb dH_passes_33 (by decide) ?_
      refine lv_goto (tgt := 38) hx hb dH_passes_34 (by decide) ?_
      exact ret _ _ _ _ _ Y (by rw [show h_passes s sp = true by simp [h_passes, h10, h18]]; decide) dH_passes_38
    · skip
      refine lv_aload_n hx hb dH_passes_21 rfl (lv_at hl 0 rfl) ?_
      refine rH_US X Y dH_passes_22 ?_
      refine lv_aload_n hx hb dH_passes_25 rfl (lv_at hl 0 rfl) ?_
      refine rH_HA X Y dH_passes_26 ?_
      have hq4 := (gH_HA s).isLt
      refine lH_US X Y (k := (gH_HA s).val) (by omega) dH_passes_29 ?_
      refine bb_eq (tgt := 37) hx hb dH_passes_30 (by decide) (fun h30 => ?_) (fun h30 => ?_)
      · skip
        refine lv_iconst (v := (nI (0))) hx hb dH_passes_37 (by decide) ?_
        exact ret _ _ _ _ _ Y (by rw [show h_passes s sp = false by simp [h_passes, h10, h18, h30]]; decide) dH_passes_38
      · skip
        refine lv_iconst (v := (nI (1))) hx hb dH_passes_33 (by decide) ?_
        refine lv_goto (tgt := 38) hx hb dH_passes_34 (by decide) ?_
        exact ret _ _ _ _ _ Y (by rw [show h_passes s sp = true by simp [h_passes, h10, h18, h30]]; decide) dH_passes_38
set_option maxHeartbeats 1000000 in
set_option maxRecDepth 100000 in
theorem tH_choose (l : Launch) (g : GG) (a : Nat → Nat) (ha : apH a) (s : HS) (sp : Int32) : Ci l g (wldH g a) (adH a) yH_choose kH_choose ({ frames := 1, cells := 0, slots := 0, locals := 21 }) [.ref (a 0), .int (sp)] s (nI (h_chp s sp)) (h_cho s sp) := by
  have hD := wldH_D (g := g) ha
  refine Ci.of (own := RH) (cc := cH_choose) (nL := 3) hD (by decide) rfl (Nat.le_of_ble_eq_true rfl) ?_
  intro p e S m args below meth c Q X ret H locs ls Y hl
  have hx := X.1
  have hb := X.2.1
  have hl : lv_has ls 3 [(0, .ref (a 0)), (1, .int (sp))] := hl
  refine lv_iconst (v := (nI (0))) hx hb dH_choose_0 (by decide) ?_
  refine lv_istore_n (lv' := [(2, .int (nI (0))), (0, .ref (a 0)), (1, .int (sp))]) hx hb dH_choose_1 rfl hl (by decide) rfl (fun ls hl => ?_)
  have loop2 : ∀ (n2 i2 : Nat) (σ2 : HS), i2 ≤ 16 → 16 < i2 + n2 → (h_chs sp (16 - i2) σ2 = h_chs sp 16 s) → ∀ (H : Heap) (locs : List Loc) (ls : Array Slot), Yw g (wldH g a) (adH a) S H locs σ2 → lv_has ls 3 [(0, .ref (a 0)), (1, .int (sp)), (2, .int (nI (i2)))] → W p l e ({ frames := 1, cells := 0, slots := 0, locals := 21 }) S m args below meth c H locs 0 0 Q (F0 m 2 ls []) := by
    intro n2
    induction n2 with
    | zero =>
      intro i2 σ2 b1 b2
      exact absurd b2 (by omega)
    | succ n2 ih2 =>
      intro i2 σ2 hi2 hn2 eσ2 H locs ls Y hl
      refine lv_iload_n hx hb dH_choose_2 rfl (lv_at hl 2 rfl) ?_
      refine lv_bipush (v := (nI (16))) hx hb dH_choose_3 (by decide) ?_
      refine bn_ge (tgt := 44) hx hb dH_choose_5 (by decide) (by omega) (by omega) (fun h5 => ?_) (fun h5 => ?_)
      · skip
        have E2 : σ2 = h_cst s sp := by first | (rw [show 16 - i2 = 0 by omega] at eσ2; exact eσ2) | (rw [show 16 - i2 = (15 - i2) + 1 by omega] at eσ2; rw [← show h_chs sp 16 s = h_cst s sp from rfl, ← eσ2]; simp [h_chs, h5])
        rw [E2] at Y
        refine lv_aload_n hx hb dH_choose_44 rfl (lv_at hl 0 rfl) ?_
        refine rH_HA X Y dH_choose_45 ?_
        have hq1 := (gH_HA (h_cst s sp)).isLt
        refine lv_istore_n (lv' := [(2, .int (nI ((gH_HA (h_cst s sp)).val))), (0, .ref (a 0)), (1, .int (sp))]) hx hb dH_choose_48 rfl hl (by decide) rfl (fun ls hl => ?_)
        refine lv_aload_n hx hb dH_choose_49 rfl (lv_at hl 1 rfl) ?_
        refine cl_vv (na := 0) (rest := []) X hD Y (tH_moveHand l g a ha (h_cst s sp)  ) gH_H_moveHand (by decide +kernel) rfl rfl rfl ⟨rfl, rfl⟩ ⟨Nat.le_of_ble_eq_true rfl, Nat.le_of_ble_eq_true rfl⟩ ⟨Nat.zero_le _, Nat.zero_le _⟩ hl.1 rfl (Nat.le_of_ble_eq_true rfl) dH_choose_50 (fun H locs Y => ?_)
        refine lv_iload_n hx hb dH_choose_53 rfl (lv_at hl 0 rfl) ?_
        have E : h_mv (h_cst s sp) = h_cho s sp := rfl
        rw [E] at Y
        exact ret _ _ _ _ _ Y (rfl) dH_choose_54
      · skip
        refine lv_aload_n hx hb dH_choose_8 rfl (lv_at hl 0 rfl) ?_
        refine lv_iload_n hx hb dH_choose_9 rfl (lv_at hl 1 rfl) ?_
        refine cl_vi (na := 1) (rest := []) X hD Y (tH_passes l g a ha σ2 ((sp)) ) gH_H_passes (by decide +kernel) rfl rfl rfl ⟨rfl, rfl⟩ ⟨Nat.le_of_ble_eq_true rfl, Nat.le_of_ble_eq_true rfl⟩ ⟨Nat.zero_le _, Nat.zero_le _⟩ hl.1 rfl (Nat.le_of_ble_eq_true rfl) dH_choose_10 (fun H locs Y => ?_)
        refine bb_eq (tgt := 44) hx hb dH_choose_13 (by decide) (fun h13 => ?_) (fun h13 => ?_)
        · skip
          have E2 : σ2 = h_cst s sp := by first | (rw [show 16 - i2 = 0 by omega] at eσ2; exact eσ2) | (rw [show 16 - i2 = (15 - i2) + 1 by omega] at eσ2; rw [← show h_chs sp 16 s = h_cst s sp from rfl, ← eσ2]; simp [h_chs, h5, h13])
          rw [E2] at Y
          refine lv_aload_n hx hb dH_choose_44 rfl (lv_at hl 0 rfl) ?_
          refine rH_HA X Y dH_choose_45 ?_
          have hq4 := (gH_HA (h_cst s sp)).isLt
          refine lv_istore_n (lv' := [(2, .int (nI ((gH_HA (h_cst s sp)).val))), (0, .ref (a 0)), (1, .int (sp))]) hx hb dH_choose_48 rfl hl (by decide) rfl (fun ls hl => ?_)
          refine lv_aload_n hx hb dH_choose_49 rfl (lv_at hl 1 rfl) ?_
          refine cl_vv (na := 0) (rest := []) X hD Y (tH_moveHand l g a ha (h_cst s sp)  ) gH_H_moveHand (by decide +kernel) rfl rfl rfl ⟨rfl, rfl⟩ ⟨Nat.le_of_ble_eq_true rfl, Nat.le_of_ble_eq_true rfl⟩ ⟨Nat.zero_le _, Nat.zero_le _⟩ hl.1 rfl (Nat.le_of_ble_eq_true rfl) dH_choose_50 (fun H locs Y => ?_)
          refine lv_iload_n hx hb dH_choose_53 rfl (lv_at hl 0 rfl) ?_
          have E : h_mv (h_cst s sp) = h_cho s sp := rfl
          rw [E] at Y
          exact ret _ _ _ _ _ Y (rfl) dH_choose_54
        · skip
          refine lv_aload_n hx hb dH_choose_16 rfl (lv_at hl 0 rfl) ?_
          refine rH_HA X Y dH_choose_17 ?_
          have hq6 := (gH_HA σ2).isLt
          refine lv_iload_n hx hb dH_choose_20 rfl (lv_at hl 1 rfl) ?_
          refine lv_icmp_eq (tgt := 34) hx hb dH_choose_21 (by decide) (fun h21 => ?_) (fun h21 => ?_)
          · skip
            refine lv_aload_n hx hb dH_choose_34 rfl (lv_at hl 0 rfl) ?_
            refine cl_vv (na := 0) (rest := []) X hD Y (tH_moveHand l g a ha σ2  ) gH_H_moveHand (by decide +kernel) rfl rfl rfl ⟨rfl, rfl⟩ ⟨Nat.le_of_ble_eq_true rfl, Nat.le_of_ble_eq_true rfl⟩ ⟨Nat.zero_le _, Nat.zero_le _⟩ hl.1 rfl (Nat.le_of_ble_eq_true rfl) dH_choose_35 (fun H locs Y => ?_)
            refine lv_iinc (v := (nI (i2 + 1))) (lv' := [(2, .int (nI (i2 + 1))), (0, .ref (a 0)), (1, .int (sp))]) hx hb dH_choose_38 hl (k := 2) rfl (nI_1 _) (by decide) rfl (fun ls hl => ?_)
            refine lv_goto (tgt := 2) hx hb dH_choose_41 (by decide) ?_
            exact ih2 (i2 + 1) (h_mv σ2) (by omega) (by omega) (by rw [← eσ2, show 16 - i2 = (16 - (i2 + 1)) + 1 by omega]; simp [h_chs, h_cs1, h5, h13, h21]) _ _ _ Y (lv_sub hl [1, 2, 0] rfl)
          · skip
            refine lv_aload_n hx hb dH_choose_24 rfl (lv_at hl 0 rfl) ?_
            refine rH_US X Y dH_choose_25 ?_
            refine lv_aload_n hx hb dH_choose_28 rfl (lv_at hl 0 rfl) ?_
            refine rH_HA X Y dH_choose_29 ?_
            have hq8 := (gH_HA σ2).isLt
            refine lv_iconst (v := (nI (0))) hx hb dH_choose_32 (by decide) ?_
            refine sH_US X Y (k := (gH_HA σ2).val) false (by decide) (by omega) dH_choose_33 (fun H locs Y => ?_)
            refine lv_aload_n hx hb dH_choose_34 rfl (lv_at hl 0 rfl) ?_
            refine cl_vv (na := 0) (rest := []) X hD Y (tH_moveHand l g a ha (uH_US σ2 ((gH_HA σ2).val) false)  ) gH_H_moveHand (by decide +kernel) rfl rfl rfl ⟨rfl, rfl⟩ ⟨Nat.le_of_ble_eq_true rfl, Nat.le_of_ble_eq_true rfl⟩ ⟨Nat.zero_le _, Nat.zero_le _⟩ hl.1 rfl (Nat.le_of_ble_eq_true rfl) dH_choose_35 (fun H locs Y => ?_)
            refine lv_iinc (v := (nI (i2 + 1))) (lv' := [(2, .int (nI (i2 + 1))), (0, .ref (a 0)), (1, .int (sp))]) hx hb dH_choose_38 hl (k := 2) rfl (nI_1 _) (by decide) rfl (fun ls hl => ?_)
            refine lv_goto (tgt := 2) hx hb dH_choose_41 (by decide) ?_
            exact ih2 (i2 + 1) (h_mv (uH_US σ2 ((gH_HA σ2).val) false)) (by omega) (by omega) (by rw [← eσ2, show 16 - i2 = (16 - (i2 + 1)) + 1 by omega]; simp [h_chs, h_cs1, h5, h13, h21]) _ _ _ Y (lv_sub hl [1, 2, 0] rfl)
  exact loop2 (16 + 1) 0 s (by omega) (by omega) (rfl) _ _ _ Y (lv_sub hl [1, 2, 0] rfl)
