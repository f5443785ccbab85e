/-! written by wip/whole/specH.py -/
set_option maxHeartbeats 1000000 in
set_option maxRecDepth 100000 in
theorem tH_freePlaceOnPagesIn (l : Launch) (g : GG) (a : Nat → Nat) (ha : apH a) (s : HS)  : Ci l g (wldH g a) (adH a) yH_freePlaceOnPagesIn kH_freePlaceOnPagesIn ({ frames := 1, cells := 0, slots := 0, locals := 20 }) [.ref (a 0)] s (oI (h_free s)) s := by
  have hD := wldH_D (g := g) ha
  refine Ci.of (own := RH) (cc := cH_freePlaceOnPagesIn) (nL := 2) hD (by decide) rfl (Nat.le_of_ble_eq_true rfl) ?_
  intro p e S m args below meth c Q X ret H locs ls Y hl
  have hx := X.1
  have hb := X.2.1
  have hl : lv_has ls 2 [(0, .ref (a 0))] := hl
  refine lv_iconst (v := (nI (0))) hx hb dH_freePlaceOnPagesIn_0 (by decide) ?_
  refine lv_istore_n (lv' := [(1, .int (nI (0))), (0, .ref (a 0))]) hx hb dH_freePlaceOnPagesIn_1 rfl hl (by decide) rfl (fun ls hl => ?_)
  have loop2 : ∀ (n2 i2 : Nat), i2 ≤ 32 → 32 < i2 + n2 → (∀ j, j < i2 → h_frb s j = false) → ∀ (H : Heap) (locs : List Loc) (ls : Array Slot), Yw g (wldH g a) (adH a) S H locs s → lv_has ls 2 [(0, .ref (a 0)), (1, .int (nI (i2)))] → W p l e ({ frames := 1, cells := 0, slots := 0, locals := 20 }) S m args below meth c H locs 0 0 Q (F0 m 2 ls []) := by
    intro n2
    induction n2 with
    | zero =>
      intro i2 b1 b2
      exact absurd b2 (by omega)
    | succ n2 ih2 =>
      intro i2 hi2 hn2 hno H locs ls Y hl
      refine lv_iload_n hx hb dH_freePlaceOnPagesIn_2 rfl (lv_at hl 1 rfl) ?_
      refine lv_bipush (v := (nI (32))) hx hb dH_freePlaceOnPagesIn_3 (by decide) ?_
      refine bn_ge (tgt := 38) hx hb dH_freePlaceOnPagesIn_5 (by decide) (by omega) (by omega) (fun h5 => ?_) (fun h5 => ?_)
      · skip
        refine lv_iconst (v := (-1)) hx hb dH_freePlaceOnPagesIn_38 (by decide) ?_
        exact ret _ _ _ _ _ Y (by rw [h_free, fstN_none (n := 32) (fun j hj => hno j (by omega))]; rfl) dH_freePlaceOnPagesIn_39
      · skip
        refine lv_aload_n hx hb dH_freePlaceOnPagesIn_8 rfl (lv_at hl 0 rfl) ?_
        refine rH_TK X Y dH_freePlaceOnPagesIn_9 ?_
        refine lv_iload_n hx hb dH_freePlaceOnPagesIn_12 rfl (lv_at hl 1 rfl) ?_
        refine lH_TK X Y (k := i2) (by omega) dH_freePlaceOnPagesIn_13 ?_
        refine bb_ne (tgt := 32) hx hb dH_freePlaceOnPagesIn_14 (by decide) (fun h14 => ?_) (fun h14 => ?_)
        · skip
          refine lv_iinc (v := (nI (i2 + 1))) (lv' := [(1, .int (nI (i2 + 1))), (0, .ref (a 0))]) hx hb dH_freePlaceOnPagesIn_32 hl (k := 1) rfl (nI_1 _) (by decide) rfl (fun ls hl => ?_)
          refine lv_goto (tgt := 2) hx hb dH_freePlaceOnPagesIn_35 (by decide) ?_
          exact ih2 (i2 + 1) (by omega) (by omega) (lt_s hno (by simp [h_frb, h5, h14])) _ _ _ Y (lv_sub hl [1, 0] rfl)
        · skip
          refine lv_aload_n hx hb dH_freePlaceOnPagesIn_17 rfl (lv_at hl 0 rfl) ?_
          refine rH_ST X Y dH_freePlaceOnPagesIn_18 ?_
          refine lv_iload_n hx hb dH_freePlaceOnPagesIn_21 rfl (lv_at hl 1 rfl) ?_
          refine cl_s (na := 1) (rest := [.ref (a 6)]) X Y (tH_pageOf l i2 (by omega)) gH_H_pageOf (by decide +kernel) rfl ⟨rfl, rfl⟩ ⟨Nat.le_of_ble_eq_true rfl, Nat.le_of_ble_eq_true rfl⟩ ⟨Nat.zero_le _, Nat.zero_le _⟩ hl.1 rfl (Nat.le_of_ble_eq_true rfl) dH_freePlaceOnPagesIn_22 (fun H locs Y => ?_)
          refine lH_ST X Y (k := i2 / 4) (by omega) dH_freePlaceOnPagesIn_25 ?_
          have hq2 := (gH_ST s (i2 / 4)).isLt
          refine lv_iconst (v := (nI (1))) hx hb dH_freePlaceOnPagesIn_26 (by decide) ?_
          refine bn_ne (tgt := 32) hx hb dH_freePlaceOnPagesIn_27 (by decide) (by omega) (by omega) (fun h27 => ?_) (fun h27 => ?_)
          · skip
            refine lv_iinc (v := (nI (i2 + 1))) (lv' := [(1, .int (nI (i2 + 1))), (0, .ref (a 0))]) hx hb dH_freePlaceOnPagesIn_32 hl (k := 1) rfl (nI_1 _) (by decide) rfl (fun ls hl => ?_)
            refine lv_goto (tgt := 2) hx hb dH_freePlaceOnPagesIn_35 (by decide) ?_
            exact ih2 (i2 + 1) (by omega) (by omega) (lt_s hno (by simp [h_frb, h5, h14, h27])) _ _ _ Y (lv_sub hl [1, 0] rfl)
          · skip
            refine lv_iload_n hx hb dH_freePlaceOnPagesIn_30 rfl (lv_at hl 1 rfl) ?_
            exact ret _ _ _ _ _ Y (by rw [h_free, fstN_hit (i := i2) (by simp [h_frb, h5, h14, h27]) hno (by omega), toP_some (by omega)]; rfl) dH_freePlaceOnPagesIn_31
  exact loop2 (32 + 1) 0 (by omega) (by omega) (fun j hj => absurd hj (by omega)) _ _ _ Y (lv_sub hl [1, 0] rfl)
set_option maxHeartbeats 1000000 in
set_option maxRecDepth 100000 in
theorem tH_placeOnEmptyPage (l : Launch) (g : GG) (a : Nat → Nat) (ha : apH a) (s : HS)  : Ci l g (wldH g a) (adH a) yH_placeOnEmptyPage kH_placeOnEmptyPage ({ frames := 1, cells := 0, slots := 0, locals := 20 }) [.ref (a 0)] s (oI (h_empty s)) s := by
  have hD := wldH_D (g := g) ha
  refine Ci.of (own := RH) (cc := cH_placeOnEmptyPage) (nL := 2) hD (by decide) rfl (Nat.le_of_ble_eq_true rfl) ?_
  intro p e S m args below meth c Q X ret H locs ls Y hl
  have hx := X.1
  have hb := X.2.1
  have hl : lv_has ls 2 [(0, .ref (a 0))] := hl
  refine lv_iconst (v := (nI (0))) hx hb dH_placeOnEmptyPage_0 (by decide) ?_
  refine lv_istore_n (lv' := [(1, .int (nI (0))), (0, .ref (a 0))]) hx hb dH_placeOnEmptyPage_1 rfl hl (by decide) rfl (fun ls hl => ?_)
  have loop2 : ∀ (n2 i2 : Nat), i2 ≤ 8 → 8 < i2 + n2 → (∀ j, j < i2 → h_emb s j = false) → ∀ (H : Heap) (locs : List Loc) (ls : Array Slot), Yw g (wldH g a) (adH a) S H locs s → lv_has ls 2 [(0, .ref (a 0)), (1, .int (nI (i2)))] → W p l e ({ frames := 1, cells := 0, slots := 0, locals := 20 }) S m args below meth c H locs 0 0 Q (F0 m 2 ls []) := by
    intro n2
    induction n2 with
    | zero =>
      intro i2 b1 b2
      exact absurd b2 (by omega)
    | succ n2 ih2 =>
      intro i2 hi2 hn2 hno H locs ls Y hl
      refine lv_iload_n hx hb dH_placeOnEmptyPage_2 rfl (lv_at hl 1 rfl) ?_
      refine lv_bipush (v := (nI (8))) hx hb dH_placeOnEmptyPage_3 (by decide) ?_
      refine bn_ge (tgt := 28) hx hb dH_placeOnEmptyPage_5 (by decide) (by omega) (by omega) (fun h5 => ?_) (fun h5 => ?_)
      · skip
        refine lv_iconst (v := (-1)) hx hb dH_placeOnEmptyPage_28 (by decide) ?_
        exact ret _ _ _ _ _ Y (by simp only [h_empty]; rw [fstN_none (n := 8) (fun j hj => hno j (by omega))]; rfl) dH_placeOnEmptyPage_29
      · skip
        refine lv_aload_n hx hb dH_placeOnEmptyPage_8 rfl (lv_at hl 0 rfl) ?_
        refine rH_ST X Y dH_placeOnEmptyPage_9 ?_
        refine lv_iload_n hx hb dH_placeOnEmptyPage_12 rfl (lv_at hl 1 rfl) ?_
        refine lH_ST X Y (k := i2) (by omega) dH_placeOnEmptyPage_13 ?_
        have hq1 := (gH_ST s i2).isLt
        refine bz_ne (tgt := 22) hx hb dH_placeOnEmptyPage_14 (by decide) (by omega) (fun h14 => ?_) (fun h14 => ?_)
        · skip
          refine lv_iinc (v := (nI (i2 + 1))) (lv' := [(1, .int (nI (i2 + 1))), (0, .ref (a 0))]) hx hb dH_placeOnEmptyPage_22 hl (k := 1) rfl (nI_1 _) (by decide) rfl (fun ls hl => ?_)
          refine lv_goto (tgt := 2) hx hb dH_placeOnEmptyPage_25 (by decide) ?_
          exact ih2 (i2 + 1) (by omega) (by omega) (lt_s hno (by simp [h_emb, h5, h14])) _ _ _ Y (lv_sub hl [1, 0] rfl)
        · skip
          refine lv_iload_n hx hb dH_placeOnEmptyPage_17 rfl (lv_at hl 1 rfl) ?_
          refine cl_s (na := 1) (rest := []) X Y (tH_firstPlaceOf l i2 ) gH_H_firstPlaceOf (by decide +kernel) rfl ⟨rfl, rfl⟩ ⟨Nat.le_of_ble_eq_true rfl, Nat.le_of_ble_eq_true rfl⟩ ⟨Nat.zero_le _, Nat.zero_le _⟩ hl.1 rfl (Nat.le_of_ble_eq_true rfl) dH_placeOnEmptyPage_18 (fun H locs Y => ?_)
          exact ret _ _ _ _ _ Y (by simp only [h_empty]; rw [fstN_hit (i := i2) (by simp [h_emb, h5, h14]) hno (by omega)]; simp only []; rw [toP_some (by omega)]; rfl) dH_placeOnEmptyPage_21
  exact loop2 (8 + 1) 0 (by omega) (by omega) (fun j hj => absurd hj (by omega)) _ _ _ Y (lv_sub hl [1, 0] rfl)
set_option maxHeartbeats 1000000 in
set_option maxRecDepth 100000 in
theorem tH_occupy (l : Launch) (g : GG) (a : Nat → Nat) (ha : apH a) (s : HS) (q : Nat) (hq : q < 32) : Cv l g (wldH g a) (adH a) yH_occupy kH_occupy ({ frames := 1, cells := 0, slots := 0, locals := 20 }) [.ref (a 0), .int (nI (q))] s (h_occupy q s) := by
  have hD := wldH_D (g := g) ha
  refine Cv.of (own := RH) (cc := cH_occupy) (nL := 3) hD (by decide) rfl (Nat.le_of_ble_eq_true rfl) ?_
  intro p e S m args below meth c Q X ret H locs ls Y hl
  have hx := X.1
  have hb := X.2.1
  have hl : lv_has ls 3 [(0, .ref (a 0)), (1, .int (nI (q)))] := hl
  refine lv_iload_n hx hb dH_occupy_0 rfl (lv_at hl 1 rfl) ?_
  refine cl_s (na := 1) (rest := []) X Y (tH_pageOf l q (by omega)) gH_H_pageOf (by decide +kernel) rfl ⟨rfl, rfl⟩ ⟨Nat.le_of_ble_eq_true rfl, Nat.le_of_ble_eq_true rfl⟩ ⟨Nat.zero_le _, Nat.zero_le _⟩ hl.1 rfl (Nat.le_of_ble_eq_true rfl) dH_occupy_1 (fun H locs Y => ?_)
  refine lv_istore_n (lv' := [(2, .int (nI (q / 4))), (0, .ref (a 0)), (1, .int (nI (q)))]) hx hb dH_occupy_4 rfl hl (by decide) rfl (fun ls hl => ?_)
  refine lv_aload_n hx hb dH_occupy_5 rfl (lv_at hl 1 rfl) ?_
  refine rH_ST X Y dH_occupy_6 ?_
  refine lv_iload_n hx hb dH_occupy_9 rfl (lv_at hl 0 rfl) ?_
  refine lH_ST X Y (k := q / 4) (by omega) dH_occupy_10 ?_
  have hq2 := (gH_ST s (q / 4)).isLt
  refine bz_ne (tgt := 28) hx hb dH_occupy_11 (by decide) (by omega) (fun h11 => ?_) (fun h11 => ?_)
  · skip
    refine lv_aload_n hx hb dH_occupy_28 rfl (lv_at hl 1 rfl) ?_
    refine rH_US X Y dH_occupy_29 ?_
    refine lv_iload_n hx hb dH_occupy_32 rfl (lv_at hl 0 rfl) ?_
    refine lv_iconst (v := (nI (1))) hx hb dH_occupy_33 (by decide) ?_
    refine sH_US X Y (k := q / 4) true (by decide) (by omega) dH_occupy_34 (fun H locs Y => ?_)
    refine lv_aload_n hx hb dH_occupy_35 rfl (lv_at hl 1 rfl) ?_
    refine rH_TK X Y dH_occupy_36 ?_
    refine lv_iload_n hx hb dH_occupy_39 rfl (lv_at hl 2 rfl) ?_
    refine lv_iconst (v := (nI (1))) hx hb dH_occupy_40 (by decide) ?_
    refine sH_TK X Y (k := q) true (by decide) (by omega) dH_occupy_41 (fun H locs Y => ?_)
    have E : uH_TK (uH_US s (q / 4) true) q true = h_occupy q s := by simp [h_occupy, h_oc1, h11]
    rw [E] at Y
    exact ret _ _ _ _ Y dH_occupy_42
  · skip
    refine lv_aload_n hx hb dH_occupy_14 rfl (lv_at hl 1 rfl) ?_
    refine rH_ST X Y dH_occupy_15 ?_
    refine lv_iload_n hx hb dH_occupy_18 rfl (lv_at hl 0 rfl) ?_
    refine lv_iconst (v := (nI (1))) hx hb dH_occupy_19 (by decide) ?_
    refine sH_ST X Y (k := q / 4) (⟨1, by omega⟩) rfl (by omega) dH_occupy_20 (fun H locs Y => ?_)
    refine lv_aload_n hx hb dH_occupy_21 rfl (lv_at hl 1 rfl) ?_
    refine rH_CT X Y dH_occupy_22 ?_
    refine lv_iload_n hx hb dH_occupy_25 rfl (lv_at hl 0 rfl) ?_
    refine lv_iconst (v := (nI (0))) hx hb dH_occupy_26 (by decide) ?_
    refine sH_CT X Y (k := q / 4) ((nI (0))) rfl (by omega) dH_occupy_27 (fun H locs Y => ?_)
    refine lv_aload_n hx hb dH_occupy_28 rfl (lv_at hl 1 rfl) ?_
    refine rH_US X Y dH_occupy_29 ?_
    refine lv_iload_n hx hb dH_occupy_32 rfl (lv_at hl 0 rfl) ?_
    refine lv_iconst (v := (nI (1))) hx hb dH_occupy_33 (by decide) ?_
    refine sH_US X Y (k := q / 4) true (by decide) (by omega) dH_occupy_34 (fun H locs Y => ?_)
    refine lv_aload_n hx hb dH_occupy_35 rfl (lv_at hl 1 rfl) ?_
    refine rH_TK X Y dH_occupy_36 ?_
    refine lv_iload_n hx hb dH_occupy_39 rfl (lv_at hl 2 rfl) ?_
    refine lv_iconst (v := (nI (1))) hx hb dH_occupy_40 (by decide) ?_
    refine sH_TK X Y (k := q) true (by decide) (by omega) dH_occupy_41 (fun H locs Y => ?_)
    have E : uH_TK (uH_US (uH_CT (uH_ST s (q / 4) (⟨1, by omega⟩)) (q / 4) ((nI (0)))) (q / 4) true) q true = h_occupy q s := by simp [h_occupy, h_oc1, h11]
    rw [E] at Y
    exact ret _ _ _ _ Y dH_occupy_42
set_option maxHeartbeats 1000000 in
set_option maxRecDepth 100000 in
theorem tH_takePlace (l : Launch) (g : GG) (a : Nat → Nat) (ha : apH a) (s : HS) (b : Bool) : Ci l g (wldH g a) (adH a) yH_takePlace kH_takePlace ({ frames := 4, cells := 0, slots := 0, locals := 86 }) [.ref (a 0), .int (bI (b))] s (oI (h_tkp s)) (h_tks b s) := by
  have hD := wldH_D (g := g) ha
  refine Ci.of (own := RH) (cc := cH_takePlace) (nL := 3) hD (by decide) rfl (Nat.le_of_ble_eq_true rfl) ?_
  intro p e S m args below meth c Q X ret H locs ls Y hl
  have hx := X.1
  have hb := X.2.1
  have hl : lv_has ls 3 [(0, .ref (a 0)), (1, .int (bI (b)))] := hl
  refine lv_aload_n hx hb dH_takePlace_0 rfl (lv_at hl 0 rfl) ?_
  refine cl_vi (na := 0) (rest := []) X hD Y (tH_freePlaceOnPagesIn l g a ha s  ) gH_H_freePlaceOnPagesIn (by decide +kernel) rfl rfl rfl ⟨rfl, rfl⟩ ⟨Nat.le_of_ble_eq_true rfl, Nat.le_of_ble_eq_true rfl⟩ ⟨Nat.zero_le _, Nat.zero_le _⟩ hl.1 rfl (Nat.le_of_ble_eq_true rfl) dH_takePlace_1 (fun H locs Y => ?_)
  refine lv_istore_n (lv' := [(2, .int (oI (h_free s))), (0, .ref (a 0)), (1, .int (bI (b)))]) hx hb dH_takePlace_4 rfl hl (by decide) rfl (fun ls hl => ?_)
  refine lv_iload_n hx hb dH_takePlace_5 rfl (lv_at hl 0 rfl) ?_
  refine lv_iconst (v := (-1)) hx hb dH_takePlace_6 (by decide) ?_
  refine bo_ne (tgt := 28) hx hb dH_takePlace_7 (by decide) (fun k2 h7 => ?_) (fun h7 => ?_)
  · skip
    have hq3 := k2.isLt
    refine lv_iload_n hx hb dH_takePlace_28 rfl (lv_at hl 0 rfl) ?_
    refine bn_top (y := nI k2.val) (by rw [h7]; rfl) ?_
    refine lv_iconst (v := (-1)) hx hb dH_takePlace_29 (by decide) ?_
    refine bm_eq (tgt := 38) hx hb dH_takePlace_30 (by decide) (by omega) ?_
    refine lv_aload_n hx hb dH_takePlace_33 rfl (lv_at hl 1 rfl) ?_
    refine lv_iload_n hx hb dH_takePlace_34 rfl (lv_at hl 0 rfl) ?_
    refine bn_top (y := nI k2.val) (by rw [h7]; rfl) ?_
    refine cl_vv (na := 1) (rest := []) X hD Y (tH_occupy l g a ha s k2.val (by omega)) gH_H_occupy (by decide +kernel) rfl rfl rfl ⟨rfl, rfl⟩ ⟨Nat.le_of_ble_eq_true rfl, Nat.le_of_ble_eq_true rfl⟩ ⟨Nat.zero_le _, Nat.zero_le _⟩ hl.1 rfl (Nat.le_of_ble_eq_true rfl) dH_takePlace_35 (fun H locs Y => ?_)
    refine lv_iload_n hx hb dH_takePlace_38 rfl (lv_at hl 0 rfl) ?_
    refine bn_top (y := nI k2.val) (by rw [h7]; rfl) ?_
    have E : h_occupy k2.val s = h_tks b s := by first | rw [h_tks_1 h7] | rw [h_tks_2 h7 h17, if_pos h21] | rw [h_tks_2 h7 h17, if_neg (by rw [h21]; decide)] | rw [h_tks_3 h7 h17]
    rw [E] at Y
    exact ret _ _ _ _ _ Y (by first | (rw [h_tkp_1 h7]; rfl) | (rw [h_tkp_2 h7, h17]; rfl)) dH_takePlace_39
  · skip
    refine lv_aload_n hx hb dH_takePlace_10 rfl (lv_at hl 1 rfl) ?_
    refine cl_vi (na := 0) (rest := []) X hD Y (tH_placeOnEmptyPage l g a ha s  ) gH_H_placeOnEmptyPage (by decide +kernel) rfl rfl rfl ⟨rfl, rfl⟩ ⟨Nat.le_of_ble_eq_true rfl, Nat.le_of_ble_eq_true rfl⟩ ⟨Nat.zero_le _, Nat.zero_le _⟩ hl.1 rfl (Nat.le_of_ble_eq_true rfl) dH_takePlace_11 (fun H locs Y => ?_)
    refine lv_istore_n (lv' := [(2, .int (oI (h_empty s))), (0, .ref (a 0)), (1, .int (bI (b)))]) hx hb dH_takePlace_14 rfl hl (by decide) rfl (fun ls hl => ?_)
    refine lv_iload_n hx hb dH_takePlace_15 rfl (lv_at hl 0 rfl) ?_
    refine lv_iconst (v := (-1)) hx hb dH_takePlace_16 (by decide) ?_
    refine bo_eq (tgt := 28) hx hb dH_takePlace_17 (by decide) (fun h17 => ?_) (fun k6 h17 => ?_)
    · skip
      refine lv_iload_n hx hb dH_takePlace_28 rfl (lv_at hl 0 rfl) ?_
      refine bn_top (y := (-1)) (by rw [h17]; rfl) ?_
      refine lv_iconst (v := (-1)) hx hb dH_takePlace_29 (by decide) ?_
      refine bq_eq (tgt := 38) hx hb dH_takePlace_30 (by decide) ?_
      refine lv_iload_n hx hb dH_takePlace_38 rfl (lv_at hl 0 rfl) ?_
      refine bn_top (y := (-1)) (by rw [h17]; rfl) ?_
      have E : s = h_tks b s := by first | rw [h_tks_1 h7] | rw [h_tks_2 h7 h17, if_pos h21] | rw [h_tks_2 h7 h17, if_neg (by rw [h21]; decide)] | rw [h_tks_3 h7 h17]
      rw [E] at Y
      exact ret _ _ _ _ _ Y (by first | (rw [h_tkp_1 h7]; rfl) | (rw [h_tkp_2 h7, h17]; rfl)) dH_takePlace_39
    · skip
      have hq7 := k6.isLt
      refine lv_iload_n hx hb dH_takePlace_20 rfl (lv_at hl 2 rfl) ?_
      refine bb_eq (tgt := 28) hx hb dH_takePlace_21 (by decide) (fun h21 => ?_) (fun h21 => ?_)
      · skip
        refine lv_iload_n hx hb dH_takePlace_28 rfl (lv_at hl 0 rfl) ?_
        refine bn_top (y := nI k6.val) (by rw [h17]; rfl) ?_
        refine lv_iconst (v := (-1)) hx hb dH_takePlace_29 (by decide) ?_
        refine bm_eq (tgt := 38) hx hb dH_takePlace_30 (by decide) (by omega) ?_
        refine lv_aload_n hx hb dH_takePlace_33 rfl (lv_at hl 1 rfl) ?_
        refine lv_iload_n hx hb dH_takePlace_34 rfl (lv_at hl 0 rfl) ?_
        refine bn_top (y := nI k6.val) (by rw [h17]; rfl) ?_
        refine cl_vv (na := 1) (rest := []) X hD Y (tH_occupy l g a ha s k6.val (by omega)) gH_H_occupy (by decide +kernel) rfl rfl rfl ⟨rfl, rfl⟩ ⟨Nat.le_of_ble_eq_true rfl, Nat.le_of_ble_eq_true rfl⟩ ⟨Nat.zero_le _, Nat.zero_le _⟩ hl.1 rfl (Nat.le_of_ble_eq_true rfl) dH_takePlace_35 (fun H locs Y => ?_)
        refine lv_iload_n hx hb dH_takePlace_38 rfl (lv_at hl 0 rfl) ?_
        refine bn_top (y := nI k6.val) (by rw [h17]; rfl) ?_
        have E : h_occupy k6.val s = h_tks b s := by first | rw [h_tks_1 h7] | rw [h_tks_2 h7 h17, if_pos h21] | rw [h_tks_2 h7 h17, if_neg (by rw [h21]; decide)] | rw [h_tks_3 h7 h17]
        rw [E] at Y
        exact ret _ _ _ _ _ Y (by first | (rw [h_tkp_1 h7]; rfl) | (rw [h_tkp_2 h7, h17]; rfl)) dH_takePlace_39
      · skip
        refine lv_aload_n hx hb dH_takePlace_24 rfl (lv_at hl 1 rfl) ?_
        refine cl_vv (na := 0) (rest := []) X hD Y (tH_makeRoomForPage l g a ha s  ) gH_H_makeRoomForPage (by decide +kernel) rfl rfl rfl ⟨rfl, rfl⟩ ⟨Nat.le_of_ble_eq_true rfl, Nat.le_of_ble_eq_true rfl⟩ ⟨Nat.zero_le _, Nat.zero_le _⟩ hl.1 rfl (Nat.le_of_ble_eq_true rfl) dH_takePlace_25 (fun H locs Y => ?_)
        refine lv_iload_n hx hb dH_takePlace_28 rfl (lv_at hl 0 rfl) ?_
        refine bn_top (y := nI k6.val) (by rw [h17]; rfl) ?_
        refine lv_iconst (v := (-1)) hx hb dH_takePlace_29 (by decide) ?_
        refine bm_eq (tgt := 38) hx hb dH_takePlace_30 (by decide) (by omega) ?_
        refine lv_aload_n hx hb dH_takePlace_33 rfl (lv_at hl 1 rfl) ?_
        refine lv_iload_n hx hb dH_takePlace_34 rfl (lv_at hl 0 rfl) ?_
        refine bn_top (y := nI k6.val) (by rw [h17]; rfl) ?_
        refine cl_vv (na := 1) (rest := []) X hD Y (tH_occupy l g a ha (h_room s) k6.val (by omega)) gH_H_occupy (by decide +kernel) rfl rfl rfl ⟨rfl, rfl⟩ ⟨Nat.le_of_ble_eq_true rfl, Nat.le_of_ble_eq_true rfl⟩ ⟨Nat.zero_le _, Nat.zero_le _⟩ hl.1 rfl (Nat.le_of_ble_eq_true rfl) dH_takePlace_35 (fun H locs Y => ?_)
        refine lv_iload_n hx hb dH_takePlace_38 rfl (lv_at hl 0 rfl) ?_
        refine bn_top (y := nI k6.val) (by rw [h17]; rfl) ?_
        have E : h_occupy k6.val (h_room s) = h_tks b s := by first | rw [h_tks_1 h7] | rw [h_tks_2 h7 h17, if_pos h21] | rw [h_tks_2 h7 h17, if_neg (by rw [h21]; decide)] | rw [h_tks_3 h7 h17]
        rw [E] at Y
        exact ret _ _ _ _ _ Y (by first | (rw [h_tkp_1 h7]; rfl) | (rw [h_tkp_2 h7, h17]; rfl)) dH_takePlace_39
set_option maxHeartbeats 1000000 in
set_option maxRecDepth 100000 in
theorem tH_takePlaceThoroughly (l : Launch) (g : GG) (a : Nat → Nat) (ha : apH a) (s : HS)  : Ci l g (wldH g a) (adH a) yH_takePlaceThoroughly kH_takePlaceThoroughly ({ frames := 5, cells := 0, slots := 0, locals := 108 }) [.ref (a 0)] s (oI (h_ttp s)) (h_tts s) := by
  have hD := wldH_D (g := g) ha
  refine Ci.of (own := RH) (cc := cH_takePlaceThoroughly) (nL := 2) hD (by decide) rfl (Nat.le_of_ble_eq_true rfl) ?_
  intro p e S m args below meth c Q X ret H locs ls Y hl
  have hx := X.1
  have hb := X.2.1
  have hl : lv_has ls 2 [(0, .ref (a 0))] := hl
  refine lv_aload_n hx hb dH_takePlaceThoroughly_0 rfl (lv_at hl 0 rfl) ?_
  refine cl_vv (na := 0) (rest := []) X hD Y (tH_bringInAll l g a ha s  ) gH_H_bringInAll (by decide +kernel) rfl rfl rfl ⟨rfl, rfl⟩ ⟨Nat.le_of_ble_eq_true rfl, Nat.le_of_ble_eq_true rfl⟩ ⟨Nat.zero_le _, Nat.zero_le _⟩ hl.1 rfl (Nat.le_of_ble_eq_true rfl) dH_takePlaceThoroughly_1 (fun H locs Y => ?_)
  refine lv_aload_n hx hb dH_takePlaceThoroughly_4 rfl (lv_at hl 0 rfl) ?_
  refine cl_vi (na := 0) (rest := []) X hD Y (tH_collectWithin l g a ha (h_bringAll s)  ) gH_H_collectWithin (by decide +kernel) rfl rfl rfl ⟨rfl, rfl⟩ ⟨Nat.le_of_ble_eq_true rfl, Nat.le_of_ble_eq_true rfl⟩ ⟨Nat.zero_le _, Nat.zero_le _⟩ hl.1 rfl (Nat.le_of_ble_eq_true rfl) dH_takePlaceThoroughly_5 (fun H locs Y => ?_)
  refine lv_pop hx hb dH_takePlaceThoroughly_8 rfl ?_
  refine lv_aload_n hx hb dH_takePlaceThoroughly_9 rfl (lv_at hl 0 rfl) ?_
  refine lv_iconst (v := (nI (0))) hx hb dH_takePlaceThoroughly_10 (by decide) ?_
  refine cl_vi (na := 1) (rest := []) X hD Y (tH_takePlace l g a ha (h_collect (h_bringAll s)) false ) gH_H_takePlace (by decide +kernel) rfl rfl rfl ⟨rfl, rfl⟩ ⟨Nat.le_of_ble_eq_true rfl, Nat.le_of_ble_eq_true rfl⟩ ⟨Nat.zero_le _, Nat.zero_le _⟩ hl.1 rfl (Nat.le_of_ble_eq_true rfl) dH_takePlaceThoroughly_11 (fun H locs Y => ?_)
  refine lv_istore_n (lv' := [(1, .int (oI (h_tkp (h_collect (h_bringAll s))))), (0, .ref (a 0))]) hx hb dH_takePlaceThoroughly_14 rfl hl (by decide) rfl (fun ls hl => ?_)
  refine lv_aload_n hx hb dH_takePlaceThoroughly_15 rfl (lv_at hl 1 rfl) ?_
  refine lv_iload_n hx hb dH_takePlaceThoroughly_16 rfl (lv_at hl 0 rfl) ?_
  refine lv_iconst (v := (-1)) hx hb dH_takePlaceThoroughly_17 (by decide) ?_
  refine bo_ne (tgt := 25) hx hb dH_takePlaceThoroughly_18 (by decide) (fun k4 h18 => ?_) (fun h18 => ?_)
  · skip
    have hq5 := k4.isLt
    refine lv_iload_n hx hb dH_takePlaceThoroughly_25 rfl (lv_at hl 0 rfl) ?_
    refine bn_top (y := nI k4.val) (by rw [h18]; rfl) ?_
    refine cl_s (na := 1) (rest := [.ref (a 0)]) X Y (tH_pageOf l k4.val (by omega)) gH_H_pageOf (by decide +kernel) rfl ⟨rfl, rfl⟩ ⟨Nat.le_of_ble_eq_true rfl, Nat.le_of_ble_eq_true rfl⟩ ⟨Nat.zero_le _, Nat.zero_le _⟩ hl.1 rfl (Nat.le_of_ble_eq_true rfl) dH_takePlaceThoroughly_26 (fun H locs Y => ?_)
    refine cl_vi (na := 1) (rest := []) X hD Y (tH_putOutBeyondBudget l g a ha (h_tks false (h_collect (h_bringAll s))) ((nI (k4.val / 4))) ) gH_H_putOutBeyondBudget (by decide +kernel) rfl rfl rfl ⟨rfl, rfl⟩ ⟨Nat.le_of_ble_eq_true rfl, Nat.le_of_ble_eq_true rfl⟩ ⟨Nat.zero_le _, Nat.zero_le _⟩ hl.1 rfl (Nat.le_of_ble_eq_true rfl) dH_takePlaceThoroughly_29 (fun H locs Y => ?_)
    refine lv_pop hx hb dH_takePlaceThoroughly_32 rfl ?_
    refine lv_iload_n hx hb dH_takePlaceThoroughly_33 rfl (lv_at hl 0 rfl) ?_
    refine bn_top (y := nI k4.val) (by rw [h18]; rfl) ?_
    have E : h_beyond ((nI (k4.val / 4))) (h_tks false (h_collect (h_bringAll s))) = h_tts s := by unfold h_tts h_tt0; rw [h18]; rfl
    rw [E] at Y
    exact ret _ _ _ _ _ Y (by unfold h_ttp h_tt0; rw [h18]; rfl) dH_takePlaceThoroughly_34
  · skip
    refine lv_iconst (v := (-1)) hx hb dH_takePlaceThoroughly_21 (by decide) ?_
    refine lv_goto (tgt := 29) hx hb dH_takePlaceThoroughly_22 (by decide) ?_
    refine cl_vi (na := 1) (rest := []) X hD Y (tH_putOutBeyondBudget l g a ha (h_tks false (h_collect (h_bringAll s))) ((-1)) ) gH_H_putOutBeyondBudget (by decide +kernel) rfl rfl rfl ⟨rfl, rfl⟩ ⟨Nat.le_of_ble_eq_true rfl, Nat.le_of_ble_eq_true rfl⟩ ⟨Nat.zero_le _, Nat.zero_le _⟩ hl.1 rfl (Nat.le_of_ble_eq_true rfl) dH_takePlaceThoroughly_29 (fun H locs Y => ?_)
    refine lv_pop hx hb dH_takePlaceThoroughly_32 rfl ?_
    refine lv_iload_n hx hb dH_takePlaceThoroughly_33 rfl (lv_at hl 0 rfl) ?_
    refine bn_top (y := (-1)) (by rw [h18]; rfl) ?_
    have E : h_beyond ((-1)) (h_tks false (h_collect (h_bringAll s))) = h_tts s := by unfold h_tts h_tt0; rw [h18]; rfl
    rw [E] at Y
    exact ret _ _ _ _ _ Y (by unfold h_ttp h_tt0; rw [h18]; rfl) dH_takePlaceThoroughly_34
