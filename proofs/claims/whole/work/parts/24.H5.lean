/-! written by wip/whole/specH.py -/
set_option maxHeartbeats 1000000 in
set_option maxRecDepth 100000 in
theorem tH_collect (l : Launch) (g : GG) (a : Nat → Nat) (ha : apH a) (s : HS)  : Ci l g (wldH g a) (adH a) yH_collect kH_collect ({ frames := 4, cells := 0, slots := 0, locals := 85 }) [.ref (a 0)] s (nI (h_gone s)) (h_collect s) := by
  have hD := wldH_D (g := g) ha
  refine Ci.of (own := RH) (cc := cH_collect) (nL := 1) hD (by decide) rfl (Nat.le_of_ble_eq_true rfl) ?_
  intro p e S m args below meth c Q X ret H locs ls Y hl
  have hx := X.1
  have hb := X.2.1
  have hl : lv_has ls 1 [(0, .ref (a 0))] := hl
  refine lv_aload_n hx hb dH_collect_0 rfl (lv_at hl 0 rfl) ?_
  refine cl_vi (na := 0) (rest := []) X hD Y (tH_collectWithin l g a ha s  ) gH_H_collectWithin (by decide +kernel) rfl rfl rfl ⟨rfl, rfl⟩ ⟨Nat.le_of_ble_eq_true rfl, Nat.le_of_ble_eq_true rfl⟩ ⟨Nat.zero_le _, Nat.zero_le _⟩ hl.1 rfl (Nat.le_of_ble_eq_true rfl) dH_collect_1 (fun H locs Y => ?_)
  exact ret _ _ _ _ _ Y (rfl) dH_collect_4
set_option maxHeartbeats 1000000 in
set_option maxRecDepth 100000 in
theorem tH_thorough (l : Launch) (g : GG) (a : Nat → Nat) (ha : apH a) (s : HS)  : Ci l g (wldH g a) (adH a) yH_thorough kH_thorough ({ frames := 4, cells := 0, slots := 0, locals := 89 }) [.ref (a 0)] s (nI (h_gone (h_bringAll s))) (h_beyond (-1) (h_collect (h_bringAll s))) := by
  have hD := wldH_D (g := g) ha
  refine Ci.of (own := RH) (cc := cH_thorough) (nL := 2) hD (by decide) rfl (Nat.le_of_ble_eq_true rfl) ?_
  intro p e S m args below meth c Q X ret H locs ls Y hl
  have hx := X.1
  have hb := X.2.1
  have hl : lv_has ls 2 [(0, .ref (a 0))] := hl
  refine lv_aload_n hx hb dH_thorough_0 rfl (lv_at hl 0 rfl) ?_
  refine cl_vv (na := 0) (rest := []) X hD Y (tH_bringInAll l g a ha s  ) gH_H_bringInAll (by decide +kernel) rfl rfl rfl ⟨rfl, rfl⟩ ⟨Nat.le_of_ble_eq_true rfl, Nat.le_of_ble_eq_true rfl⟩ ⟨Nat.zero_le _, Nat.zero_le _⟩ hl.1 rfl (Nat.le_of_ble_eq_true rfl) dH_thorough_1 (fun H locs Y => ?_)
  refine lv_aload_n hx hb dH_thorough_4 rfl (lv_at hl 0 rfl) ?_
  refine cl_vi (na := 0) (rest := []) X hD Y (tH_collectWithin l g a ha (h_bringAll s)  ) gH_H_collectWithin (by decide +kernel) rfl rfl rfl ⟨rfl, rfl⟩ ⟨Nat.le_of_ble_eq_true rfl, Nat.le_of_ble_eq_true rfl⟩ ⟨Nat.zero_le _, Nat.zero_le _⟩ hl.1 rfl (Nat.le_of_ble_eq_true rfl) dH_thorough_5 (fun H locs Y => ?_)
  refine lv_istore_n (lv' := [(1, .int (nI (h_gone (h_bringAll s)))), (0, .ref (a 0))]) hx hb dH_thorough_8 rfl hl (by decide) rfl (fun ls hl => ?_)
  refine lv_aload_n hx hb dH_thorough_9 rfl (lv_at hl 1 rfl) ?_
  refine lv_iconst (v := (-1)) hx hb dH_thorough_10 (by decide) ?_
  refine cl_vi (na := 1) (rest := []) X hD Y (tH_putOutBeyondBudget l g a ha (h_collect (h_bringAll s)) ((-1)) ) gH_H_putOutBeyondBudget (by decide +kernel) rfl rfl rfl ⟨rfl, rfl⟩ ⟨Nat.le_of_ble_eq_true rfl, Nat.le_of_ble_eq_true rfl⟩ ⟨Nat.zero_le _, Nat.zero_le _⟩ hl.1 rfl (Nat.le_of_ble_eq_true rfl) dH_thorough_11 (fun H locs Y => ?_)
  refine lv_pop hx hb dH_thorough_14 rfl ?_
  refine lv_iload_n hx hb dH_thorough_15 rfl (lv_at hl 0 rfl) ?_
  have E : h_beyond ((-1)) (h_collect (h_bringAll s)) = h_beyond (-1) (h_collect (h_bringAll s)) := rfl
  rw [E] at Y
  exact ret _ _ _ _ _ Y (rfl) dH_thorough_16
set_option maxHeartbeats 1000000 in
set_option maxRecDepth 100000 in
theorem tH_faults (l : Launch) (g : GG) (a : Nat → Nat) (ha : apH a) (s : HS)  : Ci l g (wldH g a) (adH a) yH_faults kH_faults ({ frames := 0, cells := 0, slots := 0, locals := 0 }) [.ref (a 0)] s (gH_FA s) s := by
  have hD := wldH_D (g := g) ha
  refine Ci.of (own := RH) (cc := cH_faults) (nL := 1) hD (by decide) rfl (Nat.le_of_ble_eq_true rfl) ?_
  intro p e S m args below meth c Q X ret H locs ls Y hl
  have hx := X.1
  have hb := X.2.1
  have hl : lv_has ls 1 [(0, .ref (a 0))] := hl
  refine lv_aload_n hx hb dH_faults_0 rfl (lv_at hl 0 rfl) ?_
  refine rH_FA X Y dH_faults_1 ?_
  exact ret _ _ _ _ _ Y (rfl) dH_faults_4
set_option maxHeartbeats 1000000 in
set_option maxRecDepth 100000 in
theorem tH_objects (l : Launch) (g : GG) (a : Nat → Nat) (ha : apH a) (s : HS)  : Ci l g (wldH g a) (adH a) yH_objects kH_objects ({ frames := 0, cells := 0, slots := 0, locals := 0 }) [.ref (a 0)] s (nI (h_objects s)) s := by
  have hD := wldH_D (g := g) ha
  refine Ci.of (own := RH) (cc := cH_objects) (nL := 3) hD (by decide) rfl (Nat.le_of_ble_eq_true rfl) ?_
  intro p e S m args below meth c Q X ret H locs ls Y hl
  have hx := X.1
  have hb := X.2.1
  have hl : lv_has ls 3 [(0, .ref (a 0))] := hl
  refine lv_iconst (v := (nI (0))) hx hb dH_objects_0 (by decide) ?_
  refine lv_istore_n (lv' := [(1, .int (nI (0))), (0, .ref (a 0))]) hx hb dH_objects_1 rfl hl (by decide) rfl (fun ls hl => ?_)
  refine lv_iconst (v := (nI (0))) hx hb dH_objects_2 (by decide) ?_
  refine lv_istore_n (lv' := [(2, .int (nI (0))), (1, .int (nI (0))), (0, .ref (a 0))]) hx hb dH_objects_3 rfl hl (by decide) rfl (fun ls hl => ?_)
  have loop4 : ∀ (n4 i4 : Nat) (k4 : Nat), i4 ≤ 32 → 32 < i4 + n4 → (cntN (gH_TK s) i4 = k4) → (k4 ≤ i4) → ∀ (H : Heap) (locs : List Loc) (ls : Array Slot), Yw g (wldH g a) (adH a) S H locs s → lv_has ls 3 [(0, .ref (a 0)), (1, .int (nI (k4))), (2, .int (nI (i4)))] → W p l e ({ frames := 0, cells := 0, slots := 0, locals := 0 }) S m args below meth c H locs 0 0 Q (F0 m 4 ls []) := by
    intro n4
    induction n4 with
    | zero =>
      intro i4 k4 b1 b2
      exact absurd b2 (by omega)
    | succ n4 ih4 =>
      intro i4 k4 hi4 hn4 ek4 hk4 H locs ls Y hl
      refine lv_iload_n hx hb dH_objects_4 rfl (lv_at hl 2 rfl) ?_
      refine lv_bipush (v := (nI (32))) hx hb dH_objects_5 (by decide) ?_
      refine bn_ge (tgt := 28) hx hb dH_objects_7 (by decide) (by omega) (by omega) (fun h7 => ?_) (fun h7 => ?_)
      · skip
        obtain rfl : i4 = 32 := by omega
        subst ek4
        refine lv_iload_n hx hb dH_objects_28 rfl (lv_at hl 1 rfl) ?_
        exact ret _ _ _ _ _ Y (rfl) dH_objects_29
      · skip
        refine lv_aload_n hx hb dH_objects_10 rfl (lv_at hl 0 rfl) ?_
        refine rH_TK X Y dH_objects_11 ?_
        refine lv_iload_n hx hb dH_objects_14 rfl (lv_at hl 2 rfl) ?_
        refine lH_TK X Y (k := i4) (by omega) dH_objects_15 ?_
        refine bb_eq (tgt := 22) hx hb dH_objects_16 (by decide) (fun h16 => ?_) (fun h16 => ?_)
        · skip
          refine lv_iinc (v := (nI (i4 + 1))) (lv' := [(2, .int (nI (i4 + 1))), (0, .ref (a 0)), (1, .int (nI (k4)))]) hx hb dH_objects_22 hl (k := 2) rfl (nI_1 _) (by decide) rfl (fun ls hl => ?_)
          refine lv_goto (tgt := 4) hx hb dH_objects_25 (by decide) ?_
          exact ih4 (i4 + 1) k4 (by omega) (by omega) (by show cntN (gH_TK s) i4 + _ = _; rw [ek4]; simp [h7, h16]) (by omega) _ _ _ Y (lv_sub hl [1, 2, 0] rfl)
        · skip
          refine lv_iinc (v := (nI (k4 + 1))) (lv' := [(1, .int (nI (k4 + 1))), (0, .ref (a 0)), (2, .int (nI (i4)))]) hx hb dH_objects_19 hl (k := 1) rfl (nI_1 _) (by decide) rfl (fun ls hl => ?_)
          refine lv_iinc (v := (nI (i4 + 1))) (lv' := [(2, .int (nI (i4 + 1))), (1, .int (nI (k4 + 1))), (0, .ref (a 0))]) hx hb dH_objects_22 hl (k := 2) rfl (nI_1 _) (by decide) rfl (fun ls hl => ?_)
          refine lv_goto (tgt := 4) hx hb dH_objects_25 (by decide) ?_
          exact ih4 (i4 + 1) (k4 + 1) (by omega) (by omega) (by show cntN (gH_TK s) i4 + _ = _; rw [ek4]; simp [h7, h16]) (by omega) _ _ _ Y (lv_sub hl [2, 1, 0] rfl)
  exact loop4 (32 + 1) 0 0 (by omega) (by omega) (rfl) (Nat.le_refl 0) _ _ _ Y (lv_sub hl [2, 1, 0] rfl)
set_option maxHeartbeats 1000000 in
set_option maxRecDepth 100000 in
theorem tH_page (l : Launch) (g : GG) (a : Nat → Nat) (ha : apH a) (s : HS) (q : Int32) : Ci l g (wldH g a) (adH a) yH_page kH_page ({ frames := 1, cells := 0, slots := 0, locals := 20 }) [.ref (a 0), .int (q)] s (h_page s q) s := by
  have hD := wldH_D (g := g) ha
  refine Ci.of (own := RH) (cc := cH_page) (nL := 2) hD (by decide) rfl (Nat.le_of_ble_eq_true rfl) ?_
  intro p e S m args below meth c Q X ret H locs ls Y hl
  have hx := X.1
  have hb := X.2.1
  have hl : lv_has ls 2 [(0, .ref (a 0)), (1, .int (q))] := hl
  refine lv_iload_n hx hb dH_page_0 rfl (lv_at hl 1 rfl) ?_
  refine cl_s (na := 1) (rest := []) X Y (tH_isPage l ((q)) ) gH_H_isPage (by decide +kernel) rfl ⟨rfl, rfl⟩ ⟨Nat.le_of_ble_eq_true rfl, Nat.le_of_ble_eq_true rfl⟩ ⟨Nat.zero_le _, Nat.zero_le _⟩ hl.1 rfl (Nat.le_of_ble_eq_true rfl) dH_page_1 (fun H locs Y => ?_)
  refine bb_ne (tgt := 9) hx hb dH_page_4 (by decide) (fun h4 => ?_) (fun h4 => ?_)
  · skip
    obtain ⟨j, hj, rfl⟩ := h_pg_of h4
    have hcl : (nI j).toNatClampNeg = j := nI_clamp (by omega)
    refine lv_aload_n hx hb dH_page_9 rfl (lv_at hl 0 rfl) ?_
    refine rH_ST X Y dH_page_10 ?_
    refine lv_iload_n hx hb dH_page_13 rfl (lv_at hl 1 rfl) ?_
    refine lH_ST X Y (k := j) (by omega) dH_page_14 ?_
    have hq2 := (gH_ST s j).isLt
    refine bz_ne (tgt := 20) hx hb dH_page_15 (by decide) (by omega) (fun h15 => ?_) (fun h15 => ?_)
    · skip
      refine lv_aload_n hx hb dH_page_20 rfl (lv_at hl 0 rfl) ?_
      refine rH_ST X Y dH_page_21 ?_
      refine lv_iload_n hx hb dH_page_24 rfl (lv_at hl 1 rfl) ?_
      refine lH_ST X Y (k := j) (by omega) dH_page_25 ?_
      have hq3 := (gH_ST s j).isLt
      refine lv_iconst (v := (nI (2))) hx hb dH_page_26 (by decide) ?_
      refine bn_ne (tgt := 32) hx hb dH_page_27 (by decide) (by omega) (by omega) (fun h27 => ?_) (fun h27 => ?_)
      · skip
        refine lv_aload_n hx hb dH_page_32 rfl (lv_at hl 0 rfl) ?_
        refine rH_US X Y dH_page_33 ?_
        refine lv_iload_n hx hb dH_page_36 rfl (lv_at hl 1 rfl) ?_
        refine lH_US X Y (k := j) (by omega) dH_page_37 ?_
        refine bb_eq (tgt := 45) hx hb dH_page_38 (by decide) (fun h38 => ?_) (fun h38 => ?_)
        · skip
          refine lv_iconst (v := (nI (1))) hx hb dH_page_45 (by decide) ?_
          exact ret _ _ _ _ _ Y (by simp [h_page, hcl, h4, h15, h27, h38]) dH_page_46
        · skip
          refine lv_iconst (v := (nI (2))) hx hb dH_page_41 (by decide) ?_
          refine lv_goto (tgt := 46) hx hb dH_page_42 (by decide) ?_
          exact ret _ _ _ _ _ Y (by simp [h_page, hcl, h4, h15, h27, h38]) dH_page_46
      · skip
        refine lv_iconst (v := (nI (3))) hx hb dH_page_30 (by decide) ?_
        exact ret _ _ _ _ _ Y (by simp [h_page, hcl, h4, h15, h27]) dH_page_31
    · skip
      refine lv_iconst (v := (nI (0))) hx hb dH_page_18 (by decide) ?_
      exact ret _ _ _ _ _ Y (by simp [h_page, hcl, h4, h15]) dH_page_19
  · skip
    refine lv_iconst (v := (-1)) hx hb dH_page_7 (by decide) ?_
    exact ret _ _ _ _ _ Y (by simp [h_page, h4]) dH_page_8
set_option maxHeartbeats 1000000 in
set_option maxRecDepth 100000 in
theorem tH_count (l : Launch) (g : GG) (a : Nat → Nat) (ha : apH a) (s : HS) (q : Int32) : Ci l g (wldH g a) (adH a) yH_count kH_count ({ frames := 1, cells := 0, slots := 0, locals := 20 }) [.ref (a 0), .int (q)] s (h_count s q) s := by
  have hD := wldH_D (g := g) ha
  refine Ci.of (own := RH) (cc := cH_count) (nL := 2) hD (by decide) rfl (Nat.le_of_ble_eq_true rfl) ?_
  intro p e S m args below meth c Q X ret H locs ls Y hl
  have hx := X.1
  have hb := X.2.1
  have hl : lv_has ls 2 [(0, .ref (a 0)), (1, .int (q))] := hl
  refine lv_iload_n hx hb dH_count_0 rfl (lv_at hl 1 rfl) ?_
  refine cl_s (na := 1) (rest := []) X Y (tH_isPage l ((q)) ) gH_H_isPage (by decide +kernel) rfl ⟨rfl, rfl⟩ ⟨Nat.le_of_ble_eq_true rfl, Nat.le_of_ble_eq_true rfl⟩ ⟨Nat.zero_le _, Nat.zero_le _⟩ hl.1 rfl (Nat.le_of_ble_eq_true rfl) dH_count_1 (fun H locs Y => ?_)
  refine bb_eq (tgt := 16) hx hb dH_count_4 (by decide) (fun h4 => ?_) (fun h4 => ?_)
  · skip
    refine lv_iconst (v := (-1)) hx hb dH_count_16 (by decide) ?_
    exact ret _ _ _ _ _ Y (by first | simp [h_count, hcl, h4] | simp [h_count, h4]) dH_count_17
  · skip
    obtain ⟨j, hj, rfl⟩ := h_pg_of h4
    have hcl : (nI j).toNatClampNeg = j := nI_clamp (by omega)
    refine lv_aload_n hx hb dH_count_7 rfl (lv_at hl 0 rfl) ?_
    refine rH_CT X Y dH_count_8 ?_
    refine lv_iload_n hx hb dH_count_11 rfl (lv_at hl 1 rfl) ?_
    refine lH_CT X Y (k := j) (by omega) dH_count_12 ?_
    refine lv_goto (tgt := 17) hx hb dH_count_13 (by decide) ?_
    exact ret _ _ _ _ _ Y (by first | simp [h_count, hcl, h4] | simp [h_count, h4]) dH_count_17
set_option maxHeartbeats 1000000 in
set_option maxRecDepth 100000 in
theorem tH_places (l : Launch) (g : GG) (a : Nat → Nat) (ha : apH a) (s : HS) (q : Int32) : Ci l g (wldH g a) (adH a) yH_places kH_places ({ frames := 1, cells := 0, slots := 0, locals := 20 }) [.ref (a 0), .int (q)] s (h_places s q) s := by
  have hD := wldH_D (g := g) ha
  refine Ci.of (own := RH) (cc := cH_places) (nL := 5) hD (by decide) rfl (Nat.le_of_ble_eq_true rfl) ?_
  intro p e S m args below meth c Q X ret H locs ls Y hl
  have hx := X.1
  have hb := X.2.1
  have hl : lv_has ls 5 [(0, .ref (a 0)), (1, .int (q))] := hl
  refine lv_iload_n hx hb dH_places_0 rfl (lv_at hl 1 rfl) ?_
  refine cl_s (na := 1) (rest := []) X Y (tH_isPage l ((q)) ) gH_H_isPage (by decide +kernel) rfl ⟨rfl, rfl⟩ ⟨Nat.le_of_ble_eq_true rfl, Nat.le_of_ble_eq_true rfl⟩ ⟨Nat.zero_le _, Nat.zero_le _⟩ hl.1 rfl (Nat.le_of_ble_eq_true rfl) dH_places_1 (fun H locs Y => ?_)
  refine bb_ne (tgt := 9) hx hb dH_places_4 (by decide) (fun h4 => ?_) (fun h4 => ?_)
  · skip
    obtain ⟨j, hj, rfl⟩ := h_pg_of h4
    have hcl : (nI j).toNatClampNeg = j := nI_clamp (by omega)
    refine lv_iconst (v := (nI (0))) hx hb dH_places_9 (by decide) ?_
    refine lv_istore_n (lv' := [(2, .int (nI (0))), (0, .ref (a 0)), (1, .int (nI (j)))]) hx hb dH_places_10 rfl hl (by decide) rfl (fun ls hl => ?_)
    refine lv_iconst (v := (nI (0))) hx hb dH_places_11 (by decide) ?_
    refine lv_istore_n (lv' := [(3, .int (nI (0))), (2, .int (nI (0))), (0, .ref (a 0)), (1, .int (nI (j)))]) hx hb dH_places_12 rfl hl (by decide) rfl (fun ls hl => ?_)
    have loop13 : ∀ (n13 i13 : Nat) (k13 : Nat), i13 ≤ 4 → 4 < i13 + n13 → (fldN (h_pl1 s j) 0 i13 = k13) → ∀ (H : Heap) (locs : List Loc) (ls : Array Slot), Yw g (wldH g a) (adH a) S H locs s → lv_has ls 5 [(0, .ref (a 0)), (1, .int (nI (j))), (2, .int (nI (k13))), (3, .int (nI (i13)))] → W p l e ({ frames := 1, cells := 0, slots := 0, locals := 20 }) S m args below meth c H locs 0 0 Q (F0 m 13 ls []) := by
      intro n13
      induction n13 with
      | zero =>
        intro i13 k13 b1 b2
        exact absurd b2 (by omega)
      | succ n13 ih13 =>
        intro i13 k13 hi13 hn13 ek13 H locs ls Y hl
        refine lv_iload_n hx hb dH_places_13 rfl (lv_at hl 3 rfl) ?_
        refine lv_iconst (v := (nI (4))) hx hb dH_places_14 (by decide) ?_
        refine bn_ge (tgt := 64) hx hb dH_places_15 (by decide) (by omega) (by omega) (fun h15 => ?_) (fun h15 => ?_)
        · skip
          obtain rfl : i13 = 4 := by omega
          subst ek13
          refine lv_iload_n hx hb dH_places_64 rfl (lv_at hl 2 rfl) ?_
          exact ret _ _ _ _ _ Y (by simp [h_places, hcl, h4, h15]) dH_places_65
        · skip
          refine lv_iconst (v := (nI (4))) hx hb dH_places_18 (by decide) ?_
          refine lv_iload_n hx hb dH_places_19 rfl (lv_at hl 1 rfl) ?_
          refine bn_mul hx hb dH_places_20 ?_
          refine lv_iload_n hx hb dH_places_21 rfl (lv_at hl 3 rfl) ?_
          refine bn_add hx hb dH_places_22 ?_
          refine lv_istore (lv' := [(4, .int (nI ((4 * j) + i13))), (0, .ref (a 0)), (1, .int (nI (j))), (2, .int (nI (k13))), (3, .int (nI (i13)))]) hx hb dH_places_23 hl (by decide) rfl (fun ls hl => ?_)
          refine lv_aload_n hx hb dH_places_25 rfl (lv_at hl 1 rfl) ?_
          refine rH_TK X Y dH_places_26 ?_
          refine lv_iload hx hb dH_places_29 (lv_at hl 0 rfl) ?_
          refine lH_TK X Y (k := (4 * j) + i13) (by omega) dH_places_31 ?_
          refine bb_eq (tgt := 41) hx hb dH_places_32 (by decide) (fun h32 => ?_) (fun h32 => ?_)
          · skip
            refine lv_aload_n hx hb dH_places_41 rfl (lv_at hl 1 rfl) ?_
            refine rH_BM X Y dH_places_42 ?_
            refine lv_iload hx hb dH_places_45 (lv_at hl 0 rfl) ?_
            refine lH_BM X Y (k := (4 * j) + i13) (by omega) dH_places_47 ?_
            refine bb_eq (tgt := 58) hx hb dH_places_48 (by decide) (fun h48 => ?_) (fun h48 => ?_)
            · skip
              refine lv_iinc (v := (nI (i13 + 1))) (lv' := [(3, .int (nI (i13 + 1))), (4, .int (nI ((4 * j) + i13))), (0, .ref (a 0)), (1, .int (nI (j))), (2, .int (nI (k13)))]) hx hb dH_places_58 hl (k := 4) rfl (nI_1 _) (by decide) rfl (fun ls hl => ?_)
              refine lv_goto (tgt := 13) hx hb dH_places_61 (by decide) ?_
              exact ih13 (i13 + 1) k13 (by omega) (by omega) (by show h_pl1 s j i13 (fldN (h_pl1 s j) 0 i13) = _; rw [ek13]; simp [h_pl1, h4, h15, h32, h48]) _ _ _ Y (lv_sub hl [2, 3, 4, 0] rfl)
            · skip
              refine lv_iload_n hx hb dH_places_51 rfl (lv_at hl 3 rfl) ?_
              refine lv_bipush (v := (nI (16))) hx hb dH_places_52 (by decide) ?_
              refine lv_iload_n hx hb dH_places_54 rfl (lv_at hl 4 rfl) ?_
              refine lv_ishl hx hb dH_places_55 ?_
              refine bn_top (y := (nI (16 * 2 ^ i13))) (bn_shl4 (by omega) (by omega)) ?_
              refine bn_add hx hb dH_places_56 ?_
              refine lv_istore_n (lv' := [(2, .int (nI (k13 + (16 * 2 ^ i13)))), (4, .int (nI ((4 * j) + i13))), (0, .ref (a 0)), (1, .int (nI (j))), (3, .int (nI (i13)))]) hx hb dH_places_57 rfl hl (by decide) rfl (fun ls hl => ?_)
              refine lv_iinc (v := (nI (i13 + 1))) (lv' := [(3, .int (nI (i13 + 1))), (2, .int (nI (k13 + (16 * 2 ^ i13)))), (4, .int (nI ((4 * j) + i13))), (0, .ref (a 0)), (1, .int (nI (j)))]) hx hb dH_places_58 hl (k := 4) rfl (nI_1 _) (by decide) rfl (fun ls hl => ?_)
              refine lv_goto (tgt := 13) hx hb dH_places_61 (by decide) ?_
              exact ih13 (i13 + 1) (k13 + (16 * 2 ^ i13)) (by omega) (by omega) (by show h_pl1 s j i13 (fldN (h_pl1 s j) 0 i13) = _; rw [ek13]; simp [h_pl1, h4, h15, h32, h48]) _ _ _ Y (lv_sub hl [3, 4, 1, 0] rfl)
          · skip
            refine lv_iload_n hx hb dH_places_35 rfl (lv_at hl 3 rfl) ?_
            refine lv_iconst (v := (nI (1))) hx hb dH_places_36 (by decide) ?_
            refine lv_iload_n hx hb dH_places_37 rfl (lv_at hl 4 rfl) ?_
            refine lv_ishl hx hb dH_places_38 ?_
            refine bn_top (y := (nI (1 * 2 ^ i13))) (bn_shl4 (by omega) (by omega)) ?_
            refine bn_add hx hb dH_places_39 ?_
            refine lv_istore_n (lv' := [(2, .int (nI (k13 + (1 * 2 ^ i13)))), (4, .int (nI ((4 * j) + i13))), (0, .ref (a 0)), (1, .int (nI (j))), (3, .int (nI (i13)))]) hx hb dH_places_40 rfl hl (by decide) rfl (fun ls hl => ?_)
            refine lv_aload_n hx hb dH_places_41 rfl (lv_at hl 2 rfl) ?_
            refine rH_BM X Y dH_places_42 ?_
            refine lv_iload hx hb dH_places_45 (lv_at hl 1 rfl) ?_
            refine lH_BM X Y (k := (4 * j) + i13) (by omega) dH_places_47 ?_
            refine bb_eq (tgt := 58) hx hb dH_places_48 (by decide) (fun h48 => ?_) (fun h48 => ?_)
            · skip
              refine lv_iinc (v := (nI (i13 + 1))) (lv' := [(3, .int (nI (i13 + 1))), (2, .int (nI (k13 + (1 * 2 ^ i13)))), (4, .int (nI ((4 * j) + i13))), (0, .ref (a 0)), (1, .int (nI (j)))]) hx hb dH_places_58 hl (k := 4) rfl (nI_1 _) (by decide) rfl (fun ls hl => ?_)
              refine lv_goto (tgt := 13) hx hb dH_places_61 (by decide) ?_
              exact ih13 (i13 + 1) (k13 + (1 * 2 ^ i13)) (by omega) (by omega) (by show h_pl1 s j i13 (fldN (h_pl1 s j) 0 i13) = _; rw [ek13]; simp [h_pl1, h4, h15, h32, h48]) _ _ _ Y (lv_sub hl [3, 4, 1, 0] rfl)
            · skip
              refine lv_iload_n hx hb dH_places_51 rfl (lv_at hl 0 rfl) ?_
              refine lv_bipush (v := (nI (16))) hx hb dH_places_52 (by decide) ?_
              refine lv_iload_n hx hb dH_places_54 rfl (lv_at hl 4 rfl) ?_
              refine lv_ishl hx hb dH_places_55 ?_
              refine bn_top (y := (nI (16 * 2 ^ i13))) (bn_shl4 (by omega) (by omega)) ?_
              refine bn_add hx hb dH_places_56 ?_
              refine lv_istore_n (lv' := [(2, .int (nI ((k13 + (1 * 2 ^ i13)) + (16 * 2 ^ i13)))), (4, .int (nI ((4 * j) + i13))), (0, .ref (a 0)), (1, .int (nI (j))), (3, .int (nI (i13)))]) hx hb dH_places_57 rfl hl (by decide) rfl (fun ls hl => ?_)
              refine lv_iinc (v := (nI (i13 + 1))) (lv' := [(3, .int (nI (i13 + 1))), (2, .int (nI ((k13 + (1 * 2 ^ i13)) + (16 * 2 ^ i13)))), (4, .int (nI ((4 * j) + i13))), (0, .ref (a 0)), (1, .int (nI (j)))]) hx hb dH_places_58 hl (k := 4) rfl (nI_1 _) (by decide) rfl (fun ls hl => ?_)
              refine lv_goto (tgt := 13) hx hb dH_places_61 (by decide) ?_
              exact ih13 (i13 + 1) ((k13 + (1 * 2 ^ i13)) + (16 * 2 ^ i13)) (by omega) (by omega) (by show h_pl1 s j i13 (fldN (h_pl1 s j) 0 i13) = _; rw [ek13]; simp [h_pl1, h4, h15, h32, h48]) _ _ _ Y (lv_sub hl [3, 4, 1, 0] rfl)
    exact loop13 (4 + 1) 0 0 (by omega) (by omega) (rfl) _ _ _ Y (lv_sub hl [2, 3, 1, 0] rfl)
  · skip
    refine lv_iconst (v := (-1)) hx hb dH_places_7 (by decide) ?_
    exact ret _ _ _ _ _ Y (by simp [h_places, h4]) dH_places_8
set_option maxHeartbeats 1000000 in
set_option maxRecDepth 100000 in
theorem tH_hand (l : Launch) (g : GG) (a : Nat → Nat) (ha : apH a) (s : HS)  : Ci l g (wldH g a) (adH a) yH_hand kH_hand ({ frames := 0, cells := 0, slots := 0, locals := 0 }) [.ref (a 0)] s (nI ((gH_HA s).val)) s := by
  have hD := wldH_D (g := g) ha
  refine Ci.of (own := RH) (cc := cH_hand) (nL := 1) hD (by decide) rfl (Nat.le_of_ble_eq_true rfl) ?_
  intro p e S m args below meth c Q X ret H locs ls Y hl
  have hx := X.1
  have hb := X.2.1
  have hl : lv_has ls 1 [(0, .ref (a 0))] := hl
  refine lv_aload_n hx hb dH_hand_0 rfl (lv_at hl 0 rfl) ?_
  refine rH_HA X Y dH_hand_1 ?_
  have hq1 := (gH_HA s).isLt
  exact ret _ _ _ _ _ Y (rfl) dH_hand_4
