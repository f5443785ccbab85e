/-! written by wip/whole/specH.py -/
set_option maxHeartbeats 1000000 in
set_option maxRecDepth 100000 in
theorem tH_keep (l : Launch) (g : GG) (a : Nat → Nat) (ha : apH a) (s : HS) (x : Option (Fin 32)) (hks : KI s) : Cv l g (wldH g a) (adH a) yH_keep kH_keep ({ frames := 1, cells := 0, slots := 0, locals := 20 }) [.ref (a 0), .int (oI (x))] s (h_keep x s) := by
  have hD := wldH_D (g := g) ha
  refine Cv.of (own := RH) (cc := cH_keep) (nL := 2) hD (by decide) rfl (Nat.le_of_ble_eq_true rfl) ?_
  intro p e S m args below meth c Q X ret H locs ls Y hl
  have hx := X.1
  have hb := X.2.1
  have hl : lv_has ls 2 [(0, .ref (a 0)), (1, .int (oI (x)))] := hl
  refine lv_iload_n hx hb dH_keep_0 rfl (lv_at hl 1 rfl) ?_
  refine lv_iconst (v := (-1)) hx hb dH_keep_1 (by decide) ?_
  refine bo_eq (tgt := 27) hx hb dH_keep_2 (by decide) (fun h2 => ?_) (fun k1 h2 => ?_)
  · skip
    have E : s = h_keep x s := by first | (simp [h_keep, h2]; done) | (simp [h_keep, h2]; rfl)
    rw [E] at Y
    exact ret _ _ _ _ Y dH_keep_27
  · skip
    have hq2 := k1.isLt
    refine lv_aload_n hx hb dH_keep_5 rfl (lv_at hl 0 rfl) ?_
    refine rH_KP X Y dH_keep_6 ?_
    refine lv_iload_n hx hb dH_keep_9 rfl (lv_at hl 1 rfl) ?_
    refine bn_top (y := nI k1.val) (by rw [h2]; rfl) ?_
    refine lH_KP X Y (k := k1.val) (by omega) dH_keep_10 ?_
    refine bb_ne (tgt := 27) hx hb dH_keep_11 (by decide) (fun h11 => ?_) (fun h11 => ?_)
    · skip
      have E : s = h_keep x s := by first | (simp [h_keep, h2, h11]; done) | (simp [h_keep, h2, h11]; rfl)
      rw [E] at Y
      exact ret _ _ _ _ Y dH_keep_27
    · skip
      have hkl := KI_lt hks (k := k1.val) (by omega) h11
      have hkl2 : gH_KS (uH_KP s k1.val true) < 32 := hkl
      refine lv_aload_n hx hb dH_keep_14 rfl (lv_at hl 0 rfl) ?_
      refine rH_ST X Y dH_keep_15 ?_
      refine lv_iload_n hx hb dH_keep_18 rfl (lv_at hl 1 rfl) ?_
      refine bn_top (y := nI k1.val) (by rw [h2]; rfl) ?_
      refine cl_s (na := 1) (rest := [.ref (a 6)]) X Y (tH_pageOf l k1.val (by omega)) gH_H_pageOf (by decide +kernel) rfl ⟨rfl, rfl⟩ ⟨Nat.le_of_ble_eq_true rfl, Nat.le_of_ble_eq_true rfl⟩ ⟨Nat.zero_le _, Nat.zero_le _⟩ hl.1 rfl (Nat.le_of_ble_eq_true rfl) dH_keep_19 (fun H locs Y => ?_)
      refine lH_ST X Y (k := k1.val / 4) (by omega) dH_keep_22 ?_
      have hq4 := (gH_ST s (k1.val / 4)).isLt
      refine lv_iconst (v := (nI (1))) hx hb dH_keep_23 (by decide) ?_
      refine bn_eq (tgt := 28) hx hb dH_keep_24 (by decide) (by omega) (by omega) (fun h24 => ?_) (fun h24 => ?_)
      · skip
        refine lv_aload_n hx hb dH_keep_28 rfl (lv_at hl 0 rfl) ?_
        refine rH_KP X Y dH_keep_29 ?_
        refine lv_iload_n hx hb dH_keep_32 rfl (lv_at hl 1 rfl) ?_
        refine bn_top (y := nI k1.val) (by rw [h2]; rfl) ?_
        refine lv_iconst (v := (nI (1))) hx hb dH_keep_33 (by decide) ?_
        refine sH_KP X Y (k := k1.val) true (by decide) (by omega) dH_keep_34 (fun H locs Y => ?_)
        refine lv_aload_n hx hb dH_keep_35 rfl (lv_at hl 0 rfl) ?_
        refine rH_KL X Y dH_keep_36 ?_
        refine lv_aload_n hx hb dH_keep_39 rfl (lv_at hl 0 rfl) ?_
        refine rH_KS X Y dH_keep_40 ?_
        refine lv_iload_n hx hb dH_keep_43 rfl (lv_at hl 1 rfl) ?_
        refine bn_top (y := nI k1.val) (by rw [h2]; rfl) ?_
        refine sH_KL X Y (k := gH_KS (uH_KP s k1.val true)) (⟨k1.val, by omega⟩) rfl (by omega) dH_keep_44 (fun H locs Y => ?_)
        refine lv_aload_n hx hb dH_keep_45 rfl (lv_at hl 0 rfl) ?_
        refine lv_dup hx hb dH_keep_46 rfl ?_
        refine rH_KS X Y dH_keep_47 ?_
        refine lv_iconst (v := (nI (1))) hx hb dH_keep_50 (by decide) ?_
        refine bn_add hx hb dH_keep_51 ?_
        refine pH_KS X Y ((gH_KS (uH_KL (uH_KP s k1.val true) (gH_KS (uH_KP s k1.val true)) (⟨k1.val, by omega⟩))) + 1) rfl dH_keep_52 (fun H locs Y => ?_)
        have E : uH_KS (uH_KL (uH_KP s k1.val true) (gH_KS (uH_KP s k1.val true)) (⟨k1.val, by omega⟩)) ((gH_KS (uH_KL (uH_KP s k1.val true) (gH_KS (uH_KP s k1.val true)) (⟨k1.val, by omega⟩))) + 1) = h_keep x s := by first | (simp [h_keep, h2, h11, h24]; done) | (simp [h_keep, h2, h11, h24]; rfl)
        rw [E] at Y
        exact ret _ _ _ _ Y dH_keep_55
      · skip
        have E : s = h_keep x s := by first | (simp [h_keep, h2, h11, h24]; done) | (simp [h_keep, h2, h11, h24]; rfl)
        rw [E] at Y
        exact ret _ _ _ _ Y dH_keep_27
set_option maxHeartbeats 1000000 in
set_option maxRecDepth 100000 in
theorem tH_remove (l : Launch) (g : GG) (a : Nat → Nat) (ha : apH a) (s : HS) (q : Nat) (hq : q < 32) : Cv l g (wldH g a) (adH a) yH_remove kH_remove ({ frames := 0, cells := 0, slots := 0, locals := 0 }) [.ref (a 0), .int (nI (q))] s (h_remove q s) := by
  have hD := wldH_D (g := g) ha
  refine Cv.of (own := RH) (cc := cH_remove) (nL := 3) hD (by decide) rfl (Nat.le_of_ble_eq_true rfl) ?_
  intro p e S m args below meth c Q X ret H locs ls Y hl
  have hx := X.1
  have hb := X.2.1
  have hl : lv_has ls 3 [(0, .ref (a 0)), (1, .int (nI (q)))] := hl
  refine lv_aload_n hx hb dH_remove_0 rfl (lv_at hl 0 rfl) ?_
  refine rH_TK X Y dH_remove_1 ?_
  refine lv_iload_n hx hb dH_remove_4 rfl (lv_at hl 1 rfl) ?_
  refine lv_iconst (v := (nI (0))) hx hb dH_remove_5 (by decide) ?_
  refine sH_TK X Y (k := q) false (by decide) (by omega) dH_remove_6 (fun H locs Y => ?_)
  refine lv_iconst (v := (nI (0))) hx hb dH_remove_7 (by decide) ?_
  refine lv_istore_n (lv' := [(2, .int (nI (0))), (0, .ref (a 0)), (1, .int (nI (q)))]) hx hb dH_remove_8 rfl hl (by decide) rfl (fun ls hl => ?_)
  have loop9 : ∀ (n9 i9 : Nat) (σ9 : HS), i9 ≤ 2 → 2 < i9 + n9 → (fldN (h_rm1 q) (uH_TK s q false) i9 = σ9) → ∀ (H : Heap) (locs : List Loc) (ls : Array Slot), Yw g (wldH g a) (adH a) S H locs σ9 → lv_has ls 3 [(0, .ref (a 0)), (1, .int (nI (q))), (2, .int (nI (i9)))] → W p l e ({ frames := 0, cells := 0, slots := 0, locals := 0 }) S m args below meth c H locs 0 0 Q (F0 m 9 ls []) := by
    intro n9
    induction n9 with
    | zero =>
      intro i9 σ9 b1 b2
      exact absurd b2 (by omega)
    | succ n9 ih9 =>
      intro i9 σ9 hi9 hn9 eσ9 H locs ls Y hl
      refine lv_iload_n hx hb dH_remove_9 rfl (lv_at hl 2 rfl) ?_
      refine lv_iconst (v := (nI (2))) hx hb dH_remove_10 (by decide) ?_
      refine bn_ge (tgt := 31) hx hb dH_remove_11 (by decide) (by omega) (by omega) (fun h11 => ?_) (fun h11 => ?_)
      · skip
        obtain rfl : i9 = 2 := by omega
        subst eσ9
        have E : (fldN (h_rm1 q) (uH_TK s q false) 2) = h_remove q s := rfl
        rw [E] at Y
        exact ret _ _ _ _ Y dH_remove_31
      · skip
        refine lv_aload_n hx hb dH_remove_14 rfl (lv_at hl 0 rfl) ?_
        refine rH_FD X Y dH_remove_15 ?_
        refine lv_iconst (v := (nI (2))) hx hb dH_remove_18 (by decide) ?_
        refine lv_iload_n hx hb dH_remove_19 rfl (lv_at hl 1 rfl) ?_
        refine bn_mul hx hb dH_remove_20 ?_
        refine lv_iload_n hx hb dH_remove_21 rfl (lv_at hl 2 rfl) ?_
        refine bn_add hx hb dH_remove_22 ?_
        refine lv_iconst (v := (-1)) hx hb dH_remove_23 (by decide) ?_
        refine sH_FD X Y (k := (2 * q) + i9) none rfl (by omega) dH_remove_24 (fun H locs Y => ?_)
        refine lv_iinc (v := (nI (i9 + 1))) (lv' := [(2, .int (nI (i9 + 1))), (0, .ref (a 0)), (1, .int (nI (q)))]) hx hb dH_remove_25 hl (k := 2) rfl (nI_1 _) (by decide) rfl (fun ls hl => ?_)
        refine lv_goto (tgt := 9) hx hb dH_remove_28 (by decide) ?_
        exact ih9 (i9 + 1) (uH_FD σ9 ((2 * q) + i9) none) (by omega) (by omega) (by show h_rm1 q i9 (fldN (h_rm1 q) (uH_TK s q false) i9) = _; rw [eσ9]; simp [h_rm1, h11]) _ _ _ Y (lv_sub hl [1, 2, 0] rfl)
  exact loop9 (2 + 1) 0 ((uH_TK s q false)) (by omega) (by omega) (fldN_zero) _ _ _ Y (lv_sub hl [1, 2, 0] rfl)
set_option maxHeartbeats 1000000 in
set_option maxRecDepth 100000 in
theorem tH_isBare (l : Launch) (g : GG) (a : Nat → Nat) (ha : apH a) (s : HS) (v : Nat) (hv : v < 8) : Ci l g (wldH g a) (adH a) yH_isBare kH_isBare ({ frames := 1, cells := 0, slots := 0, locals := 20 }) [.ref (a 0), .int (nI (v))] s (bI (h_bare s v)) s := by
  have hD := wldH_D (g := g) ha
  refine Ci.ofZ (own := RH) (cc := cH_isBare) (nL := 4) hD (by decide) rfl (Nat.le_of_ble_eq_true rfl) ?_
  intro p e S m args below meth c Q X ret H locs ls Y hl
  have hx := X.1
  have hb := X.2.1
  have hl : lv_has ls 4 [(0, .ref (a 0)), (1, .int (nI (v)))] := hl
  refine lv_iload_n hx hb dH_isBare_0 rfl (lv_at hl 1 rfl) ?_
  refine cl_s (na := 1) (rest := []) X Y (tH_firstPlaceOf l v ) gH_H_firstPlaceOf (by decide +kernel) rfl ⟨rfl, rfl⟩ ⟨Nat.le_of_ble_eq_true rfl, Nat.le_of_ble_eq_true rfl⟩ ⟨Nat.zero_le _, Nat.zero_le _⟩ hl.1 rfl (Nat.le_of_ble_eq_true rfl) dH_isBare_1 (fun H locs Y => ?_)
  refine lv_istore_n (lv' := [(2, .int (nI (4 * v))), (0, .ref (a 0)), (1, .int (nI (v)))]) hx hb dH_isBare_4 rfl hl (by decide) rfl (fun ls hl => ?_)
  refine lv_iload_n hx hb dH_isBare_5 rfl (lv_at hl 0 rfl) ?_
  refine lv_istore_n (lv' := [(3, .int (nI (4 * v))), (2, .int (nI (4 * v))), (0, .ref (a 0)), (1, .int (nI (v)))]) hx hb dH_isBare_6 rfl hl (by decide) rfl (fun ls hl => ?_)
  have loop7 : ∀ (n7 i7 : Nat), i7 ≤ 4 → 4 < i7 + n7 → (∀ j, j < i7 → h_bab s v j = false) → ∀ (H : Heap) (locs : List Loc) (ls : Array Slot), Yw g (wldH g a) (adH a) S H locs s → lv_has ls 4 [(2, .int (nI (4 * v))), (0, .ref (a 0)), (1, .int (nI (v))), (3, .int (nI (4 * v + i7)))] → W p l e ({ frames := 1, cells := 0, slots := 0, locals := 20 }) S m args below meth c H locs 0 0 Q (F0 m 7 ls []) := by
    intro n7
    induction n7 with
    | zero =>
      intro i7 b1 b2
      exact absurd b2 (by omega)
    | succ n7 ih7 =>
      intro i7 hi7 hn7 hno H locs ls Y hl
      refine lv_iload_n hx hb dH_isBare_7 rfl (lv_at hl 3 rfl) ?_
      refine lv_iload_n hx hb dH_isBare_8 rfl (lv_at hl 0 rfl) ?_
      refine lv_iconst (v := (nI (4))) hx hb dH_isBare_9 (by decide) ?_
      refine bn_add hx hb dH_isBare_10 ?_
      refine bn_ge (tgt := 31) hx hb dH_isBare_11 (by decide) (by omega) (by omega) (fun h11 => ?_) (fun h11 => ?_)
      · skip
        refine lv_iconst (v := (nI (1))) hx hb dH_isBare_31 (by decide) ?_
        exact ret _ _ _ _ _ Y (by rw [show h_bare s v = true by (simp only [h_bare]; rw [anyN_f (n := 4) (fun j hj => hno j (by omega))]; rfl)]; decide) dH_isBare_32
      · skip
        refine lv_aload_n hx hb dH_isBare_14 rfl (lv_at hl 1 rfl) ?_
        refine rH_TK X Y dH_isBare_15 ?_
        refine lv_iload_n hx hb dH_isBare_18 rfl (lv_at hl 3 rfl) ?_
        refine lH_TK X Y (k := 4 * v + i7) (by omega) dH_isBare_19 ?_
        refine bb_eq (tgt := 25) hx hb dH_isBare_20 (by decide) (fun h20 => ?_) (fun h20 => ?_)
        · skip
          refine lv_iinc (v := (nI (4 * v + i7 + 1))) (lv' := [(3, .int (nI (4 * v + i7 + 1))), (2, .int (nI (4 * v))), (0, .ref (a 0)), (1, .int (nI (v)))]) hx hb dH_isBare_25 hl (k := 3) rfl (nI_1 _) (by decide) rfl (fun ls hl => ?_)
          refine lv_goto (tgt := 7) hx hb dH_isBare_28 (by decide) ?_
          exact ih7 (i7 + 1) (by omega) (by omega) (lt_s hno (by simp [h_bab, h11, h20])) _ _ _ Y (lv_sub hl [1, 2, 3, 0] rfl)
        · skip
          refine lv_iconst (v := (nI (0))) hx hb dH_isBare_23 (by decide) ?_
          exact ret _ _ _ _ _ Y (by rw [show h_bare s v = false by (simp only [h_bare]; rw [anyN_t (i := i7) (by simp [h_bab, h11, h20]) (by omega)]; rfl)]; decide) dH_isBare_24
  exact loop7 (4 + 1) 0 (by omega) (by omega) (fun j hj => absurd hj (by omega)) _ _ _ Y (lv_sub hl [1, 2, 3, 0] rfl)
set_option maxHeartbeats 1000000 in
set_option maxRecDepth 100000 in
theorem tH_markKept (l : Launch) (g : GG) (a : Nat → Nat) (ha : apH a) (s : HS)  : Cv l g (wldH g a) (adH a) yH_markKept kH_markKept ({ frames := 2, cells := 0, slots := 0, locals := 41 }) [.ref (a 0)] s (h_mark s) := by
  have hD := wldH_D (g := g) ha
  refine Cv.of (own := RH) (cc := cH_markKept) (nL := 3) hD (by decide) rfl (Nat.le_of_ble_eq_true rfl) ?_
  intro p e S m args below meth c Q X ret H locs ls Y hl
  have hx := X.1
  have hb := X.2.1
  have hl : lv_has ls 3 [(0, .ref (a 0))] := hl
  refine lv_iconst (v := (nI (0))) hx hb dH_markKept_0 (by decide) ?_
  refine lv_istore_n (lv' := [(1, .int (nI (0))), (0, .ref (a 0))]) hx hb dH_markKept_1 rfl hl (by decide) rfl (fun ls hl => ?_)
  have loop2 : ∀ (n2 i2 : Nat) (σ2 : HS), i2 ≤ 32 → 32 < i2 + n2 → (fldN h_k0 s i2 = σ2) → ∀ (H : Heap) (locs : List Loc) (ls : Array Slot), Yw g (wldH g a) (adH a) S H locs σ2 → lv_has ls 3 [(0, .ref (a 0)), (1, .int (nI (i2)))] → W p l e ({ frames := 2, cells := 0, slots := 0, locals := 41 }) S m args below meth c H locs 0 0 Q (F0 m 2 ls []) := by
    intro n2
    induction n2 with
    | zero =>
      intro i2 σ2 b1 b2
      exact absurd b2 (by omega)
    | succ n2 ih2 =>
      intro i2 σ2 hi2 hn2 eσ2 H locs ls Y hl
      refine lv_iload_n hx hb dH_markKept_2 rfl (lv_at hl 1 rfl) ?_
      refine lv_bipush (v := (nI (32))) hx hb dH_markKept_3 (by decide) ?_
      refine bn_ge (tgt := 21) hx hb dH_markKept_5 (by decide) (by omega) (by omega) (fun h5 => ?_) (fun h5 => ?_)
      · skip
        obtain rfl : i2 = 32 := by omega
        subst eσ2
        refine lv_aload_n hx hb dH_markKept_21 rfl (lv_at hl 0 rfl) ?_
        refine lv_iconst (v := (nI (0))) hx hb dH_markKept_22 (by decide) ?_
        refine pH_KS X Y 0 rfl dH_markKept_23 (fun H locs Y => ?_)
        refine lv_iconst (v := (nI (0))) hx hb dH_markKept_26 (by decide) ?_
        refine lv_istore_n (lv' := [(1, .int (nI (0))), (0, .ref (a 0))]) hx hb dH_markKept_27 rfl hl (by decide) rfl (fun ls hl => ?_)
        have loop28 : ∀ (n28 i28 : Nat) (σ28 : HS), i28 ≤ 4 → 4 < i28 + n28 → (fldN h_kr (uH_KS ((fldN h_k0 s 32)) 0) i28 = σ28) → (KI σ28) → ∀ (H : Heap) (locs : List Loc) (ls : Array Slot), Yw g (wldH g a) (adH a) S H locs σ28 → lv_has ls 3 [(0, .ref (a 0)), (1, .int (nI (i28)))] → W p l e ({ frames := 2, cells := 0, slots := 0, locals := 41 }) S m args below meth c H locs 0 0 Q (F0 m 28 ls []) := by
          intro n28
          induction n28 with
          | zero =>
            intro i28 σ28 b1 b2
            exact absurd b2 (by omega)
          | succ n28 ih28 =>
            intro i28 σ28 hi28 hn28 eσ28 hki28 H locs ls Y hl
            refine lv_iload_n hx hb dH_markKept_28 rfl (lv_at hl 1 rfl) ?_
            refine lv_iconst (v := (nI (4))) hx hb dH_markKept_29 (by decide) ?_
            refine bn_ge (tgt := 49) hx hb dH_markKept_30 (by decide) (by omega) (by omega) (fun h30 => ?_) (fun h30 => ?_)
            · skip
              obtain rfl : i28 = 4 := by omega
              subst eσ28
              refine lv_iconst (v := (nI (0))) hx hb dH_markKept_49 (by decide) ?_
              refine lv_istore_n (lv' := [(1, .int (nI (0))), (0, .ref (a 0))]) hx hb dH_markKept_50 rfl hl (by decide) rfl (fun ls hl => ?_)
              have loop51 : ∀ (n51 i51 : Nat) (σ51 : HS), i51 ≤ 32 → 32 < i51 + n51 → (fldN h_kb ((fldN h_kr (uH_KS ((fldN h_k0 s 32)) 0) 4)) i51 = σ51) → (KI σ51) → ∀ (H : Heap) (locs : List Loc) (ls : Array Slot), Yw g (wldH g a) (adH a) S H locs σ51 → lv_has ls 3 [(0, .ref (a 0)), (1, .int (nI (i51)))] → W p l e ({ frames := 2, cells := 0, slots := 0, locals := 41 }) S m args below meth c H locs 0 0 Q (F0 m 51 ls []) := by
                intro n51
                induction n51 with
                | zero =>
                  intro i51 σ51 b1 b2
                  exact absurd b2 (by omega)
                | succ n51 ih51 =>
                  intro i51 σ51 hi51 hn51 eσ51 hki51 H locs ls Y hl
                  refine lv_iload_n hx hb dH_markKept_51 rfl (lv_at hl 1 rfl) ?_
                  refine lv_bipush (v := (nI (32))) hx hb dH_markKept_52 (by decide) ?_
                  refine bn_ge (tgt := 77) hx hb dH_markKept_54 (by decide) (by omega) (by omega) (fun h54 => ?_) (fun h54 => ?_)
                  · skip
                    obtain rfl : i51 = 32 := by omega
                    subst eσ51
                    refine lv_iconst (v := (nI (0))) hx hb dH_markKept_77 (by decide) ?_
                    refine lv_istore_n (lv' := [(1, .int (nI (0))), (0, .ref (a 0))]) hx hb dH_markKept_78 rfl hl (by decide) rfl (fun ls hl => ?_)
                    have loop79 : ∀ (n79 i79 : Nat) (σ79 : HS), i79 ≤ 32 → 32 < i79 + n79 → (h_wl (32 - i79) i79 σ79 = h_wl 32 0 ((fldN h_kb ((fldN h_kr (uH_KS ((fldN h_k0 s 32)) 0) 4)) 32))) → (KI σ79) → ∀ (H : Heap) (locs : List Loc) (ls : Array Slot), Yw g (wldH g a) (adH a) S H locs σ79 → lv_has ls 3 [(0, .ref (a 0)), (1, .int (nI (i79)))] → W p l e ({ frames := 2, cells := 0, slots := 0, locals := 41 }) S m args below meth c H locs 0 0 Q (F0 m 79 ls []) := by
                      intro n79
                      induction n79 with
                      | zero =>
                        intro i79 σ79 b1 b2
                        exact absurd b2 (by omega)
                      | succ n79 ih79 =>
                        intro i79 σ79 hi79 hn79 eσ79 hki79 H locs ls Y hl
                        have hkl := KI_le hki79
                        refine lv_iload_n hx hb dH_markKept_79 rfl (lv_at hl 1 rfl) ?_
                        refine lv_aload_n hx hb dH_markKept_80 rfl (lv_at hl 0 rfl) ?_
                        refine rH_KS X Y dH_markKept_81 ?_
                        refine bn_ge (tgt := 131) hx hb dH_markKept_84 (by decide) (by omega) (by omega) (fun h84 => ?_) (fun h84 => ?_)
                        · skip
                          have E : σ79 = h_mark s := by first | exact (h_wl_stop h84).symm.trans eσ79 | exact (h_wl_end h90).symm.trans eσ79
                          rw [E] at Y
                          exact ret _ _ _ _ Y dH_markKept_131
                        · skip
                          refine lv_iload_n hx hb dH_markKept_87 rfl (lv_at hl 1 rfl) ?_
                          refine lv_bipush (v := (nI (32))) hx hb dH_markKept_88 (by decide) ?_
                          refine bn_ge (tgt := 131) hx hb dH_markKept_90 (by decide) (by omega) (by omega) (fun h90 => ?_) (fun h90 => ?_)
                          · skip
                            have E : σ79 = h_mark s := by first | exact (h_wl_stop h84).symm.trans eσ79 | exact (h_wl_end h90).symm.trans eσ79
                            rw [E] at Y
                            exact ret _ _ _ _ Y dH_markKept_131
                          · skip
                            refine lv_iconst (v := (nI (0))) hx hb dH_markKept_93 (by decide) ?_
                            refine lv_istore_n (lv' := [(2, .int (nI (0))), (0, .ref (a 0)), (1, .int (nI (i79)))]) hx hb dH_markKept_94 rfl hl (by decide) rfl (fun ls hl => ?_)
                            have loop95 : ∀ (n95 i95 : Nat) (σ95 : HS), i95 ≤ 2 → 2 < i95 + n95 → (fldN (h_wk i79) σ79 i95 = σ95) → (KI σ95) → ∀ (H : Heap) (locs : List Loc) (ls : Array Slot), Yw g (wldH g a) (adH a) S H locs σ95 → lv_has ls 3 [(0, .ref (a 0)), (1, .int (nI (i79))), (2, .int (nI (i95)))] → W p l e ({ frames := 2, cells := 0, slots := 0, locals := 41 }) S m args below meth c H locs 0 0 Q (F0 m 95 ls []) := by
                              intro n95
                              induction n95 with
                              | zero =>
                                intro i95 σ95 b1 b2
                                exact absurd b2 (by omega)
                              | succ n95 ih95 =>
                                intro i95 σ95 hi95 hn95 eσ95 hki95 H locs ls Y hl
                                refine lv_iload_n hx hb dH_markKept_95 rfl (lv_at hl 2 rfl) ?_
                                refine lv_iconst (v := (nI (2))) hx hb dH_markKept_96 (by decide) ?_
                                refine bn_ge (tgt := 125) hx hb dH_markKept_97 (by decide) (by omega) (by omega) (fun h97 => ?_) (fun h97 => ?_)
                                · skip
                                  obtain rfl : i95 = 2 := by omega
                                  subst eσ95
                                  refine lv_iinc (v := (nI (i79 + 1))) (lv' := [(1, .int (nI (i79 + 1))), (0, .ref (a 0)), (2, .int (nI (2)))]) hx hb dH_markKept_125 hl (k := 1) rfl (nI_1 _) (by decide) rfl (fun ls hl => ?_)
                                  refine lv_goto (tgt := 79) hx hb dH_markKept_128 (by decide) ?_
                                  exact ih79 (i79 + 1) ((fldN (h_wk i79) σ79 2)) (by omega) (by omega) (by rw [← eσ79, show 32 - i79 = (32 - (i79 + 1)) + 1 by omega]; simp [h_wl, h5, h30, h54, h84, h90, h97]) (hki95) _ _ _ Y (lv_sub hl [1, 0] rfl)
                                · skip
                                  refine lv_aload_n hx hb dH_markKept_100 rfl (lv_at hl 0 rfl) ?_
                                  refine lv_aload_n hx hb dH_markKept_101 rfl (lv_at hl 0 rfl) ?_
                                  refine rH_FD X Y dH_markKept_102 ?_
                                  refine lv_iconst (v := (nI (2))) hx hb dH_markKept_105 (by decide) ?_
                                  refine lv_aload_n hx hb dH_markKept_106 rfl (lv_at hl 0 rfl) ?_
                                  refine rH_KL X Y dH_markKept_107 ?_
                                  refine lv_iload_n hx hb dH_markKept_110 rfl (lv_at hl 1 rfl) ?_
                                  refine lH_KL X Y (k := i79) (by omega) dH_markKept_111 ?_
                                  have hq1 := (gH_KL σ95 i79).isLt
                                  refine bn_mul hx hb dH_markKept_112 ?_
                                  refine lv_iload_n hx hb dH_markKept_113 rfl (lv_at hl 2 rfl) ?_
                                  refine bn_add hx hb dH_markKept_114 ?_
                                  refine lH_FD X Y (k := (2 * ((gH_KL σ95 i79).val)) + i95) (by omega) dH_markKept_115 ?_
                                  refine cl_vv (na := 1) (rest := []) X hD Y (tH_keep l g a ha σ95 (gH_FD σ95 ((2 * ((gH_KL σ95 i79).val)) + i95)) (by assumption)) gH_H_keep (by decide +kernel) rfl rfl rfl ⟨rfl, rfl⟩ ⟨Nat.le_of_ble_eq_true rfl, Nat.le_of_ble_eq_true rfl⟩ ⟨Nat.zero_le _, Nat.zero_le _⟩ hl.1 rfl (Nat.le_of_ble_eq_true rfl) dH_markKept_116 (fun H locs Y => ?_)
                                  refine lv_iinc (v := (nI (i95 + 1))) (lv' := [(2, .int (nI (i95 + 1))), (0, .ref (a 0)), (1, .int (nI (i79)))]) hx hb dH_markKept_119 hl (k := 2) rfl (nI_1 _) (by decide) rfl (fun ls hl => ?_)
                                  refine lv_goto (tgt := 95) hx hb dH_markKept_122 (by decide) ?_
                                  exact ih95 (i95 + 1) (h_keep (gH_FD σ95 ((2 * ((gH_KL σ95 i79).val)) + i95)) σ95) (by omega) (by omega) (by show h_wk i79 i95 (fldN (h_wk i79) σ79 i95) = _; rw [eσ95]; simp [h_wk, h5, h30, h54, h84, h90, h97]) (KI_keep _ hki95) _ _ _ Y (lv_sub hl [1, 2, 0] rfl)
                            exact loop95 (2 + 1) 0 σ79 (by omega) (by omega) (fldN_zero) (hki79) _ _ _ Y (lv_sub hl [1, 2, 0] rfl)
                    exact loop79 (32 + 1) 0 (((fldN h_kb ((fldN h_kr (uH_KS ((fldN h_k0 s 32)) 0) 4)) 32))) (by omega) (by omega) (rfl) (hki51) _ _ _ Y (lv_sub hl [1, 0] rfl)
                  · skip
                    refine lv_aload_n hx hb dH_markKept_57 rfl (lv_at hl 0 rfl) ?_
                    refine rH_BM X Y dH_markKept_58 ?_
                    refine lv_iload_n hx hb dH_markKept_61 rfl (lv_at hl 1 rfl) ?_
                    refine lH_BM X Y (k := i51) (by omega) dH_markKept_62 ?_
                    refine bb_eq (tgt := 71) hx hb dH_markKept_63 (by decide) (fun h63 => ?_) (fun h63 => ?_)
                    · skip
                      refine lv_iinc (v := (nI (i51 + 1))) (lv' := [(1, .int (nI (i51 + 1))), (0, .ref (a 0))]) hx hb dH_markKept_71 hl (k := 1) rfl (nI_1 _) (by decide) rfl (fun ls hl => ?_)
                      refine lv_goto (tgt := 51) hx hb dH_markKept_74 (by decide) ?_
                      exact ih51 (i51 + 1) σ51 (by omega) (by omega) (by show h_kb i51 (fldN h_kb ((fldN h_kr (uH_KS ((fldN h_k0 s 32)) 0) 4)) i51) = _; rw [eσ51]; simp [h_kb, toP_some (show i51 < 32 by omega), h5, h30, h54, h63]) (by first | exact hki51 | exact KI_keep _ hki51) _ _ _ Y (lv_sub hl [1, 0] rfl)
                    · skip
                      refine lv_aload_n hx hb dH_markKept_66 rfl (lv_at hl 0 rfl) ?_
                      refine lv_iload_n hx hb dH_markKept_67 rfl (lv_at hl 1 rfl) ?_
                      refine cl_vv (na := 1) (rest := []) X hD Y (tH_keep l g a ha σ51 (some ⟨i51, by omega⟩) (by assumption)) gH_H_keep (by decide +kernel) rfl rfl rfl ⟨rfl, rfl⟩ ⟨Nat.le_of_ble_eq_true rfl, Nat.le_of_ble_eq_true rfl⟩ ⟨Nat.zero_le _, Nat.zero_le _⟩ hl.1 rfl (Nat.le_of_ble_eq_true rfl) dH_markKept_68 (fun H locs Y => ?_)
                      refine lv_iinc (v := (nI (i51 + 1))) (lv' := [(1, .int (nI (i51 + 1))), (0, .ref (a 0))]) hx hb dH_markKept_71 hl (k := 1) rfl (nI_1 _) (by decide) rfl (fun ls hl => ?_)
                      refine lv_goto (tgt := 51) hx hb dH_markKept_74 (by decide) ?_
                      exact ih51 (i51 + 1) (h_keep (some ⟨i51, by omega⟩) σ51) (by omega) (by omega) (by show h_kb i51 (fldN h_kb ((fldN h_kr (uH_KS ((fldN h_k0 s 32)) 0) 4)) i51) = _; rw [eσ51]; simp [h_kb, toP_some (show i51 < 32 by omega), h5, h30, h54, h63]) (by first | exact hki51 | exact KI_keep _ hki51) _ _ _ Y (lv_sub hl [1, 0] rfl)
              exact loop51 (32 + 1) 0 (((fldN h_kr (uH_KS ((fldN h_k0 s 32)) 0) 4))) (by omega) (by omega) (fldN_zero) (hki28) _ _ _ Y (lv_sub hl [1, 0] rfl)
            · skip
              refine lv_aload_n hx hb dH_markKept_33 rfl (lv_at hl 0 rfl) ?_
              refine lv_aload_n hx hb dH_markKept_34 rfl (lv_at hl 0 rfl) ?_
              refine rH_RG X Y dH_markKept_35 ?_
              refine lv_iload_n hx hb dH_markKept_38 rfl (lv_at hl 1 rfl) ?_
              refine lH_RG X Y (k := i28) (by omega) dH_markKept_39 ?_
              refine cl_vv (na := 1) (rest := []) X hD Y (tH_keep l g a ha σ28 (gH_RG σ28 i28) (by assumption)) gH_H_keep (by decide +kernel) rfl rfl rfl ⟨rfl, rfl⟩ ⟨Nat.le_of_ble_eq_true rfl, Nat.le_of_ble_eq_true rfl⟩ ⟨Nat.zero_le _, Nat.zero_le _⟩ hl.1 rfl (Nat.le_of_ble_eq_true rfl) dH_markKept_40 (fun H locs Y => ?_)
              refine lv_iinc (v := (nI (i28 + 1))) (lv' := [(1, .int (nI (i28 + 1))), (0, .ref (a 0))]) hx hb dH_markKept_43 hl (k := 1) rfl (nI_1 _) (by decide) rfl (fun ls hl => ?_)
              refine lv_goto (tgt := 28) hx hb dH_markKept_46 (by decide) ?_
              exact ih28 (i28 + 1) (h_keep (gH_RG σ28 i28) σ28) (by omega) (by omega) (by show h_kr i28 (fldN h_kr (uH_KS ((fldN h_k0 s 32)) 0) i28) = _; rw [eσ28]; simp [h_kr, h5, h30]) (KI_keep _ hki28) _ _ _ Y (lv_sub hl [1, 0] rfl)
        exact loop28 (4 + 1) 0 ((uH_KS ((fldN h_k0 s 32)) 0)) (by omega) (by omega) (fldN_zero) (KI_0 s) _ _ _ Y (lv_sub hl [1, 0] rfl)
      · skip
        refine lv_aload_n hx hb dH_markKept_8 rfl (lv_at hl 0 rfl) ?_
        refine rH_KP X Y dH_markKept_9 ?_
        refine lv_iload_n hx hb dH_markKept_12 rfl (lv_at hl 1 rfl) ?_
        refine lv_iconst (v := (nI (0))) hx hb dH_markKept_13 (by decide) ?_
        refine sH_KP X Y (k := i2) false (by decide) (by omega) dH_markKept_14 (fun H locs Y => ?_)
        refine lv_iinc (v := (nI (i2 + 1))) (lv' := [(1, .int (nI (i2 + 1))), (0, .ref (a 0))]) hx hb dH_markKept_15 hl (k := 1) rfl (nI_1 _) (by decide) rfl (fun ls hl => ?_)
        refine lv_goto (tgt := 2) hx hb dH_markKept_18 (by decide) ?_
        exact ih2 (i2 + 1) (uH_KP σ2 i2 false) (by omega) (by omega) (by show h_k0 i2 (fldN h_k0 s i2) = _; rw [eσ2]; simp [h_k0, h5]) _ _ _ Y (lv_sub hl [1, 0] rfl)
  exact loop2 (32 + 1) 0 s (by omega) (by omega) (fldN_zero) _ _ _ Y (lv_sub hl [1, 0] rfl)
set_option maxHeartbeats 1000000 in
set_option maxRecDepth 100000 in
theorem tH_collectWithin (l : Launch) (g : GG) (a : Nat → Nat) (ha : apH a) (s : HS)  : Ci l g (wldH g a) (adH a) yH_collectWithin kH_collectWithin ({ frames := 3, cells := 0, slots := 0, locals := 63 }) [.ref (a 0)] s (nI (h_gone s)) (h_collect s) := by
  have hD := wldH_D (g := g) ha
  refine Ci.of (own := RH) (cc := cH_collectWithin) (nL := 3) hD (by decide) rfl (Nat.le_of_ble_eq_true rfl) ?_
  intro p e S m args below meth c Q X ret H locs ls Y hl
  have hx := X.1
  have hb := X.2.1
  have hl : lv_has ls 3 [(0, .ref (a 0))] := hl
  refine lv_aload_n hx hb dH_collectWithin_0 rfl (lv_at hl 0 rfl) ?_
  refine cl_vv (na := 0) (rest := []) X hD Y (tH_markKept l g a ha s  ) gH_H_markKept (by decide +kernel) rfl rfl rfl ⟨rfl, rfl⟩ ⟨Nat.le_of_ble_eq_true rfl, Nat.le_of_ble_eq_true rfl⟩ ⟨Nat.zero_le _, Nat.zero_le _⟩ hl.1 rfl (Nat.le_of_ble_eq_true rfl) dH_collectWithin_1 (fun H locs Y => ?_)
  refine lv_iconst (v := (nI (0))) hx hb dH_collectWithin_4 (by decide) ?_
  refine lv_istore_n (lv' := [(1, .int (nI (0))), (0, .ref (a 0))]) hx hb dH_collectWithin_5 rfl hl (by decide) rfl (fun ls hl => ?_)
  refine lv_iconst (v := (nI (0))) hx hb dH_collectWithin_6 (by decide) ?_
  refine lv_istore_n (lv' := [(2, .int (nI (0))), (1, .int (nI (0))), (0, .ref (a 0))]) hx hb dH_collectWithin_7 rfl hl (by decide) rfl (fun ls hl => ?_)
  have loop8 : ∀ (n8 i8 : Nat) (k8 : Nat) (σ8 : HS), i8 ≤ 32 → 32 < i8 + n8 → (fldN h_co1 (0, h_mark s) i8 = (k8, σ8)) → (k8 ≤ i8) → ∀ (H : Heap) (locs : List Loc) (ls : Array Slot), Yw g (wldH g a) (adH a) S H locs σ8 → lv_has ls 3 [(0, .ref (a 0)), (1, .int (nI (k8))), (2, .int (nI (i8)))] → W p l e ({ frames := 3, cells := 0, slots := 0, locals := 63 }) S m args below meth c H locs 0 0 Q (F0 m 8 ls []) := by
    intro n8
    induction n8 with
    | zero =>
      intro i8 k8 σ8 b1 b2
      exact absurd b2 (by omega)
    | succ n8 ih8 =>
      intro i8 k8 σ8 hi8 hn8 e8 hk8 H locs ls Y hl
      refine lv_iload_n hx hb dH_collectWithin_8 rfl (lv_at hl 2 rfl) ?_
      refine lv_bipush (v := (nI (32))) hx hb dH_collectWithin_9 (by decide) ?_
      refine bn_ge (tgt := 59) hx hb dH_collectWithin_11 (by decide) (by omega) (by omega) (fun h11 => ?_) (fun h11 => ?_)
      · skip
        obtain rfl : i8 = 32 := by omega
        refine lv_iconst (v := (nI (0))) hx hb dH_collectWithin_59 (by decide) ?_
        refine lv_istore_n (lv' := [(2, .int (nI (0))), (0, .ref (a 0)), (1, .int (nI (k8)))]) hx hb dH_collectWithin_60 rfl hl (by decide) rfl (fun ls hl => ?_)
        have loop61 : ∀ (n61 i61 : Nat) (σ61 : HS), i61 ≤ 8 → 8 < i61 + n61 → (fldN h_co2 σ8 i61 = σ61) → ∀ (H : Heap) (locs : List Loc) (ls : Array Slot), Yw g (wldH g a) (adH a) S H locs σ61 → lv_has ls 3 [(0, .ref (a 0)), (1, .int (nI (k8))), (2, .int (nI (i61)))] → W p l e ({ frames := 3, cells := 0, slots := 0, locals := 63 }) S m args below meth c H locs 0 0 Q (F0 m 61 ls []) := by
          intro n61
          induction n61 with
          | zero =>
            intro i61 σ61 b1 b2
            exact absurd b2 (by omega)
          | succ n61 ih61 =>
            intro i61 σ61 hi61 hn61 eσ61 H locs ls Y hl
            refine lv_iload_n hx hb dH_collectWithin_61 rfl (lv_at hl 2 rfl) ?_
            refine lv_bipush (v := (nI (8))) hx hb dH_collectWithin_62 (by decide) ?_
            refine bn_ge (tgt := 105) hx hb dH_collectWithin_64 (by decide) (by omega) (by omega) (fun h64 => ?_) (fun h64 => ?_)
            · skip
              obtain rfl : i61 = 8 := by omega
              subst eσ61
              refine lv_iload_n hx hb dH_collectWithin_105 rfl (lv_at hl 1 rfl) ?_
              have E : (fldN h_co2 σ8 8) = h_collect s := by simp only [h_collect, h_cog, e8]
              rw [E] at Y
              exact ret _ _ _ _ _ Y (by simp only [h_gone, h_cog, e8]) dH_collectWithin_106
            · skip
              refine lv_aload_n hx hb dH_collectWithin_67 rfl (lv_at hl 0 rfl) ?_
              refine rH_ST X Y dH_collectWithin_68 ?_
              refine lv_iload_n hx hb dH_collectWithin_71 rfl (lv_at hl 2 rfl) ?_
              refine lH_ST X Y (k := i61) (by omega) dH_collectWithin_72 ?_
              have hq2 := (gH_ST σ61 i61).isLt
              refine lv_iconst (v := (nI (1))) hx hb dH_collectWithin_73 (by decide) ?_
              refine bn_ne (tgt := 99) hx hb dH_collectWithin_74 (by decide) (by omega) (by omega) (fun h74 => ?_) (fun h74 => ?_)
              · skip
                refine lv_iinc (v := (nI (i61 + 1))) (lv' := [(2, .int (nI (i61 + 1))), (0, .ref (a 0)), (1, .int (nI (k8)))]) hx hb dH_collectWithin_99 hl (k := 2) rfl (nI_1 _) (by decide) rfl (fun ls hl => ?_)
                refine lv_goto (tgt := 61) hx hb dH_collectWithin_102 (by decide) ?_
                exact ih61 (i61 + 1) σ61 (by omega) (by omega) (by show h_co2 i61 (fldN h_co2 σ8 i61) = _; rw [eσ61]; simp [h_co2, h11, h64, h74]) _ _ _ Y (lv_sub hl [1, 2, 0] rfl)
              · skip
                refine lv_aload_n hx hb dH_collectWithin_77 rfl (lv_at hl 0 rfl) ?_
                refine lv_iload_n hx hb dH_collectWithin_78 rfl (lv_at hl 2 rfl) ?_
                refine cl_vi (na := 1) (rest := []) X hD Y (tH_isBare l g a ha σ61 i61 (by omega)) gH_H_isBare (by decide +kernel) rfl rfl rfl ⟨rfl, rfl⟩ ⟨Nat.le_of_ble_eq_true rfl, Nat.le_of_ble_eq_true rfl⟩ ⟨Nat.zero_le _, Nat.zero_le _⟩ hl.1 rfl (Nat.le_of_ble_eq_true rfl) dH_collectWithin_79 (fun H locs Y => ?_)
                refine bb_eq (tgt := 99) hx hb dH_collectWithin_82 (by decide) (fun h82 => ?_) (fun h82 => ?_)
                · skip
                  refine lv_iinc (v := (nI (i61 + 1))) (lv' := [(2, .int (nI (i61 + 1))), (0, .ref (a 0)), (1, .int (nI (k8)))]) hx hb dH_collectWithin_99 hl (k := 2) rfl (nI_1 _) (by decide) rfl (fun ls hl => ?_)
                  refine lv_goto (tgt := 61) hx hb dH_collectWithin_102 (by decide) ?_
                  exact ih61 (i61 + 1) σ61 (by omega) (by omega) (by show h_co2 i61 (fldN h_co2 σ8 i61) = _; rw [eσ61]; simp [h_co2, h11, h64, h74, h82]) _ _ _ Y (lv_sub hl [1, 2, 0] rfl)
                · skip
                  refine lv_aload_n hx hb dH_collectWithin_85 rfl (lv_at hl 0 rfl) ?_
                  refine rH_ST X Y dH_collectWithin_86 ?_
                  refine lv_iload_n hx hb dH_collectWithin_89 rfl (lv_at hl 2 rfl) ?_
                  refine lv_iconst (v := (nI (0))) hx hb dH_collectWithin_90 (by decide) ?_
                  refine sH_ST X Y (k := i61) (⟨0, by omega⟩) rfl (by omega) dH_collectWithin_91 (fun H locs Y => ?_)
                  refine lv_aload_n hx hb dH_collectWithin_92 rfl (lv_at hl 0 rfl) ?_
                  refine rH_US X Y dH_collectWithin_93 ?_
                  refine lv_iload_n hx hb dH_collectWithin_96 rfl (lv_at hl 2 rfl) ?_
                  refine lv_iconst (v := (nI (0))) hx hb dH_collectWithin_97 (by decide) ?_
                  refine sH_US X Y (k := i61) false (by decide) (by omega) dH_collectWithin_98 (fun H locs Y => ?_)
                  refine lv_iinc (v := (nI (i61 + 1))) (lv' := [(2, .int (nI (i61 + 1))), (0, .ref (a 0)), (1, .int (nI (k8)))]) hx hb dH_collectWithin_99 hl (k := 2) rfl (nI_1 _) (by decide) rfl (fun ls hl => ?_)
                  refine lv_goto (tgt := 61) hx hb dH_collectWithin_102 (by decide) ?_
                  exact ih61 (i61 + 1) (uH_US (uH_ST σ61 i61 (⟨0, by omega⟩)) i61 false) (by omega) (by omega) (by show h_co2 i61 (fldN h_co2 σ8 i61) = _; rw [eσ61]; simp [h_co2, h11, h64, h74, h82]) _ _ _ Y (lv_sub hl [1, 2, 0] rfl)
        exact loop61 (8 + 1) 0 σ8 (by omega) (by omega) (fldN_zero) _ _ _ Y (lv_sub hl [1, 2, 0] rfl)
      · skip
        refine lv_aload_n hx hb dH_collectWithin_14 rfl (lv_at hl 0 rfl) ?_
        refine rH_TK X Y dH_collectWithin_15 ?_
        refine lv_iload_n hx hb dH_collectWithin_18 rfl (lv_at hl 2 rfl) ?_
        refine lH_TK X Y (k := i8) (by omega) dH_collectWithin_19 ?_
        refine bb_eq (tgt := 53) hx hb dH_collectWithin_20 (by decide) (fun h20 => ?_) (fun h20 => ?_)
        · skip
          refine lv_iinc (v := (nI (i8 + 1))) (lv' := [(2, .int (nI (i8 + 1))), (0, .ref (a 0)), (1, .int (nI (k8)))]) hx hb dH_collectWithin_53 hl (k := 2) rfl (nI_1 _) (by decide) rfl (fun ls hl => ?_)
          refine lv_goto (tgt := 8) hx hb dH_collectWithin_56 (by decide) ?_
          exact ih8 (i8 + 1) k8 σ8 (by omega) (by omega) (by show h_co1 i8 (fldN h_co1 (0, h_mark s) i8) = _; rw [e8]; simp [h_co1, h_gob, h11, h20]) (by omega) _ _ _ Y (lv_sub hl [1, 2, 0] rfl)
        · skip
          refine lv_aload_n hx hb dH_collectWithin_23 rfl (lv_at hl 0 rfl) ?_
          refine rH_ST X Y dH_collectWithin_24 ?_
          refine lv_iload_n hx hb dH_collectWithin_27 rfl (lv_at hl 2 rfl) ?_
          refine cl_s (na := 1) (rest := [.ref (a 6)]) X Y (tH_pageOf l i8 (by omega)) gH_H_pageOf (by decide +kernel) rfl ⟨rfl, rfl⟩ ⟨Nat.le_of_ble_eq_true rfl, Nat.le_of_ble_eq_true rfl⟩ ⟨Nat.zero_le _, Nat.zero_le _⟩ hl.1 rfl (Nat.le_of_ble_eq_true rfl) dH_collectWithin_28 (fun H locs Y => ?_)
          refine lH_ST X Y (k := i8 / 4) (by omega) dH_collectWithin_31 ?_
          have hq5 := (gH_ST σ8 (i8 / 4)).isLt
          refine lv_iconst (v := (nI (1))) hx hb dH_collectWithin_32 (by decide) ?_
          refine bn_ne (tgt := 53) hx hb dH_collectWithin_33 (by decide) (by omega) (by omega) (fun h33 => ?_) (fun h33 => ?_)
          · skip
            refine lv_iinc (v := (nI (i8 + 1))) (lv' := [(2, .int (nI (i8 + 1))), (0, .ref (a 0)), (1, .int (nI (k8)))]) hx hb dH_collectWithin_53 hl (k := 2) rfl (nI_1 _) (by decide) rfl (fun ls hl => ?_)
            refine lv_goto (tgt := 8) hx hb dH_collectWithin_56 (by decide) ?_
            exact ih8 (i8 + 1) k8 σ8 (by omega) (by omega) (by show h_co1 i8 (fldN h_co1 (0, h_mark s) i8) = _; rw [e8]; simp [h_co1, h_gob, h11, h20, h33]) (by omega) _ _ _ Y (lv_sub hl [1, 2, 0] rfl)
          · skip
            refine lv_aload_n hx hb dH_collectWithin_36 rfl (lv_at hl 0 rfl) ?_
            refine rH_KP X Y dH_collectWithin_37 ?_
            refine lv_iload_n hx hb dH_collectWithin_40 rfl (lv_at hl 2 rfl) ?_
            refine lH_KP X Y (k := i8) (by omega) dH_collectWithin_41 ?_
            refine bb_ne (tgt := 53) hx hb dH_collectWithin_42 (by decide) (fun h42 => ?_) (fun h42 => ?_)
            · skip
              refine lv_iinc (v := (nI (i8 + 1))) (lv' := [(2, .int (nI (i8 + 1))), (0, .ref (a 0)), (1, .int (nI (k8)))]) hx hb dH_collectWithin_53 hl (k := 2) rfl (nI_1 _) (by decide) rfl (fun ls hl => ?_)
              refine lv_goto (tgt := 8) hx hb dH_collectWithin_56 (by decide) ?_
              exact ih8 (i8 + 1) k8 σ8 (by omega) (by omega) (by show h_co1 i8 (fldN h_co1 (0, h_mark s) i8) = _; rw [e8]; simp [h_co1, h_gob, h11, h20, h33, h42]) (by omega) _ _ _ Y (lv_sub hl [1, 2, 0] rfl)
            · skip
              refine lv_aload_n hx hb dH_collectWithin_45 rfl (lv_at hl 0 rfl) ?_
              refine lv_iload_n hx hb dH_collectWithin_46 rfl (lv_at hl 2 rfl) ?_
              refine cl_vv (na := 1) (rest := []) X hD Y (tH_remove l g a ha σ8 i8 (by omega)) gH_H_remove (by decide +kernel) rfl rfl rfl ⟨rfl, rfl⟩ ⟨Nat.le_of_ble_eq_true rfl, Nat.le_of_ble_eq_true rfl⟩ ⟨Nat.zero_le _, Nat.zero_le _⟩ hl.1 rfl (Nat.le_of_ble_eq_true rfl) dH_collectWithin_47 (fun H locs Y => ?_)
              refine lv_iinc (v := (nI (k8 + 1))) (lv' := [(1, .int (nI (k8 + 1))), (0, .ref (a 0)), (2, .int (nI (i8)))]) hx hb dH_collectWithin_50 hl (k := 1) rfl (nI_1 _) (by decide) rfl (fun ls hl => ?_)
              refine lv_iinc (v := (nI (i8 + 1))) (lv' := [(2, .int (nI (i8 + 1))), (1, .int (nI (k8 + 1))), (0, .ref (a 0))]) hx hb dH_collectWithin_53 hl (k := 2) rfl (nI_1 _) (by decide) rfl (fun ls hl => ?_)
              refine lv_goto (tgt := 8) hx hb dH_collectWithin_56 (by decide) ?_
              exact ih8 (i8 + 1) (k8 + 1) (h_remove i8 σ8) (by omega) (by omega) (by show h_co1 i8 (fldN h_co1 (0, h_mark s) i8) = _; rw [e8]; simp [h_co1, h_gob, h11, h20, h33, h42]) (by omega) _ _ _ Y (lv_sub hl [2, 1, 0] rfl)
  exact loop8 (32 + 1) 0 0 ((h_mark s)) (by omega) (by omega) (rfl) (Nat.le_refl 0) _ _ _ Y (lv_sub hl [2, 1, 0] rfl)
