/-! written by wip/whole/specH.py -/
set_option maxHeartbeats 1000000 in
set_option maxRecDepth 100000 in
theorem tH_checkRegister_bad (l : Launch) (hl0 : l.stackTraces = false) (g : GG)  (r : Int32) (hr : m_reg r = false) : CX l g (fun _ : Unit => []) (fun _ => False) yH_checkRegister kH_checkRegister ({ frames := 6, cells := 1, slots := 6, locals := 82 }) [.int (r)] () exI () := by
  have hD := emp_D (A := fun _ => False)
  refine CX.of (own := RH) (cc := cH_checkRegister) (nL := 1) (ret := none) hD (by decide) rfl (Nat.le_of_ble_eq_true rfl) ?_
  intro p e S m args below meth c X hex hZ H locs ls Y hl
  have hx := X.1
  have hb := X.2.1
  have hl : lv_has ls 1 [(0, .int (r))] := hl
  refine lv_iload_n hx hb dH_checkRegister_0 rfl (lv_at hl 0 rfl) ?_
  refine lv_if_lt (tgt := 9) hx hb dH_checkRegister_1 (by decide) (fun h1 => ?_) (fun h1 => ?_)
  · skip
    exact cx_throw hl0 X hex hZ Y (by decide) cl_I at_I go_I hZ.2.2.2.2.1 hl.1 dH_checkRegister_9 dH_checkRegister_12 dH_checkRegister_13 dH_checkRegister_15 dH_checkRegister_18 ⟨Nat.le_of_ble_eq_true rfl, Nat.le_of_ble_eq_true rfl, Nat.le_of_ble_eq_true rfl, Nat.le_of_ble_eq_true rfl⟩
  · skip
    refine lv_iload_n hx hb dH_checkRegister_4 rfl (lv_at hl 0 rfl) ?_
    refine lv_iconst (v := (nI (4))) hx hb dH_checkRegister_5 (by decide) ?_
    refine lv_icmp_lt (tgt := 19) hx hb dH_checkRegister_6 (by decide) (fun h6 => ?_) (fun h6 => ?_)
    · skip
      exact absurd hr (by rw [m_reg_t h1 h6]; decide)
    · skip
      exact cx_throw hl0 X hex hZ Y (by decide) cl_I at_I go_I hZ.2.2.2.2.1 hl.1 dH_checkRegister_9 dH_checkRegister_12 dH_checkRegister_13 dH_checkRegister_15 dH_checkRegister_18 ⟨Nat.le_of_ble_eq_true rfl, Nat.le_of_ble_eq_true rfl, Nat.le_of_ble_eq_true rfl, Nat.le_of_ble_eq_true rfl⟩
set_option maxHeartbeats 1000000 in
set_option maxRecDepth 100000 in
theorem tH_checkField_bad (l : Launch) (hl0 : l.stackTraces = false) (g : GG)  (f : Int32) (hf : m_fld f = false) : CX l g (fun _ : Unit => []) (fun _ => False) yH_checkField kH_checkField ({ frames := 6, cells := 1, slots := 6, locals := 82 }) [.int (f)] () exI () := by
  have hD := emp_D (A := fun _ => False)
  refine CX.of (own := RH) (cc := cH_checkField) (nL := 1) (ret := none) hD (by decide) rfl (Nat.le_of_ble_eq_true rfl) ?_
  intro p e S m args below meth c X hex hZ H locs ls Y hl
  have hx := X.1
  have hb := X.2.1
  have hl : lv_has ls 1 [(0, .int (f))] := hl
  refine lv_iload_n hx hb dH_checkField_0 rfl (lv_at hl 0 rfl) ?_
  refine lv_if_lt (tgt := 9) hx hb dH_checkField_1 (by decide) (fun h1 => ?_) (fun h1 => ?_)
  · skip
    exact cx_throw hl0 X hex hZ Y (by decide) cl_I at_I go_I hZ.2.2.2.2.2.1 hl.1 dH_checkField_9 dH_checkField_12 dH_checkField_13 dH_checkField_15 dH_checkField_18 ⟨Nat.le_of_ble_eq_true rfl, Nat.le_of_ble_eq_true rfl, Nat.le_of_ble_eq_true rfl, Nat.le_of_ble_eq_true rfl⟩
  · skip
    refine lv_iload_n hx hb dH_checkField_4 rfl (lv_at hl 0 rfl) ?_
    refine lv_iconst (v := (nI (2))) hx hb dH_checkField_5 (by decide) ?_
    refine lv_icmp_lt (tgt := 19) hx hb dH_checkField_6 (by decide) (fun h6 => ?_) (fun h6 => ?_)
    · skip
      exact absurd hf (by rw [m_fld_t h1 h6]; decide)
    · skip
      exact cx_throw hl0 X hex hZ Y (by decide) cl_I at_I go_I hZ.2.2.2.2.2.1 hl.1 dH_checkField_9 dH_checkField_12 dH_checkField_13 dH_checkField_15 dH_checkField_18 ⟨Nat.le_of_ble_eq_true rfl, Nat.le_of_ble_eq_true rfl, Nat.le_of_ble_eq_true rfl, Nat.le_of_ble_eq_true rfl⟩
set_option maxHeartbeats 1000000 in
set_option maxRecDepth 100000 in
theorem tH_checkHolds_none (l : Launch) (hl0 : l.stackTraces = false) (g : GG) (a : Nat → Nat) (ha : apH a) (s : HS) (r : Nat) (hr : r < 4) (hk : gH_RG s r = none) : CX l g (wldH g a) (adH a) yH_checkHolds kH_checkHolds ({ frames := 6, cells := 1, slots := 6, locals := 82 }) [.ref (a 0), .int (nI (r))] s exA s := by
  have hD := wldH_D (g := g) ha
  refine CX.of (own := RH) (cc := cH_checkHolds) (nL := 2) (ret := none) hD (by decide) rfl (Nat.le_of_ble_eq_true rfl) ?_
  intro p e S m args below meth c X hex hZ H locs ls Y hl
  have hx := X.1
  have hb := X.2.1
  have hsub : ∀ q, adH a q → AX (adH a) S.heap.size q := fun q h => Or.inl h
  have hl : lv_has ls 2 [(0, .ref (a 0)), (1, .int (nI (r)))] := hl
  refine lv_aload_n hx hb dH_checkHolds_0 rfl (lv_at hl 0 rfl) ?_
  refine rH_RG X Y dH_checkHolds_1 ?_
  refine lv_iload_n hx hb dH_checkHolds_4 rfl (lv_at hl 1 rfl) ?_
  refine lH_RG X Y (k := r) (by omega) dH_checkHolds_5 ?_
  refine bn_top (y := (-1)) (by rw [hk]; rfl) ?_
  refine lv_iconst (v := (-1)) hx hb dH_checkHolds_6 (by decide) ?_
  refine bq_ne (tgt := 20) hx hb dH_checkHolds_7 (by decide) ?_
  exact cx_throw hl0 X hex hZ Y (by decide) cl_A at_A go_A hZ.2.2.2.2.2.2.1 hl.1 dH_checkHolds_10 dH_checkHolds_13 dH_checkHolds_14 dH_checkHolds_16 dH_checkHolds_19 ⟨Nat.le_of_ble_eq_true rfl, Nat.le_of_ble_eq_true rfl, Nat.le_of_ble_eq_true rfl, Nat.le_of_ble_eq_true rfl⟩
set_option maxHeartbeats 1000000 in
set_option maxRecDepth 100000 in
theorem tH_make_bad (l : Launch) (hl0 : l.stackTraces = false) (g : GG) (a : Nat → Nat) (ha : apH a) (s : HS) (r v : Int32) (hr : m_reg r = false) : CX l g (wldH g a) (adH a) yH_make kH_make ({ frames := 7, cells := 1, slots := 6, locals := 129 }) [.ref (a 0), .int (r), .int (v)] s exI s := by
  have hD := wldH_D (g := g) ha
  refine CX.of (own := RH) (cc := cH_make) (nL := 4) (ret := (some .int)) hD (by decide) rfl (Nat.le_of_ble_eq_true rfl) ?_
  intro p e S m args below meth c X hex hZ H locs ls Y hl
  have hx := X.1
  have hb := X.2.1
  have hsub : ∀ q, adH a q → AX (adH a) S.heap.size q := fun q h => Or.inl h
  have hl : lv_has ls 4 [(0, .ref (a 0)), (1, .int (r)), (2, .int (v))] := hl
  refine lv_iload_n hx hb dH_make_0 rfl (lv_at hl 1 rfl) ?_
  exact cx_s (na := 1) (rest := []) X hex hZ Y (tH_checkRegister_bad l hl0 g ((r)) (by assumption)) gH_H_checkRegister (by decide +kernel) rfl ⟨rfl, rfl⟩ ⟨Nat.le_of_ble_eq_true rfl, Nat.le_of_ble_eq_true rfl⟩ ⟨Nat.le_of_ble_eq_true rfl, Nat.le_of_ble_eq_true rfl⟩ hl.1 rfl (Nat.le_of_ble_eq_true rfl) dH_make_1
set_option maxHeartbeats 1000000 in
set_option maxRecDepth 100000 in
theorem tH_make_full (l : Launch) (hl0 : l.stackTraces = false) (g : GG) (a : Nat → Nat) (ha : apH a) (s : HS) (r : Nat) (v : Int32) (hr : r < 4) (hp : h_nwp s = none) : CX l g (wldH g a) (adH a) yH_make kH_make ({ frames := 6, cells := 1, slots := 6, locals := 129 }) [.ref (a 0), .int (nI (r)), .int (v)] s exS (h_nw r v s) := by
  have hD := wldH_D (g := g) ha
  refine CX.of (own := RH) (cc := cH_make) (nL := 4) (ret := (some .int)) hD (by decide) rfl (Nat.le_of_ble_eq_true rfl) ?_
  intro p e S m args below meth c X hex hZ H locs ls Y hl
  have hx := X.1
  have hb := X.2.1
  have hsub : ∀ q, adH a q → AX (adH a) S.heap.size q := fun q h => Or.inl h
  have hl : lv_has ls 4 [(0, .ref (a 0)), (1, .int (nI (r))), (2, .int (v))] := hl
  refine lv_iload_n hx hb dH_make_0 rfl (lv_at hl 1 rfl) ?_
  refine cl_sv (na := 1) (rest := []) X Y (tH_checkRegister_ok l r (by omega)) gH_H_checkRegister (by decide +kernel) rfl ⟨rfl, rfl⟩ ⟨Nat.le_of_ble_eq_true rfl, Nat.le_of_ble_eq_true rfl⟩ ⟨Nat.zero_le _, Nat.zero_le _⟩ hl.1 rfl (Nat.le_of_ble_eq_true rfl) dH_make_1 (fun H locs Y => ?_)
  refine lv_aload_n hx hb dH_make_4 rfl (lv_at hl 0 rfl) ?_
  refine lv_iconst (v := (nI (1))) hx hb dH_make_5 (by decide) ?_
  refine cl_vix (na := 1) (rest := []) hsub X hD Y (tH_takePlace l g a ha s true ) gH_H_takePlace (by decide +kernel) rfl rfl rfl ⟨rfl, rfl⟩ ⟨Nat.le_of_ble_eq_true rfl, Nat.le_of_ble_eq_true rfl⟩ ⟨Nat.zero_le _, Nat.zero_le _⟩ hl.1 rfl (Nat.le_of_ble_eq_true rfl) dH_make_6 (fun H locs Y => ?_)
  refine lv_istore_n (lv' := [(3, .int (oI (h_tkp s))), (0, .ref (a 0)), (1, .int (nI (r))), (2, .int (v))]) hx hb dH_make_9 rfl hl (by decide) rfl (fun ls hl => ?_)
  refine lv_iload_n hx hb dH_make_10 rfl (lv_at hl 0 rfl) ?_
  refine lv_iconst (v := (-1)) hx hb dH_make_11 (by decide) ?_
  refine bo_ne (tgt := 26) hx hb dH_make_12 (by decide) (fun k3 h12 => ?_) (fun h12 => ?_)
  · skip
    have hq4 := k3.isLt
    exact absurd ((h_nw_1 h12).1.symm.trans hp) (fun z => by cases z)
  · skip
    refine lv_aload_n hx hb dH_make_15 rfl (lv_at hl 1 rfl) ?_
    refine cl_vix (na := 0) (rest := []) hsub X hD Y (tH_collectWithin l g a ha (h_tks true s)  ) gH_H_collectWithin (by decide +kernel) rfl rfl rfl ⟨rfl, rfl⟩ ⟨Nat.le_of_ble_eq_true rfl, Nat.le_of_ble_eq_true rfl⟩ ⟨Nat.zero_le _, Nat.zero_le _⟩ hl.1 rfl (Nat.le_of_ble_eq_true rfl) dH_make_16 (fun H locs Y => ?_)
    refine lv_pop hx hb dH_make_19 rfl ?_
    refine lv_aload_n hx hb dH_make_20 rfl (lv_at hl 1 rfl) ?_
    refine lv_iconst (v := (nI (1))) hx hb dH_make_21 (by decide) ?_
    refine cl_vix (na := 1) (rest := []) hsub X hD Y (tH_takePlace l g a ha (h_collect (h_tks true s)) true ) gH_H_takePlace (by decide +kernel) rfl rfl rfl ⟨rfl, rfl⟩ ⟨Nat.le_of_ble_eq_true rfl, Nat.le_of_ble_eq_true rfl⟩ ⟨Nat.zero_le _, Nat.zero_le _⟩ hl.1 rfl (Nat.le_of_ble_eq_true rfl) dH_make_22 (fun H locs Y => ?_)
    refine lv_istore_n (lv' := [(3, .int (oI (h_tkp (h_collect (h_tks true s))))), (0, .ref (a 0)), (1, .int (nI (r))), (2, .int (v))]) hx hb dH_make_25 rfl hl (by decide) rfl (fun ls hl => ?_)
    refine lv_iload_n hx hb dH_make_26 rfl (lv_at hl 0 rfl) ?_
    refine lv_iconst (v := (-1)) hx hb dH_make_27 (by decide) ?_
    refine bo_ne (tgt := 36) hx hb dH_make_28 (by decide) (fun k7 h28 => ?_) (fun h28 => ?_)
    · skip
      have hq8 := k7.isLt
      exact absurd ((h_nw_2 h12 h28).1.symm.trans hp) (fun z => by cases z)
    · skip
      refine lv_aload_n hx hb dH_make_31 rfl (lv_at hl 1 rfl) ?_
      refine cl_vix (na := 0) (rest := []) hsub X hD Y (tH_takePlaceThoroughly l g a ha (h_tks true (h_collect (h_tks true s)))  ) gH_H_takePlaceThoroughly (by decide +kernel) rfl rfl rfl ⟨rfl, rfl⟩ ⟨Nat.le_of_ble_eq_true rfl, Nat.le_of_ble_eq_true rfl⟩ ⟨Nat.zero_le _, Nat.zero_le _⟩ hl.1 rfl (Nat.le_of_ble_eq_true rfl) dH_make_32 (fun H locs Y => ?_)
      refine lv_istore_n (lv' := [(3, .int (oI (h_ttp (h_tks true (h_collect (h_tks true s)))))), (0, .ref (a 0)), (1, .int (nI (r))), (2, .int (v))]) hx hb dH_make_35 rfl hl (by decide) rfl (fun ls hl => ?_)
      refine lv_iload_n hx hb dH_make_36 rfl (lv_at hl 0 rfl) ?_
      refine lv_iconst (v := (-1)) hx hb dH_make_37 (by decide) ?_
      refine bo_ne (tgt := 51) hx hb dH_make_38 (by decide) (fun k10 h38 => ?_) (fun h38 => ?_)
      · skip
        have hq11 := k10.isLt
        exact absurd (((h_nw_3 h12 h28).1.trans h38).symm.trans hp) (fun z => by cases z)
      · skip
        have E : h_tts (h_tks true (h_collect (h_tks true s))) = h_nw r v s := by rw [h_nw_n hp, (h_nw_3 h12 h28).2]; rfl
        rw [E] at Y
        exact cx_throw hl0 X hex hZ Y (by decide) cl_S at_S go_S hZ.2.2.1 hl.1 dH_make_41 dH_make_44 dH_make_45 dH_make_47 dH_make_50 ⟨Nat.le_of_ble_eq_true rfl, Nat.le_of_ble_eq_true rfl, Nat.le_of_ble_eq_true rfl, Nat.le_of_ble_eq_true rfl⟩
set_option maxHeartbeats 1000000 in
set_option maxRecDepth 100000 in
theorem tH_store_r (l : Launch) (hl0 : l.stackTraces = false) (g : GG) (a : Nat → Nat) (ha : apH a) (s : HS) (r f q : Int32) (hr : m_reg r = false) : CX l g (wldH g a) (adH a) yH_store kH_store ({ frames := 7, cells := 1, slots := 6, locals := 107 }) [.ref (a 0), .int (r), .int (f), .int (q)] s exI s := by
  have hD := wldH_D (g := g) ha
  refine CX.of (own := RH) (cc := cH_store) (nL := 5) (ret := (some .int)) hD (by decide) rfl (Nat.le_of_ble_eq_true rfl) ?_
  intro p e S m args below meth c X hex hZ H locs ls Y hl
  have hx := X.1
  have hb := X.2.1
  have hsub : ∀ q, adH a q → AX (adH a) S.heap.size q := fun q h => Or.inl h
  have hl : lv_has ls 5 [(0, .ref (a 0)), (1, .int (r)), (2, .int (f)), (3, .int (q))] := hl
  refine lv_iload_n hx hb dH_store_0 rfl (lv_at hl 1 rfl) ?_
  exact cx_s (na := 1) (rest := []) X hex hZ Y (tH_checkRegister_bad l hl0 g ((r)) (by assumption)) gH_H_checkRegister (by decide +kernel) rfl ⟨rfl, rfl⟩ ⟨Nat.le_of_ble_eq_true rfl, Nat.le_of_ble_eq_true rfl⟩ ⟨Nat.le_of_ble_eq_true rfl, Nat.le_of_ble_eq_true rfl⟩ hl.1 rfl (Nat.le_of_ble_eq_true rfl) dH_store_1
set_option maxHeartbeats 1000000 in
set_option maxRecDepth 100000 in
theorem tH_store_f (l : Launch) (hl0 : l.stackTraces = false) (g : GG) (a : Nat → Nat) (ha : apH a) (s : HS) (r : Nat) (f q : Int32) (hr : r < 4) (hf : m_fld f = false) : CX l g (wldH g a) (adH a) yH_store kH_store ({ frames := 7, cells := 1, slots := 6, locals := 107 }) [.ref (a 0), .int (nI (r)), .int (f), .int (q)] s exI s := by
  have hD := wldH_D (g := g) ha
  refine CX.of (own := RH) (cc := cH_store) (nL := 5) (ret := (some .int)) hD (by decide) rfl (Nat.le_of_ble_eq_true rfl) ?_
  intro p e S m args below meth c X hex hZ H locs ls Y hl
  have hx := X.1
  have hb := X.2.1
  have hsub : ∀ q, adH a q → AX (adH a) S.heap.size q := fun q h => Or.inl h
  have hl : lv_has ls 5 [(0, .ref (a 0)), (1, .int (nI (r))), (2, .int (f)), (3, .int (q))] := hl
  refine lv_iload_n hx hb dH_store_0 rfl (lv_at hl 1 rfl) ?_
  refine cl_sv (na := 1) (rest := []) X Y (tH_checkRegister_ok l r (by omega)) gH_H_checkRegister (by decide +kernel) rfl ⟨rfl, rfl⟩ ⟨Nat.le_of_ble_eq_true rfl, Nat.le_of_ble_eq_true rfl⟩ ⟨Nat.zero_le _, Nat.zero_le _⟩ hl.1 rfl (Nat.le_of_ble_eq_true rfl) dH_store_1 (fun H locs Y => ?_)
  refine lv_iload_n hx hb dH_store_4 rfl (lv_at hl 2 rfl) ?_
  exact cx_s (na := 1) (rest := []) X hex hZ Y (tH_checkField_bad l hl0 g ((f)) (by assumption)) gH_H_checkField (by decide +kernel) rfl ⟨rfl, rfl⟩ ⟨Nat.le_of_ble_eq_true rfl, Nat.le_of_ble_eq_true rfl⟩ ⟨Nat.le_of_ble_eq_true rfl, Nat.le_of_ble_eq_true rfl⟩ hl.1 rfl (Nat.le_of_ble_eq_true rfl) dH_store_5
set_option maxHeartbeats 1000000 in
set_option maxRecDepth 100000 in
theorem tH_store_q (l : Launch) (hl0 : l.stackTraces = false) (g : GG) (a : Nat → Nat) (ha : apH a) (s : HS) (r f : Nat) (q : Int32) (hr : r < 4) (hf : f < 2) (hq : m_reg q = false) : CX l g (wldH g a) (adH a) yH_store kH_store ({ frames := 7, cells := 1, slots := 6, locals := 107 }) [.ref (a 0), .int (nI (r)), .int (nI (f)), .int (q)] s exI s := by
  have hD := wldH_D (g := g) ha
  refine CX.of (own := RH) (cc := cH_store) (nL := 5) (ret := (some .int)) hD (by decide) rfl (Nat.le_of_ble_eq_true rfl) ?_
  intro p e S m args below meth c X hex hZ H locs ls Y hl
  have hx := X.1
  have hb := X.2.1
  have hsub : ∀ q, adH a q → AX (adH a) S.heap.size q := fun q h => Or.inl h
  have hl : lv_has ls 5 [(0, .ref (a 0)), (1, .int (nI (r))), (2, .int (nI (f))), (3, .int (q))] := hl
  refine lv_iload_n hx hb dH_store_0 rfl (lv_at hl 1 rfl) ?_
  refine cl_sv (na := 1) (rest := []) X Y (tH_checkRegister_ok l r (by omega)) gH_H_checkRegister (by decide +kernel) rfl ⟨rfl, rfl⟩ ⟨Nat.le_of_ble_eq_true rfl, Nat.le_of_ble_eq_true rfl⟩ ⟨Nat.zero_le _, Nat.zero_le _⟩ hl.1 rfl (Nat.le_of_ble_eq_true rfl) dH_store_1 (fun H locs Y => ?_)
  refine lv_iload_n hx hb dH_store_4 rfl (lv_at hl 2 rfl) ?_
  refine cl_sv (na := 1) (rest := []) X Y (tH_checkField_ok l f (by omega)) gH_H_checkField (by decide +kernel) rfl ⟨rfl, rfl⟩ ⟨Nat.le_of_ble_eq_true rfl, Nat.le_of_ble_eq_true rfl⟩ ⟨Nat.zero_le _, Nat.zero_le _⟩ hl.1 rfl (Nat.le_of_ble_eq_true rfl) dH_store_5 (fun H locs Y => ?_)
  refine lv_iload_n hx hb dH_store_8 rfl (lv_at hl 3 rfl) ?_
  exact cx_s (na := 1) (rest := []) X hex hZ Y (tH_checkRegister_bad l hl0 g ((q)) (by assumption)) gH_H_checkRegister (by decide +kernel) rfl ⟨rfl, rfl⟩ ⟨Nat.le_of_ble_eq_true rfl, Nat.le_of_ble_eq_true rfl⟩ ⟨Nat.le_of_ble_eq_true rfl, Nat.le_of_ble_eq_true rfl⟩ hl.1 rfl (Nat.le_of_ble_eq_true rfl) dH_store_9
set_option maxHeartbeats 1000000 in
set_option maxRecDepth 100000 in
theorem tH_store_n (l : Launch) (hl0 : l.stackTraces = false) (g : GG) (a : Nat → Nat) (ha : apH a) (s : HS) (r f q : Nat) (hr : r < 4) (hf : f < 2) (hq : q < 4) (hk : gH_RG s r = none) : CX l g (wldH g a) (adH a) yH_store kH_store ({ frames := 7, cells := 1, slots := 6, locals := 107 }) [.ref (a 0), .int (nI (r)), .int (nI (f)), .int (nI (q))] s exA s := by
  have hD := wldH_D (g := g) ha
  refine CX.of (own := RH) (cc := cH_store) (nL := 5) (ret := (some .int)) hD (by decide) rfl (Nat.le_of_ble_eq_true rfl) ?_
  intro p e S m args below meth c X hex hZ H locs ls Y hl
  have hx := X.1
  have hb := X.2.1
  have hsub : ∀ q, adH a q → AX (adH a) S.heap.size q := fun q h => Or.inl h
  have hl : lv_has ls 5 [(0, .ref (a 0)), (1, .int (nI (r))), (2, .int (nI (f))), (3, .int (nI (q)))] := hl
  refine lv_iload_n hx hb dH_store_0 rfl (lv_at hl 1 rfl) ?_
  refine cl_sv (na := 1) (rest := []) X Y (tH_checkRegister_ok l r (by omega)) gH_H_checkRegister (by decide +kernel) rfl ⟨rfl, rfl⟩ ⟨Nat.le_of_ble_eq_true rfl, Nat.le_of_ble_eq_true rfl⟩ ⟨Nat.zero_le _, Nat.zero_le _⟩ hl.1 rfl (Nat.le_of_ble_eq_true rfl) dH_store_1 (fun H locs Y => ?_)
  refine lv_iload_n hx hb dH_store_4 rfl (lv_at hl 2 rfl) ?_
  refine cl_sv (na := 1) (rest := []) X Y (tH_checkField_ok l f (by omega)) gH_H_checkField (by decide +kernel) rfl ⟨rfl, rfl⟩ ⟨Nat.le_of_ble_eq_true rfl, Nat.le_of_ble_eq_true rfl⟩ ⟨Nat.zero_le _, Nat.zero_le _⟩ hl.1 rfl (Nat.le_of_ble_eq_true rfl) dH_store_5 (fun H locs Y => ?_)
  refine lv_iload_n hx hb dH_store_8 rfl (lv_at hl 3 rfl) ?_
  refine cl_sv (na := 1) (rest := []) X Y (tH_checkRegister_ok l q (by omega)) gH_H_checkRegister (by decide +kernel) rfl ⟨rfl, rfl⟩ ⟨Nat.le_of_ble_eq_true rfl, Nat.le_of_ble_eq_true rfl⟩ ⟨Nat.zero_le _, Nat.zero_le _⟩ hl.1 rfl (Nat.le_of_ble_eq_true rfl) dH_store_9 (fun H locs Y => ?_)
  refine lv_aload_n hx hb dH_store_12 rfl (lv_at hl 0 rfl) ?_
  refine lv_iload_n hx hb dH_store_13 rfl (lv_at hl 1 rfl) ?_
  exact cx_v (na := 1) (rest := []) X hex hZ Y (tH_checkHolds_none l hl0 g a ha s r (by omega) hk) gH_H_checkHolds (by decide +kernel) rfl rfl rfl ⟨rfl, rfl⟩ ⟨Nat.le_of_ble_eq_true rfl, Nat.le_of_ble_eq_true rfl⟩ ⟨Nat.le_of_ble_eq_true rfl, Nat.le_of_ble_eq_true rfl⟩ hl.1 rfl (Nat.le_of_ble_eq_true rfl) dH_store_14
set_option maxHeartbeats 1000000 in
set_option maxRecDepth 100000 in
theorem tH_load_d (l : Launch) (hl0 : l.stackTraces = false) (g : GG) (a : Nat → Nat) (ha : apH a) (s : HS) (d r f : Int32) (hd : m_reg d = false) : CX l g (wldH g a) (adH a) yH_load kH_load ({ frames := 7, cells := 1, slots := 6, locals := 107 }) [.ref (a 0), .int (d), .int (r), .int (f)] s exI s := by
  have hD := wldH_D (g := g) ha
  refine CX.of (own := RH) (cc := cH_load) (nL := 5) (ret := (some .int)) hD (by decide) rfl (Nat.le_of_ble_eq_true rfl) ?_
  intro p e S m args below meth c X hex hZ H locs ls Y hl
  have hx := X.1
  have hb := X.2.1
  have hsub : ∀ q, adH a q → AX (adH a) S.heap.size q := fun q h => Or.inl h
  have hl : lv_has ls 5 [(0, .ref (a 0)), (1, .int (d)), (2, .int (r)), (3, .int (f))] := hl
  refine lv_iload_n hx hb dH_load_0 rfl (lv_at hl 1 rfl) ?_
  exact cx_s (na := 1) (rest := []) X hex hZ Y (tH_checkRegister_bad l hl0 g ((d)) (by assumption)) gH_H_checkRegister (by decide +kernel) rfl ⟨rfl, rfl⟩ ⟨Nat.le_of_ble_eq_true rfl, Nat.le_of_ble_eq_true rfl⟩ ⟨Nat.le_of_ble_eq_true rfl, Nat.le_of_ble_eq_true rfl⟩ hl.1 rfl (Nat.le_of_ble_eq_true rfl) dH_load_1
set_option maxHeartbeats 1000000 in
set_option maxRecDepth 100000 in
theorem tH_load_r (l : Launch) (hl0 : l.stackTraces = false) (g : GG) (a : Nat → Nat) (ha : apH a) (s : HS) (d : Nat) (r f : Int32) (hd : d < 4) (hr : m_reg r = false) : CX l g (wldH g a) (adH a) yH_load kH_load ({ frames := 7, cells := 1, slots := 6, locals := 107 }) [.ref (a 0), .int (nI (d)), .int (r), .int (f)] s exI s := by
  have hD := wldH_D (g := g) ha
  refine CX.of (own := RH) (cc := cH_load) (nL := 5) (ret := (some .int)) hD (by decide) rfl (Nat.le_of_ble_eq_true rfl) ?_
  intro p e S m args below meth c X hex hZ H locs ls Y hl
  have hx := X.1
  have hb := X.2.1
  have hsub : ∀ q, adH a q → AX (adH a) S.heap.size q := fun q h => Or.inl h
  have hl : lv_has ls 5 [(0, .ref (a 0)), (1, .int (nI (d))), (2, .int (r)), (3, .int (f))] := hl
  refine lv_iload_n hx hb dH_load_0 rfl (lv_at hl 1 rfl) ?_
  refine cl_sv (na := 1) (rest := []) X Y (tH_checkRegister_ok l d (by omega)) gH_H_checkRegister (by decide +kernel) rfl ⟨rfl, rfl⟩ ⟨Nat.le_of_ble_eq_true rfl, Nat.le_of_ble_eq_true rfl⟩ ⟨Nat.zero_le _, Nat.zero_le _⟩ hl.1 rfl (Nat.le_of_ble_eq_true rfl) dH_load_1 (fun H locs Y => ?_)
  refine lv_iload_n hx hb dH_load_4 rfl (lv_at hl 2 rfl) ?_
  exact cx_s (na := 1) (rest := []) X hex hZ Y (tH_checkRegister_bad l hl0 g ((r)) (by assumption)) gH_H_checkRegister (by decide +kernel) rfl ⟨rfl, rfl⟩ ⟨Nat.le_of_ble_eq_true rfl, Nat.le_of_ble_eq_true rfl⟩ ⟨Nat.le_of_ble_eq_true rfl, Nat.le_of_ble_eq_true rfl⟩ hl.1 rfl (Nat.le_of_ble_eq_true rfl) dH_load_5
set_option maxHeartbeats 1000000 in
set_option maxRecDepth 100000 in
theorem tH_load_f (l : Launch) (hl0 : l.stackTraces = false) (g : GG) (a : Nat → Nat) (ha : apH a) (s : HS) (d r : Nat) (f : Int32) (hd : d < 4) (hr : r < 4) (hf : m_fld f = false) : CX l g (wldH g a) (adH a) yH_load kH_load ({ frames := 7, cells := 1, slots := 6, locals := 107 }) [.ref (a 0), .int (nI (d)), .int (nI (r)), .int (f)] s exI s := by
  have hD := wldH_D (g := g) ha
  refine CX.of (own := RH) (cc := cH_load) (nL := 5) (ret := (some .int)) hD (by decide) rfl (Nat.le_of_ble_eq_true rfl) ?_
  intro p e S m args below meth c X hex hZ H locs ls Y hl
  have hx := X.1
  have hb := X.2.1
  have hsub : ∀ q, adH a q → AX (adH a) S.heap.size q := fun q h => Or.inl h
  have hl : lv_has ls 5 [(0, .ref (a 0)), (1, .int (nI (d))), (2, .int (nI (r))), (3, .int (f))] := hl
  refine lv_iload_n hx hb dH_load_0 rfl (lv_at hl 1 rfl) ?_
  refine cl_sv (na := 1) (rest := []) X Y (tH_checkRegister_ok l d (by omega)) gH_H_checkRegister (by decide +kernel) rfl ⟨rfl, rfl⟩ ⟨Nat.le_of_ble_eq_true rfl, Nat.le_of_ble_eq_true rfl⟩ ⟨Nat.zero_le _, Nat.zero_le _⟩ hl.1 rfl (Nat.le_of_ble_eq_true rfl) dH_load_1 (fun H locs Y => ?_)
  refine lv_iload_n hx hb dH_load_4 rfl (lv_at hl 2 rfl) ?_
  refine cl_sv (na := 1) (rest := []) X Y (tH_checkRegister_ok l r (by omega)) gH_H_checkRegister (by decide +kernel) rfl ⟨rfl, rfl⟩ ⟨Nat.le_of_ble_eq_true rfl, Nat.le_of_ble_eq_true rfl⟩ ⟨Nat.zero_le _, Nat.zero_le _⟩ hl.1 rfl (Nat.le_of_ble_eq_true rfl) dH_load_5 (fun H locs Y => ?_)
  refine lv_iload_n hx hb dH_load_8 rfl (lv_at hl 3 rfl) ?_
  exact cx_s (na := 1) (rest := []) X hex hZ Y (tH_checkField_bad l hl0 g ((f)) (by assumption)) gH_H_checkField (by decide +kernel) rfl ⟨rfl, rfl⟩ ⟨Nat.le_of_ble_eq_true rfl, Nat.le_of_ble_eq_true rfl⟩ ⟨Nat.le_of_ble_eq_true rfl, Nat.le_of_ble_eq_true rfl⟩ hl.1 rfl (Nat.le_of_ble_eq_true rfl) dH_load_9
set_option maxHeartbeats 1000000 in
set_option maxRecDepth 100000 in
theorem tH_load_n (l : Launch) (hl0 : l.stackTraces = false) (g : GG) (a : Nat → Nat) (ha : apH a) (s : HS) (d r f : Nat) (hd : d < 4) (hr : r < 4) (hf : f < 2) (hk : gH_RG s r = none) : CX l g (wldH g a) (adH a) yH_load kH_load ({ frames := 7, cells := 1, slots := 6, locals := 107 }) [.ref (a 0), .int (nI (d)), .int (nI (r)), .int (nI (f))] s exA s := by
  have hD := wldH_D (g := g) ha
  refine CX.of (own := RH) (cc := cH_load) (nL := 5) (ret := (some .int)) hD (by decide) rfl (Nat.le_of_ble_eq_true rfl) ?_
  intro p e S m args below meth c X hex hZ H locs ls Y hl
  have hx := X.1
  have hb := X.2.1
  have hsub : ∀ q, adH a q → AX (adH a) S.heap.size q := fun q h => Or.inl h
  have hl : lv_has ls 5 [(0, .ref (a 0)), (1, .int (nI (d))), (2, .int (nI (r))), (3, .int (nI (f)))] := hl
  refine lv_iload_n hx hb dH_load_0 rfl (lv_at hl 1 rfl) ?_
  refine cl_sv (na := 1) (rest := []) X Y (tH_checkRegister_ok l d (by omega)) gH_H_checkRegister (by decide +kernel) rfl ⟨rfl, rfl⟩ ⟨Nat.le_of_ble_eq_true rfl, Nat.le_of_ble_eq_true rfl⟩ ⟨Nat.zero_le _, Nat.zero_le _⟩ hl.1 rfl (Nat.le_of_ble_eq_true rfl) dH_load_1 (fun H locs Y => ?_)
  refine lv_iload_n hx hb dH_load_4 rfl (lv_at hl 2 rfl) ?_
  refine cl_sv (na := 1) (rest := []) X Y (tH_checkRegister_ok l r (by omega)) gH_H_checkRegister (by decide +kernel) rfl ⟨rfl, rfl⟩ ⟨Nat.le_of_ble_eq_true rfl, Nat.le_of_ble_eq_true rfl⟩ ⟨Nat.zero_le _, Nat.zero_le _⟩ hl.1 rfl (Nat.le_of_ble_eq_true rfl) dH_load_5 (fun H locs Y => ?_)
  refine lv_iload_n hx hb dH_load_8 rfl (lv_at hl 3 rfl) ?_
  refine cl_sv (na := 1) (rest := []) X Y (tH_checkField_ok l f (by omega)) gH_H_checkField (by decide +kernel) rfl ⟨rfl, rfl⟩ ⟨Nat.le_of_ble_eq_true rfl, Nat.le_of_ble_eq_true rfl⟩ ⟨Nat.zero_le _, Nat.zero_le _⟩ hl.1 rfl (Nat.le_of_ble_eq_true rfl) dH_load_9 (fun H locs Y => ?_)
  refine lv_aload_n hx hb dH_load_12 rfl (lv_at hl 0 rfl) ?_
  refine lv_iload_n hx hb dH_load_13 rfl (lv_at hl 2 rfl) ?_
  exact cx_v (na := 1) (rest := []) X hex hZ Y (tH_checkHolds_none l hl0 g a ha s r (by omega) hk) gH_H_checkHolds (by decide +kernel) rfl rfl rfl ⟨rfl, rfl⟩ ⟨Nat.le_of_ble_eq_true rfl, Nat.le_of_ble_eq_true rfl⟩ ⟨Nat.le_of_ble_eq_true rfl, Nat.le_of_ble_eq_true rfl⟩ hl.1 rfl (Nat.le_of_ble_eq_true rfl) dH_load_14
set_option maxHeartbeats 1000000 in
set_option maxRecDepth 100000 in
theorem tH_value_r (l : Launch) (hl0 : l.stackTraces = false) (g : GG) (a : Nat → Nat) (ha : apH a) (s : HS) (r : Int32) (hr : m_reg r = false) : CX l g (wldH g a) (adH a) yH_value kH_value ({ frames := 7, cells := 1, slots := 6, locals := 107 }) [.ref (a 0), .int (r)] s exI s := by
  have hD := wldH_D (g := g) ha
  refine CX.of (own := RH) (cc := cH_value) (nL := 3) (ret := (some .int)) hD (by decide) rfl (Nat.le_of_ble_eq_true rfl) ?_
  intro p e S m args below meth c X hex hZ H locs ls Y hl
  have hx := X.1
  have hb := X.2.1
  have hsub : ∀ q, adH a q → AX (adH a) S.heap.size q := fun q h => Or.inl h
  have hl : lv_has ls 3 [(0, .ref (a 0)), (1, .int (r))] := hl
  refine lv_iload_n hx hb dH_value_0 rfl (lv_at hl 1 rfl) ?_
  exact cx_s (na := 1) (rest := []) X hex hZ Y (tH_checkRegister_bad l hl0 g ((r)) (by assumption)) gH_H_checkRegister (by decide +kernel) rfl ⟨rfl, rfl⟩ ⟨Nat.le_of_ble_eq_true rfl, Nat.le_of_ble_eq_true rfl⟩ ⟨Nat.le_of_ble_eq_true rfl, Nat.le_of_ble_eq_true rfl⟩ hl.1 rfl (Nat.le_of_ble_eq_true rfl) dH_value_1
set_option maxHeartbeats 1000000 in
set_option maxRecDepth 100000 in
theorem tH_value_n (l : Launch) (hl0 : l.stackTraces = false) (g : GG) (a : Nat → Nat) (ha : apH a) (s : HS) (r : Nat) (hr : r < 4) (hk : gH_RG s r = none) : CX l g (wldH g a) (adH a) yH_value kH_value ({ frames := 7, cells := 1, slots := 6, locals := 107 }) [.ref (a 0), .int (nI (r))] s exA s := by
  have hD := wldH_D (g := g) ha
  refine CX.of (own := RH) (cc := cH_value) (nL := 3) (ret := (some .int)) hD (by decide) rfl (Nat.le_of_ble_eq_true rfl) ?_
  intro p e S m args below meth c X hex hZ H locs ls Y hl
  have hx := X.1
  have hb := X.2.1
  have hsub : ∀ q, adH a q → AX (adH a) S.heap.size q := fun q h => Or.inl h
  have hl : lv_has ls 3 [(0, .ref (a 0)), (1, .int (nI (r)))] := hl
  refine lv_iload_n hx hb dH_value_0 rfl (lv_at hl 1 rfl) ?_
  refine cl_sv (na := 1) (rest := []) X Y (tH_checkRegister_ok l r (by omega)) gH_H_checkRegister (by decide +kernel) rfl ⟨rfl, rfl⟩ ⟨Nat.le_of_ble_eq_true rfl, Nat.le_of_ble_eq_true rfl⟩ ⟨Nat.zero_le _, Nat.zero_le _⟩ hl.1 rfl (Nat.le_of_ble_eq_true rfl) dH_value_1 (fun H locs Y => ?_)
  refine lv_aload_n hx hb dH_value_4 rfl (lv_at hl 0 rfl) ?_
  refine lv_iload_n hx hb dH_value_5 rfl (lv_at hl 1 rfl) ?_
  exact cx_v (na := 1) (rest := []) X hex hZ Y (tH_checkHolds_none l hl0 g a ha s r (by omega) hk) gH_H_checkHolds (by decide +kernel) rfl rfl rfl ⟨rfl, rfl⟩ ⟨Nat.le_of_ble_eq_true rfl, Nat.le_of_ble_eq_true rfl⟩ ⟨Nat.le_of_ble_eq_true rfl, Nat.le_of_ble_eq_true rfl⟩ hl.1 rfl (Nat.le_of_ble_eq_true rfl) dH_value_6
set_option maxHeartbeats 1000000 in
set_option maxRecDepth 100000 in
theorem tH_copy_d (l : Launch) (hl0 : l.stackTraces = false) (g : GG) (a : Nat → Nat) (ha : apH a) (s : HS) (d r : Int32) (hd : m_reg d = false) : CX l g (wldH g a) (adH a) yH_copy kH_copy ({ frames := 7, cells := 1, slots := 6, locals := 102 }) [.ref (a 0), .int (d), .int (r)] s exI s := by
  have hD := wldH_D (g := g) ha
  refine CX.of (own := RH) (cc := cH_copy) (nL := 3) (ret := (some .int)) hD (by decide) rfl (Nat.le_of_ble_eq_true rfl) ?_
  intro p e S m args below meth c X hex hZ H locs ls Y hl
  have hx := X.1
  have hb := X.2.1
  have hsub : ∀ q, adH a q → AX (adH a) S.heap.size q := fun q h => Or.inl h
  have hl : lv_has ls 3 [(0, .ref (a 0)), (1, .int (d)), (2, .int (r))] := hl
  refine lv_iload_n hx hb dH_copy_0 rfl (lv_at hl 1 rfl) ?_
  exact cx_s (na := 1) (rest := []) X hex hZ Y (tH_checkRegister_bad l hl0 g ((d)) (by assumption)) gH_H_checkRegister (by decide +kernel) rfl ⟨rfl, rfl⟩ ⟨Nat.le_of_ble_eq_true rfl, Nat.le_of_ble_eq_true rfl⟩ ⟨Nat.le_of_ble_eq_true rfl, Nat.le_of_ble_eq_true rfl⟩ hl.1 rfl (Nat.le_of_ble_eq_true rfl) dH_copy_1
set_option maxHeartbeats 1000000 in
set_option maxRecDepth 100000 in
theorem tH_copy_r (l : Launch) (hl0 : l.stackTraces = false) (g : GG) (a : Nat → Nat) (ha : apH a) (s : HS) (d : Nat) (r : Int32) (hd : d < 4) (hr : m_reg r = false) : CX l g (wldH g a) (adH a) yH_copy kH_copy ({ frames := 7, cells := 1, slots := 6, locals := 102 }) [.ref (a 0), .int (nI (d)), .int (r)] s exI s := by
  have hD := wldH_D (g := g) ha
  refine CX.of (own := RH) (cc := cH_copy) (nL := 3) (ret := (some .int)) hD (by decide) rfl (Nat.le_of_ble_eq_true rfl) ?_
  intro p e S m args below meth c X hex hZ H locs ls Y hl
  have hx := X.1
  have hb := X.2.1
  have hsub : ∀ q, adH a q → AX (adH a) S.heap.size q := fun q h => Or.inl h
  have hl : lv_has ls 3 [(0, .ref (a 0)), (1, .int (nI (d))), (2, .int (r))] := hl
  refine lv_iload_n hx hb dH_copy_0 rfl (lv_at hl 1 rfl) ?_
  refine cl_sv (na := 1) (rest := []) X Y (tH_checkRegister_ok l d (by omega)) gH_H_checkRegister (by decide +kernel) rfl ⟨rfl, rfl⟩ ⟨Nat.le_of_ble_eq_true rfl, Nat.le_of_ble_eq_true rfl⟩ ⟨Nat.zero_le _, Nat.zero_le _⟩ hl.1 rfl (Nat.le_of_ble_eq_true rfl) dH_copy_1 (fun H locs Y => ?_)
  refine lv_iload_n hx hb dH_copy_4 rfl (lv_at hl 2 rfl) ?_
  exact cx_s (na := 1) (rest := []) X hex hZ Y (tH_checkRegister_bad l hl0 g ((r)) (by assumption)) gH_H_checkRegister (by decide +kernel) rfl ⟨rfl, rfl⟩ ⟨Nat.le_of_ble_eq_true rfl, Nat.le_of_ble_eq_true rfl⟩ ⟨Nat.le_of_ble_eq_true rfl, Nat.le_of_ble_eq_true rfl⟩ hl.1 rfl (Nat.le_of_ble_eq_true rfl) dH_copy_5
set_option maxHeartbeats 1000000 in
set_option maxRecDepth 100000 in
theorem tH_drop_r (l : Launch) (hl0 : l.stackTraces = false) (g : GG) (a : Nat → Nat) (ha : apH a) (s : HS) (r : Int32) (hr : m_reg r = false) : CX l g (wldH g a) (adH a) yH_drop kH_drop ({ frames := 7, cells := 1, slots := 6, locals := 102 }) [.ref (a 0), .int (r)] s exI s := by
  have hD := wldH_D (g := g) ha
  refine CX.of (own := RH) (cc := cH_drop) (nL := 3) (ret := (some .boolean)) hD (by decide) rfl (Nat.le_of_ble_eq_true rfl) ?_
  intro p e S m args below meth c X hex hZ H locs ls Y hl
  have hx := X.1
  have hb := X.2.1
  have hsub : ∀ q, adH a q → AX (adH a) S.heap.size q := fun q h => Or.inl h
  have hl : lv_has ls 3 [(0, .ref (a 0)), (1, .int (r))] := hl
  refine lv_iload_n hx hb dH_drop_0 rfl (lv_at hl 1 rfl) ?_
  exact cx_s (na := 1) (rest := []) X hex hZ Y (tH_checkRegister_bad l hl0 g ((r)) (by assumption)) gH_H_checkRegister (by decide +kernel) rfl ⟨rfl, rfl⟩ ⟨Nat.le_of_ble_eq_true rfl, Nat.le_of_ble_eq_true rfl⟩ ⟨Nat.le_of_ble_eq_true rfl, Nat.le_of_ble_eq_true rfl⟩ hl.1 rfl (Nat.le_of_ble_eq_true rfl) dH_drop_1
set_option maxHeartbeats 1000000 in
set_option maxRecDepth 100000 in
theorem tH_budget_bad (l : Launch) (hl0 : l.stackTraces = false) (g : GG) (a : Nat → Nat) (ha : apH a) (s : HS) (n : Int32) (hn : m_bud n = false) : CX l g (wldH g a) (adH a) yH_budget kH_budget ({ frames := 6, cells := 1, slots := 6, locals := 89 }) [.ref (a 0), .int (n)] s exA s := by
  have hD := wldH_D (g := g) ha
  refine CX.of (own := RH) (cc := cH_budget) (nL := 2) (ret := (some .int)) hD (by decide) rfl (Nat.le_of_ble_eq_true rfl) ?_
  intro p e S m args below meth c X hex hZ H locs ls Y hl
  have hx := X.1
  have hb := X.2.1
  have hsub : ∀ q, adH a q → AX (adH a) S.heap.size q := fun q h => Or.inl h
  have hl : lv_has ls 2 [(0, .ref (a 0)), (1, .int (n))] := hl
  refine lv_iload_n hx hb dH_budget_0 rfl (lv_at hl 1 rfl) ?_
  refine lv_iconst (v := (nI (2))) hx hb dH_budget_1 (by decide) ?_
  refine lv_icmp_lt (tgt := 11) hx hb dH_budget_2 (by decide) (fun h2 => ?_) (fun h2 => ?_)
  · skip
    exact cx_throw hl0 X hex hZ Y (by decide) cl_A at_A go_A hZ.2.2.2.1 hl.1 dH_budget_11 dH_budget_14 dH_budget_15 dH_budget_17 dH_budget_20 ⟨Nat.le_of_ble_eq_true rfl, Nat.le_of_ble_eq_true rfl, Nat.le_of_ble_eq_true rfl, Nat.le_of_ble_eq_true rfl⟩
  · skip
    refine lv_iload_n hx hb dH_budget_5 rfl (lv_at hl 1 rfl) ?_
    refine lv_bipush (v := (nI (8))) hx hb dH_budget_6 (by decide) ?_
    refine lv_icmp_le (tgt := 21) hx hb dH_budget_8 (by decide) (fun h8 => ?_) (fun h8 => ?_)
    · skip
      exact absurd hn (by simp [m_bud, h2, h8])
    · skip
      exact cx_throw hl0 X hex hZ Y (by decide) cl_A at_A go_A hZ.2.2.2.1 hl.1 dH_budget_11 dH_budget_14 dH_budget_15 dH_budget_17 dH_budget_20 ⟨Nat.le_of_ble_eq_true rfl, Nat.le_of_ble_eq_true rfl, Nat.le_of_ble_eq_true rfl, Nat.le_of_ble_eq_true rfl⟩
