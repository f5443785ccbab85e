/-! written by wip/whole/specH.py -/
set_option maxHeartbeats 1000000 in
set_option maxRecDepth 100000 in
theorem tH_checkRegister_ok (l : Launch) (r : Nat) (hr : r < 4) : Csv l yH_checkRegister kH_checkRegister ({ frames := 0, cells := 0, slots := 0, locals := 0 }) [.int (nI (r))] := by
  refine Csv.of (own := RH) (cc := cH_checkRegister) (nL := 1) (by decide) rfl (Nat.le_of_ble_eq_true rfl) ?_
  intro p e S m args below meth c Q hx hb ret ls hl
  have hl : lv_has ls 1 [(0, .int (nI (r)))] := hl
  refine lv_iload_n hx hb dH_checkRegister_0 rfl (lv_at hl 0 rfl) ?_
  refine bz_lt (tgt := 9) hx hb dH_checkRegister_1 (by decide) (by omega) ?_
  refine lv_iload_n hx hb dH_checkRegister_4 rfl (lv_at hl 0 rfl) ?_
  refine lv_iconst (v := (nI (4))) hx hb dH_checkRegister_5 (by decide) ?_
  refine bn_lt (tgt := 19) hx hb dH_checkRegister_6 (by decide) (by omega) (by omega) (fun h6 => ?_) (fun h6 => ?_)
  · skip
    exact ret _ _ dH_checkRegister_19
  · skip
    exact absurd h6 (by omega)
set_option maxHeartbeats 1000000 in
set_option maxRecDepth 100000 in
theorem tH_checkField_ok (l : Launch) (f : Nat) (hf : f < 2) : Csv l yH_checkField kH_checkField ({ frames := 0, cells := 0, slots := 0, locals := 0 }) [.int (nI (f))] := by
  refine Csv.of (own := RH) (cc := cH_checkField) (nL := 1) (by decide) rfl (Nat.le_of_ble_eq_true rfl) ?_
  intro p e S m args below meth c Q hx hb ret ls hl
  have hl : lv_has ls 1 [(0, .int (nI (f)))] := hl
  refine lv_iload_n hx hb dH_checkField_0 rfl (lv_at hl 0 rfl) ?_
  refine bz_lt (tgt := 9) hx hb dH_checkField_1 (by decide) (by omega) ?_
  refine lv_iload_n hx hb dH_checkField_4 rfl (lv_at hl 0 rfl) ?_
  refine lv_iconst (v := (nI (2))) hx hb dH_checkField_5 (by decide) ?_
  refine bn_lt (tgt := 19) hx hb dH_checkField_6 (by decide) (by omega) (by omega) (fun h6 => ?_) (fun h6 => ?_)
  · skip
    exact ret _ _ dH_checkField_19
  · skip
    exact absurd h6 (by omega)
set_option maxHeartbeats 1000000 in
set_option maxRecDepth 100000 in
theorem tH_checkHolds_ok (l : Launch) (g : GG) (a : Nat → Nat) (ha : apH a) (s : HS) (r : Nat) (k : Fin 32) (hr : r < 4) (hk : gH_RG s r = some k) : Cv l g (wldH g a) (adH a) yH_checkHolds kH_checkHolds ({ frames := 0, cells := 0, slots := 0, locals := 0 }) [.ref (a 0), .int (nI (r))] s s := by
  have hD := wldH_D (g := g) ha
  refine Cv.of (own := RH) (cc := cH_checkHolds) (nL := 2) hD (by decide) rfl (Nat.le_of_ble_eq_true rfl) ?_
  intro p e S m args below meth c Q X ret H locs ls Y hl
  have hx := X.1
  have hb := X.2.1
  have hl : lv_has ls 2 [(0, .ref (a 0)), (1, .int (nI (r)))] := hl
  have hq0 := k.isLt
  refine lv_aload_n hx hb dH_checkHolds_0 rfl (lv_at hl 0 rfl) ?_
  refine rH_RG X Y dH_checkHolds_1 ?_
  refine lv_iload_n hx hb dH_checkHolds_4 rfl (lv_at hl 1 rfl) ?_
  refine lH_RG X Y (k := r) (by omega) dH_checkHolds_5 ?_
  refine bn_top (y := nI k.val) (by rw [hk]; rfl) ?_
  refine lv_iconst (v := (-1)) hx hb dH_checkHolds_6 (by decide) ?_
  refine bm_ne (tgt := 20) hx hb dH_checkHolds_7 (by decide) (by omega) ?_
  exact ret _ _ _ _ Y dH_checkHolds_20
set_option maxHeartbeats 1000000 in
set_option maxRecDepth 100000 in
theorem tH_make_ok (l : Launch) (g : GG) (a : Nat → Nat) (ha : apH a) (s : HS) (r : Nat) (v : Int32) (k : Fin 32) (hr : r < 4) (hp : h_nwp s = some k) : Ci l g (wldH g a) (adH a) yH_make kH_make ({ frames := 6, cells := 0, slots := 0, locals := 129 }) [.ref (a 0), .int (nI (r)), .int (v)] s (nI (k.val)) (h_nw r v s) := by
  have hD := wldH_D (g := g) ha
  refine Ci.of (own := RH) (cc := cH_make) (nL := 4) hD (by decide) rfl (Nat.le_of_ble_eq_true rfl) ?_
  intro p e S m args below meth c Q X ret H locs ls Y hl
  have hx := X.1
  have hb := X.2.1
  have hl : lv_has ls 4 [(0, .ref (a 0)), (1, .int (nI (r))), (2, .int (v))] := hl
  have hq0 := k.isLt
  refine lv_iload_n hx hb dH_make_0 rfl (lv_at hl 1 rfl) ?_
  refine cl_sv (na := 1) (rest := []) X Y (tH_checkRegister_ok l r (by omega)) gH_H_checkRegister (by decide +kernel) rfl ⟨rfl, rfl⟩ ⟨Nat.le_of_ble_eq_true rfl, Nat.le_of_ble_eq_true rfl⟩ ⟨Nat.zero_le _, Nat.zero_le _⟩ hl.1 rfl (Nat.le_of_ble_eq_true rfl) dH_make_1 (fun H locs Y => ?_)
  refine lv_aload_n hx hb dH_make_4 rfl (lv_at hl 0 rfl) ?_
  refine lv_iconst (v := (nI (1))) hx hb dH_make_5 (by decide) ?_
  refine cl_vi (na := 1) (rest := []) X hD Y (tH_takePlace l g a ha s true ) gH_H_takePlace (by decide +kernel) rfl rfl rfl ⟨rfl, rfl⟩ ⟨Nat.le_of_ble_eq_true rfl, Nat.le_of_ble_eq_true rfl⟩ ⟨Nat.zero_le _, Nat.zero_le _⟩ hl.1 rfl (Nat.le_of_ble_eq_true rfl) dH_make_6 (fun H locs Y => ?_)
  refine lv_istore_n (lv' := [(3, .int (oI (h_tkp s))), (0, .ref (a 0)), (1, .int (nI (r))), (2, .int (v))]) hx hb dH_make_9 rfl hl (by decide) rfl (fun ls hl => ?_)
  refine lv_iload_n hx hb dH_make_10 rfl (lv_at hl 0 rfl) ?_
  refine lv_iconst (v := (-1)) hx hb dH_make_11 (by decide) ?_
  refine bo_ne (tgt := 26) hx hb dH_make_12 (by decide) (fun k3 h12 => ?_) (fun h12 => ?_)
  · skip
    have hq4 := k3.isLt
    refine lv_iload_n hx hb dH_make_26 rfl (lv_at hl 0 rfl) ?_
    refine bn_top (y := nI k3.val) (by rw [h12]; rfl) ?_
    refine lv_iconst (v := (-1)) hx hb dH_make_27 (by decide) ?_
    refine bm_ne (tgt := 36) hx hb dH_make_28 (by decide) (by omega) ?_
    refine lv_iload_n hx hb dH_make_36 rfl (lv_at hl 0 rfl) ?_
    refine bn_top (y := nI k3.val) (by rw [h12]; rfl) ?_
    refine lv_iconst (v := (-1)) hx hb dH_make_37 (by decide) ?_
    refine bm_ne (tgt := 51) hx hb dH_make_38 (by decide) (by omega) ?_
    refine lv_aload_n hx hb dH_make_51 rfl (lv_at hl 1 rfl) ?_
    refine rH_VA X Y dH_make_52 ?_
    refine lv_iload_n hx hb dH_make_55 rfl (lv_at hl 0 rfl) ?_
    refine bn_top (y := nI k3.val) (by rw [h12]; rfl) ?_
    refine lv_iload_n hx hb dH_make_56 rfl (lv_at hl 3 rfl) ?_
    refine sH_VA X Y (k := k3.val) ((v)) rfl (by omega) dH_make_57 (fun H locs Y => ?_)
    refine lv_aload_n hx hb dH_make_58 rfl (lv_at hl 1 rfl) ?_
    refine rH_RG X Y dH_make_59 ?_
    refine lv_iload_n hx hb dH_make_62 rfl (lv_at hl 2 rfl) ?_
    refine lv_iload_n hx hb dH_make_63 rfl (lv_at hl 0 rfl) ?_
    refine bn_top (y := nI k3.val) (by rw [h12]; rfl) ?_
    refine sH_RG X Y (k := r) (some ⟨k3.val, by omega⟩) rfl (by omega) dH_make_64 (fun H locs Y => ?_)
    refine lv_iload_n hx hb dH_make_65 rfl (lv_at hl 0 rfl) ?_
    refine bn_top (y := nI k3.val) (by rw [h12]; rfl) ?_
    have E : uH_RG (uH_VA (h_tks true s) k3.val ((v))) r (some ⟨k3.val, by omega⟩) = h_nw r v s := by first | (rw [h_nw_s (h_nw_1 h12).1, (h_nw_1 h12).2]; done) | (rw [h_nw_s (h_nw_2 h12 h28).1, (h_nw_2 h12 h28).2]; rfl) | (rw [h_nw_s ((h_nw_3 h12 h28).1.trans h38), (h_nw_3 h12 h28).2]; rfl)
    rw [E] at Y
    exact ret _ _ _ _ _ Y (by first | (rw [Option.some.inj ((h_nw_1 h12).1.symm.trans hp)]; done) | (rw [Option.some.inj ((h_nw_2 h12 h28).1.symm.trans hp)]; done) | (rw [Option.some.inj (((h_nw_3 h12 h28).1.trans h38).symm.trans hp)]; done)) dH_make_66
  · skip
    refine lv_aload_n hx hb dH_make_15 rfl (lv_at hl 1 rfl) ?_
    refine cl_vi (na := 0) (rest := []) X hD Y (tH_collectWithin l g a ha (h_tks true s)  ) gH_H_collectWithin (by decide +kernel) rfl rfl rfl ⟨rfl, rfl⟩ ⟨Nat.le_of_ble_eq_true rfl, Nat.le_of_ble_eq_true rfl⟩ ⟨Nat.zero_le _, Nat.zero_le _⟩ hl.1 rfl (Nat.le_of_ble_eq_true rfl) dH_make_16 (fun H locs Y => ?_)
    refine lv_pop hx hb dH_make_19 rfl ?_
    refine lv_aload_n hx hb dH_make_20 rfl (lv_at hl 1 rfl) ?_
    refine lv_iconst (v := (nI (1))) hx hb dH_make_21 (by decide) ?_
    refine cl_vi (na := 1) (rest := []) X hD Y (tH_takePlace l g a ha (h_collect (h_tks true s)) true ) gH_H_takePlace (by decide +kernel) rfl rfl rfl ⟨rfl, rfl⟩ ⟨Nat.le_of_ble_eq_true rfl, Nat.le_of_ble_eq_true rfl⟩ ⟨Nat.zero_le _, Nat.zero_le _⟩ hl.1 rfl (Nat.le_of_ble_eq_true rfl) dH_make_22 (fun H locs Y => ?_)
    refine lv_istore_n (lv' := [(3, .int (oI (h_tkp (h_collect (h_tks true s))))), (0, .ref (a 0)), (1, .int (nI (r))), (2, .int (v))]) hx hb dH_make_25 rfl hl (by decide) rfl (fun ls hl => ?_)
    refine lv_iload_n hx hb dH_make_26 rfl (lv_at hl 0 rfl) ?_
    refine lv_iconst (v := (-1)) hx hb dH_make_27 (by decide) ?_
    refine bo_ne (tgt := 36) hx hb dH_make_28 (by decide) (fun k7 h28 => ?_) (fun h28 => ?_)
    · skip
      have hq8 := k7.isLt
      refine lv_iload_n hx hb dH_make_36 rfl (lv_at hl 0 rfl) ?_
      refine bn_top (y := nI k7.val) (by rw [h28]; rfl) ?_
      refine lv_iconst (v := (-1)) hx hb dH_make_37 (by decide) ?_
      refine bm_ne (tgt := 51) hx hb dH_make_38 (by decide) (by omega) ?_
      refine lv_aload_n hx hb dH_make_51 rfl (lv_at hl 1 rfl) ?_
      refine rH_VA X Y dH_make_52 ?_
      refine lv_iload_n hx hb dH_make_55 rfl (lv_at hl 0 rfl) ?_
      refine bn_top (y := nI k7.val) (by rw [h28]; rfl) ?_
      refine lv_iload_n hx hb dH_make_56 rfl (lv_at hl 3 rfl) ?_
      refine sH_VA X Y (k := k7.val) ((v)) rfl (by omega) dH_make_57 (fun H locs Y => ?_)
      refine lv_aload_n hx hb dH_make_58 rfl (lv_at hl 1 rfl) ?_
      refine rH_RG X Y dH_make_59 ?_
      refine lv_iload_n hx hb dH_make_62 rfl (lv_at hl 2 rfl) ?_
      refine lv_iload_n hx hb dH_make_63 rfl (lv_at hl 0 rfl) ?_
      refine bn_top (y := nI k7.val) (by rw [h28]; rfl) ?_
      refine sH_RG X Y (k := r) (some ⟨k7.val, by omega⟩) rfl (by omega) dH_make_64 (fun H locs Y => ?_)
      refine lv_iload_n hx hb dH_make_65 rfl (lv_at hl 0 rfl) ?_
      refine bn_top (y := nI k7.val) (by rw [h28]; rfl) ?_
      have E : uH_RG (uH_VA (h_tks true (h_collect (h_tks true s))) k7.val ((v))) r (some ⟨k7.val, by omega⟩) = h_nw r v s := by first | (rw [h_nw_s (h_nw_1 h12).1, (h_nw_1 h12).2]; done) | (rw [h_nw_s (h_nw_2 h12 h28).1, (h_nw_2 h12 h28).2]; rfl) | (rw [h_nw_s ((h_nw_3 h12 h28).1.trans h38), (h_nw_3 h12 h28).2]; rfl)
      rw [E] at Y
      exact ret _ _ _ _ _ Y (by first | (rw [Option.some.inj ((h_nw_1 h12).1.symm.trans hp)]; done) | (rw [Option.some.inj ((h_nw_2 h12 h28).1.symm.trans hp)]; done) | (rw [Option.some.inj (((h_nw_3 h12 h28).1.trans h38).symm.trans hp)]; done)) dH_make_66
    · skip
      refine lv_aload_n hx hb dH_make_31 rfl (lv_at hl 1 rfl) ?_
      refine cl_vi (na := 0) (rest := []) X hD Y (tH_takePlaceThoroughly l g a ha (h_tks true (h_collect (h_tks true s)))  ) gH_H_takePlaceThoroughly (by decide +kernel) rfl rfl rfl ⟨rfl, rfl⟩ ⟨Nat.le_of_ble_eq_true rfl, Nat.le_of_ble_eq_true rfl⟩ ⟨Nat.zero_le _, Nat.zero_le _⟩ hl.1 rfl (Nat.le_of_ble_eq_true rfl) dH_make_32 (fun H locs Y => ?_)
      refine lv_istore_n (lv' := [(3, .int (oI (h_ttp (h_tks true (h_collect (h_tks true s)))))), (0, .ref (a 0)), (1, .int (nI (r))), (2, .int (v))]) hx hb dH_make_35 rfl hl (by decide) rfl (fun ls hl => ?_)
      refine lv_iload_n hx hb dH_make_36 rfl (lv_at hl 0 rfl) ?_
      refine lv_iconst (v := (-1)) hx hb dH_make_37 (by decide) ?_
      refine bo_ne (tgt := 51) hx hb dH_make_38 (by decide) (fun k10 h38 => ?_) (fun h38 => ?_)
      · skip
        have hq11 := k10.isLt
        refine lv_aload_n hx hb dH_make_51 rfl (lv_at hl 1 rfl) ?_
        refine rH_VA X Y dH_make_52 ?_
        refine lv_iload_n hx hb dH_make_55 rfl (lv_at hl 0 rfl) ?_
        refine bn_top (y := nI k10.val) (by rw [h38]; rfl) ?_
        refine lv_iload_n hx hb dH_make_56 rfl (lv_at hl 3 rfl) ?_
        refine sH_VA X Y (k := k10.val) ((v)) rfl (by omega) dH_make_57 (fun H locs Y => ?_)
        refine lv_aload_n hx hb dH_make_58 rfl (lv_at hl 1 rfl) ?_
        refine rH_RG X Y dH_make_59 ?_
        refine lv_iload_n hx hb dH_make_62 rfl (lv_at hl 2 rfl) ?_
        refine lv_iload_n hx hb dH_make_63 rfl (lv_at hl 0 rfl) ?_
        refine bn_top (y := nI k10.val) (by rw [h38]; rfl) ?_
        refine sH_RG X Y (k := r) (some ⟨k10.val, by omega⟩) rfl (by omega) dH_make_64 (fun H locs Y => ?_)
        refine lv_iload_n hx hb dH_make_65 rfl (lv_at hl 0 rfl) ?_
        refine bn_top (y := nI k10.val) (by rw [h38]; rfl) ?_
        have E : uH_RG (uH_VA (h_tts (h_tks true (h_collect (h_tks true s)))) k10.val ((v))) r (some ⟨k10.val, by omega⟩) = h_nw r v s := by first | (rw [h_nw_s (h_nw_1 h12).1, (h_nw_1 h12).2]; done) | (rw [h_nw_s (h_nw_2 h12 h28).1, (h_nw_2 h12 h28).2]; rfl) | (rw [h_nw_s ((h_nw_3 h12 h28).1.trans h38), (h_nw_3 h12 h28).2]; rfl)
        rw [E] at Y
        exact ret _ _ _ _ _ Y (by first | (rw [Option.some.inj ((h_nw_1 h12).1.symm.trans hp)]; done) | (rw [Option.some.inj ((h_nw_2 h12 h28).1.symm.trans hp)]; done) | (rw [Option.some.inj (((h_nw_3 h12 h28).1.trans h38).symm.trans hp)]; done)) dH_make_66
      · skip
        exact absurd ((h_nw_3 h12 h28).1.trans h38) (by rw [hp]; exact fun z => by cases z)
set_option maxHeartbeats 1000000 in
set_option maxRecDepth 100000 in
theorem tH_store_ok (l : Launch) (g : GG) (a : Nat → Nat) (ha : apH a) (s : HS) (r f q : Nat) (k : Fin 32) (hr : r < 4) (hf : f < 2) (hq : q < 4) (hk : gH_RG s r = some k) : Ci l g (wldH g a) (adH a) yH_store kH_store ({ frames := 5, cells := 0, slots := 0, locals := 107 }) [.ref (a 0), .int (nI (r)), .int (nI (f)), .int (nI (q))] s (gH_FA (h_touch (k.val / 4) s)) (uH_FD (h_touch (k.val / 4) s) (2 * k.val + f) (gH_RG (h_touch (k.val / 4) s) q)) := by
  have hD := wldH_D (g := g) ha
  refine Ci.of (own := RH) (cc := cH_store) (nL := 5) hD (by decide) rfl (Nat.le_of_ble_eq_true rfl) ?_
  intro p e S m args below meth c Q X ret H locs ls Y hl
  have hx := X.1
  have hb := X.2.1
  have hl : lv_has ls 5 [(0, .ref (a 0)), (1, .int (nI (r))), (2, .int (nI (f))), (3, .int (nI (q)))] := hl
  have hq0 := k.isLt
  refine lv_iload_n hx hb dH_store_0 rfl (lv_at hl 1 rfl) ?_
  refine cl_sv (na := 1) (rest := []) X Y (tH_checkRegister_ok l r (by omega)) gH_H_checkRegister (by decide +kernel) rfl ⟨rfl, rfl⟩ ⟨Nat.le_of_ble_eq_true rfl, Nat.le_of_ble_eq_true rfl⟩ ⟨Nat.zero_le _, Nat.zero_le _⟩ hl.1 rfl (Nat.le_of_ble_eq_true rfl) dH_store_1 (fun H locs Y => ?_)
  refine lv_iload_n hx hb dH_store_4 rfl (lv_at hl 2 rfl) ?_
  refine cl_sv (na := 1) (rest := []) X Y (tH_checkField_ok l f (by omega)) gH_H_checkField (by decide +kernel) rfl ⟨rfl, rfl⟩ ⟨Nat.le_of_ble_eq_true rfl, Nat.le_of_ble_eq_true rfl⟩ ⟨Nat.zero_le _, Nat.zero_le _⟩ hl.1 rfl (Nat.le_of_ble_eq_true rfl) dH_store_5 (fun H locs Y => ?_)
  refine lv_iload_n hx hb dH_store_8 rfl (lv_at hl 3 rfl) ?_
  refine cl_sv (na := 1) (rest := []) X Y (tH_checkRegister_ok l q (by omega)) gH_H_checkRegister (by decide +kernel) rfl ⟨rfl, rfl⟩ ⟨Nat.le_of_ble_eq_true rfl, Nat.le_of_ble_eq_true rfl⟩ ⟨Nat.zero_le _, Nat.zero_le _⟩ hl.1 rfl (Nat.le_of_ble_eq_true rfl) dH_store_9 (fun H locs Y => ?_)
  refine lv_aload_n hx hb dH_store_12 rfl (lv_at hl 0 rfl) ?_
  refine lv_iload_n hx hb dH_store_13 rfl (lv_at hl 1 rfl) ?_
  refine cl_vv (na := 1) (rest := []) X hD Y (tH_checkHolds_ok l g a ha s r k (by omega) hk) gH_H_checkHolds (by decide +kernel) rfl rfl rfl ⟨rfl, rfl⟩ ⟨Nat.le_of_ble_eq_true rfl, Nat.le_of_ble_eq_true rfl⟩ ⟨Nat.zero_le _, Nat.zero_le _⟩ hl.1 rfl (Nat.le_of_ble_eq_true rfl) dH_store_14 (fun H locs Y => ?_)
  refine lv_aload_n hx hb dH_store_17 rfl (lv_at hl 0 rfl) ?_
  refine rH_RG X Y dH_store_18 ?_
  refine lv_iload_n hx hb dH_store_21 rfl (lv_at hl 1 rfl) ?_
  refine lH_RG X Y (k := r) (by omega) dH_store_22 ?_
  refine bn_top (y := nI k.val) (by rw [hk]; rfl) ?_
  refine lv_istore (lv' := [(4, .int (nI (k.val))), (0, .ref (a 0)), (1, .int (nI (r))), (2, .int (nI (f))), (3, .int (nI (q)))]) hx hb dH_store_23 hl (by decide) rfl (fun ls hl => ?_)
  refine lv_aload_n hx hb dH_store_25 rfl (lv_at hl 1 rfl) ?_
  refine lv_iload hx hb dH_store_26 (lv_at hl 0 rfl) ?_
  refine cl_s (na := 1) (rest := [.ref (a 0)]) X Y (tH_pageOf l k.val (by omega)) gH_H_pageOf (by decide +kernel) rfl ⟨rfl, rfl⟩ ⟨Nat.le_of_ble_eq_true rfl, Nat.le_of_ble_eq_true rfl⟩ ⟨Nat.zero_le _, Nat.zero_le _⟩ hl.1 rfl (Nat.le_of_ble_eq_true rfl) dH_store_28 (fun H locs Y => ?_)
  refine cl_vv (na := 1) (rest := []) X hD Y (tH_touch l g a ha s (k.val / 4) (by omega)) gH_H_touch (by decide +kernel) rfl rfl rfl ⟨rfl, rfl⟩ ⟨Nat.le_of_ble_eq_true rfl, Nat.le_of_ble_eq_true rfl⟩ ⟨Nat.zero_le _, Nat.zero_le _⟩ hl.1 rfl (Nat.le_of_ble_eq_true rfl) dH_store_31 (fun H locs Y => ?_)
  refine lv_aload_n hx hb dH_store_34 rfl (lv_at hl 1 rfl) ?_
  refine rH_FD X Y dH_store_35 ?_
  refine lv_iconst (v := (nI (2))) hx hb dH_store_38 (by decide) ?_
  refine lv_iload hx hb dH_store_39 (lv_at hl 0 rfl) ?_
  refine bn_mul hx hb dH_store_41 ?_
  refine lv_iload_n hx hb dH_store_42 rfl (lv_at hl 3 rfl) ?_
  refine bn_add hx hb dH_store_43 ?_
  refine lv_aload_n hx hb dH_store_44 rfl (lv_at hl 1 rfl) ?_
  refine rH_RG X Y dH_store_45 ?_
  refine lv_iload_n hx hb dH_store_48 rfl (lv_at hl 4 rfl) ?_
  refine lH_RG X Y (k := q) (by omega) dH_store_49 ?_
  refine sH_FD X Y (k := (2 * k.val) + f) (gH_RG (h_touch (k.val / 4) s) q) rfl (by omega) dH_store_50 (fun H locs Y => ?_)
  refine lv_aload_n hx hb dH_store_51 rfl (lv_at hl 1 rfl) ?_
  refine rH_FA X Y dH_store_52 ?_
  have E : uH_FD (h_touch (k.val / 4) s) ((2 * k.val) + f) (gH_RG (h_touch (k.val / 4) s) q) = uH_FD (h_touch (k.val / 4) s) (2 * k.val + f) (gH_RG (h_touch (k.val / 4) s) q) := rfl
  rw [E] at Y
  exact ret _ _ _ _ _ Y (rfl) dH_store_55
set_option maxHeartbeats 1000000 in
set_option maxRecDepth 100000 in
theorem tH_load_ok (l : Launch) (g : GG) (a : Nat → Nat) (ha : apH a) (s : HS) (d r f : Nat) (k : Fin 32) (hd : d < 4) (hr : r < 4) (hf : f < 2) (hk : gH_RG s r = some k) : Ci l g (wldH g a) (adH a) yH_load kH_load ({ frames := 5, cells := 0, slots := 0, locals := 107 }) [.ref (a 0), .int (nI (d)), .int (nI (r)), .int (nI (f))] s (gH_FA (h_touch (k.val / 4) s)) (uH_RG (h_touch (k.val / 4) s) d (gH_FD (h_touch (k.val / 4) s) (2 * k.val + f))) := by
  have hD := wldH_D (g := g) ha
  refine Ci.of (own := RH) (cc := cH_load) (nL := 5) hD (by decide) rfl (Nat.le_of_ble_eq_true rfl) ?_
  intro p e S m args below meth c Q X ret H locs ls Y hl
  have hx := X.1
  have hb := X.2.1
  have hl : lv_has ls 5 [(0, .ref (a 0)), (1, .int (nI (d))), (2, .int (nI (r))), (3, .int (nI (f)))] := hl
  have hq0 := k.isLt
  refine lv_iload_n hx hb dH_load_0 rfl (lv_at hl 1 rfl) ?_
  refine cl_sv (na := 1) (rest := []) X Y (tH_checkRegister_ok l d (by omega)) gH_H_checkRegister (by decide +kernel) rfl ⟨rfl, rfl⟩ ⟨Nat.le_of_ble_eq_true rfl, Nat.le_of_ble_eq_true rfl⟩ ⟨Nat.zero_le _, Nat.zero_le _⟩ hl.1 rfl (Nat.le_of_ble_eq_true rfl) dH_load_1 (fun H locs Y => ?_)
  refine lv_iload_n hx hb dH_load_4 rfl (lv_at hl 2 rfl) ?_
  refine cl_sv (na := 1) (rest := []) X Y (tH_checkRegister_ok l r (by omega)) gH_H_checkRegister (by decide +kernel) rfl ⟨rfl, rfl⟩ ⟨Nat.le_of_ble_eq_true rfl, Nat.le_of_ble_eq_true rfl⟩ ⟨Nat.zero_le _, Nat.zero_le _⟩ hl.1 rfl (Nat.le_of_ble_eq_true rfl) dH_load_5 (fun H locs Y => ?_)
  refine lv_iload_n hx hb dH_load_8 rfl (lv_at hl 3 rfl) ?_
  refine cl_sv (na := 1) (rest := []) X Y (tH_checkField_ok l f (by omega)) gH_H_checkField (by decide +kernel) rfl ⟨rfl, rfl⟩ ⟨Nat.le_of_ble_eq_true rfl, Nat.le_of_ble_eq_true rfl⟩ ⟨Nat.zero_le _, Nat.zero_le _⟩ hl.1 rfl (Nat.le_of_ble_eq_true rfl) dH_load_9 (fun H locs Y => ?_)
  refine lv_aload_n hx hb dH_load_12 rfl (lv_at hl 0 rfl) ?_
  refine lv_iload_n hx hb dH_load_13 rfl (lv_at hl 2 rfl) ?_
  refine cl_vv (na := 1) (rest := []) X hD Y (tH_checkHolds_ok l g a ha s r k (by omega) hk) gH_H_checkHolds (by decide +kernel) rfl rfl rfl ⟨rfl, rfl⟩ ⟨Nat.le_of_ble_eq_true rfl, Nat.le_of_ble_eq_true rfl⟩ ⟨Nat.zero_le _, Nat.zero_le _⟩ hl.1 rfl (Nat.le_of_ble_eq_true rfl) dH_load_14 (fun H locs Y => ?_)
  refine lv_aload_n hx hb dH_load_17 rfl (lv_at hl 0 rfl) ?_
  refine rH_RG X Y dH_load_18 ?_
  refine lv_iload_n hx hb dH_load_21 rfl (lv_at hl 2 rfl) ?_
  refine lH_RG X Y (k := r) (by omega) dH_load_22 ?_
  refine bn_top (y := nI k.val) (by rw [hk]; rfl) ?_
  refine lv_istore (lv' := [(4, .int (nI (k.val))), (0, .ref (a 0)), (1, .int (nI (d))), (2, .int (nI (r))), (3, .int (nI (f)))]) hx hb dH_load_23 hl (by decide) rfl (fun ls hl => ?_)
  refine lv_aload_n hx hb dH_load_25 rfl (lv_at hl 1 rfl) ?_
  refine lv_iload hx hb dH_load_26 (lv_at hl 0 rfl) ?_
  refine cl_s (na := 1) (rest := [.ref (a 0)]) X Y (tH_pageOf l k.val (by omega)) gH_H_pageOf (by decide +kernel) rfl ⟨rfl, rfl⟩ ⟨Nat.le_of_ble_eq_true rfl, Nat.le_of_ble_eq_true rfl⟩ ⟨Nat.zero_le _, Nat.zero_le _⟩ hl.1 rfl (Nat.le_of_ble_eq_true rfl) dH_load_28 (fun H locs Y => ?_)
  refine cl_vv (na := 1) (rest := []) X hD Y (tH_touch l g a ha s (k.val / 4) (by omega)) gH_H_touch (by decide +kernel) rfl rfl rfl ⟨rfl, rfl⟩ ⟨Nat.le_of_ble_eq_true rfl, Nat.le_of_ble_eq_true rfl⟩ ⟨Nat.zero_le _, Nat.zero_le _⟩ hl.1 rfl (Nat.le_of_ble_eq_true rfl) dH_load_31 (fun H locs Y => ?_)
  refine lv_aload_n hx hb dH_load_34 rfl (lv_at hl 1 rfl) ?_
  refine rH_RG X Y dH_load_35 ?_
  refine lv_iload_n hx hb dH_load_38 rfl (lv_at hl 2 rfl) ?_
  refine lv_aload_n hx hb dH_load_39 rfl (lv_at hl 1 rfl) ?_
  refine rH_FD X Y dH_load_40 ?_
  refine lv_iconst (v := (nI (2))) hx hb dH_load_43 (by decide) ?_
  refine lv_iload hx hb dH_load_44 (lv_at hl 0 rfl) ?_
  refine bn_mul hx hb dH_load_46 ?_
  refine lv_iload_n hx hb dH_load_47 rfl (lv_at hl 4 rfl) ?_
  refine bn_add hx hb dH_load_48 ?_
  refine lH_FD X Y (k := (2 * k.val) + f) (by omega) dH_load_49 ?_
  refine sH_RG X Y (k := d) (gH_FD (h_touch (k.val / 4) s) ((2 * k.val) + f)) rfl (by omega) dH_load_50 (fun H locs Y => ?_)
  refine lv_aload_n hx hb dH_load_51 rfl (lv_at hl 1 rfl) ?_
  refine rH_FA X Y dH_load_52 ?_
  have E : uH_RG (h_touch (k.val / 4) s) d (gH_FD (h_touch (k.val / 4) s) ((2 * k.val) + f)) = uH_RG (h_touch (k.val / 4) s) d (gH_FD (h_touch (k.val / 4) s) (2 * k.val + f)) := rfl
  rw [E] at Y
  exact ret _ _ _ _ _ Y (rfl) dH_load_55
set_option maxHeartbeats 1000000 in
set_option maxRecDepth 100000 in
theorem tH_value_ok (l : Launch) (g : GG) (a : Nat → Nat) (ha : apH a) (s : HS) (r : Nat) (k : Fin 32) (hr : r < 4) (hk : gH_RG s r = some k) : Ci l g (wldH g a) (adH a) yH_value kH_value ({ frames := 5, cells := 0, slots := 0, locals := 107 }) [.ref (a 0), .int (nI (r))] s (gH_VA (h_touch (k.val / 4) s) k.val) (h_touch (k.val / 4) s) := by
  have hD := wldH_D (g := g) ha
  refine Ci.of (own := RH) (cc := cH_value) (nL := 3) hD (by decide) rfl (Nat.le_of_ble_eq_true rfl) ?_
  intro p e S m args below meth c Q X ret H locs ls Y hl
  have hx := X.1
  have hb := X.2.1
  have hl : lv_has ls 3 [(0, .ref (a 0)), (1, .int (nI (r)))] := hl
  have hq0 := k.isLt
  refine lv_iload_n hx hb dH_value_0 rfl (lv_at hl 1 rfl) ?_
  refine cl_sv (na := 1) (rest := []) X Y (tH_checkRegister_ok l r (by omega)) gH_H_checkRegister (by decide +kernel) rfl ⟨rfl, rfl⟩ ⟨Nat.le_of_ble_eq_true rfl, Nat.le_of_ble_eq_true rfl⟩ ⟨Nat.zero_le _, Nat.zero_le _⟩ hl.1 rfl (Nat.le_of_ble_eq_true rfl) dH_value_1 (fun H locs Y => ?_)
  refine lv_aload_n hx hb dH_value_4 rfl (lv_at hl 0 rfl) ?_
  refine lv_iload_n hx hb dH_value_5 rfl (lv_at hl 1 rfl) ?_
  refine cl_vv (na := 1) (rest := []) X hD Y (tH_checkHolds_ok l g a ha s r k (by omega) hk) gH_H_checkHolds (by decide +kernel) rfl rfl rfl ⟨rfl, rfl⟩ ⟨Nat.le_of_ble_eq_true rfl, Nat.le_of_ble_eq_true rfl⟩ ⟨Nat.zero_le _, Nat.zero_le _⟩ hl.1 rfl (Nat.le_of_ble_eq_true rfl) dH_value_6 (fun H locs Y => ?_)
  refine lv_aload_n hx hb dH_value_9 rfl (lv_at hl 0 rfl) ?_
  refine rH_RG X Y dH_value_10 ?_
  refine lv_iload_n hx hb dH_value_13 rfl (lv_at hl 1 rfl) ?_
  refine lH_RG X Y (k := r) (by omega) dH_value_14 ?_
  refine bn_top (y := nI k.val) (by rw [hk]; rfl) ?_
  refine lv_istore_n (lv' := [(2, .int (nI (k.val))), (0, .ref (a 0)), (1, .int (nI (r)))]) hx hb dH_value_15 rfl hl (by decide) rfl (fun ls hl => ?_)
  refine lv_aload_n hx hb dH_value_16 rfl (lv_at hl 1 rfl) ?_
  refine lv_iload_n hx hb dH_value_17 rfl (lv_at hl 0 rfl) ?_
  refine cl_s (na := 1) (rest := [.ref (a 0)]) X Y (tH_pageOf l k.val (by omega)) gH_H_pageOf (by decide +kernel) rfl ⟨rfl, rfl⟩ ⟨Nat.le_of_ble_eq_true rfl, Nat.le_of_ble_eq_true rfl⟩ ⟨Nat.zero_le _, Nat.zero_le _⟩ hl.1 rfl (Nat.le_of_ble_eq_true rfl) dH_value_18 (fun H locs Y => ?_)
  refine cl_vv (na := 1) (rest := []) X hD Y (tH_touch l g a ha s (k.val / 4) (by omega)) gH_H_touch (by decide +kernel) rfl rfl rfl ⟨rfl, rfl⟩ ⟨Nat.le_of_ble_eq_true rfl, Nat.le_of_ble_eq_true rfl⟩ ⟨Nat.zero_le _, Nat.zero_le _⟩ hl.1 rfl (Nat.le_of_ble_eq_true rfl) dH_value_21 (fun H locs Y => ?_)
  refine lv_aload_n hx hb dH_value_24 rfl (lv_at hl 1 rfl) ?_
  refine rH_VA X Y dH_value_25 ?_
  refine lv_iload_n hx hb dH_value_28 rfl (lv_at hl 0 rfl) ?_
  refine lH_VA X Y (k := k.val) (by omega) dH_value_29 ?_
  exact ret _ _ _ _ _ Y (rfl) dH_value_30
set_option maxHeartbeats 1000000 in
set_option maxRecDepth 100000 in
theorem tH_copy_ok (l : Launch) (g : GG) (a : Nat → Nat) (ha : apH a) (s : HS) (d r : Nat) (hd : d < 4) (hr : r < 4) : Ci l g (wldH g a) (adH a) yH_copy kH_copy ({ frames := 1, cells := 0, slots := 0, locals := 20 }) [.ref (a 0), .int (nI (d)), .int (nI (r))] s (oI (gH_RG s r)) (uH_RG s d (gH_RG s r)) := by
  have hD := wldH_D (g := g) ha
  refine Ci.of (own := RH) (cc := cH_copy) (nL := 3) hD (by decide) rfl (Nat.le_of_ble_eq_true rfl) ?_
  intro p e S m args below meth c Q X ret H locs ls Y hl
  have hx := X.1
  have hb := X.2.1
  have hl : lv_has ls 3 [(0, .ref (a 0)), (1, .int (nI (d))), (2, .int (nI (r)))] := hl
  refine lv_iload_n hx hb dH_copy_0 rfl (lv_at hl 1 rfl) ?_
  refine cl_sv (na := 1) (rest := []) X Y (tH_checkRegister_ok l d (by omega)) gH_H_checkRegister (by decide +kernel) rfl ⟨rfl, rfl⟩ ⟨Nat.le_of_ble_eq_true rfl, Nat.le_of_ble_eq_true rfl⟩ ⟨Nat.zero_le _, Nat.zero_le _⟩ hl.1 rfl (Nat.le_of_ble_eq_true rfl) dH_copy_1 (fun H locs Y => ?_)
  refine lv_iload_n hx hb dH_copy_4 rfl (lv_at hl 2 rfl) ?_
  refine cl_sv (na := 1) (rest := []) X Y (tH_checkRegister_ok l r (by omega)) gH_H_checkRegister (by decide +kernel) rfl ⟨rfl, rfl⟩ ⟨Nat.le_of_ble_eq_true rfl, Nat.le_of_ble_eq_true rfl⟩ ⟨Nat.zero_le _, Nat.zero_le _⟩ hl.1 rfl (Nat.le_of_ble_eq_true rfl) dH_copy_5 (fun H locs Y => ?_)
  refine lv_aload_n hx hb dH_copy_8 rfl (lv_at hl 0 rfl) ?_
  refine rH_RG X Y dH_copy_9 ?_
  refine lv_iload_n hx hb dH_copy_12 rfl (lv_at hl 1 rfl) ?_
  refine lv_aload_n hx hb dH_copy_13 rfl (lv_at hl 0 rfl) ?_
  refine rH_RG X Y dH_copy_14 ?_
  refine lv_iload_n hx hb dH_copy_17 rfl (lv_at hl 2 rfl) ?_
  refine lH_RG X Y (k := r) (by omega) dH_copy_18 ?_
  refine sH_RG X Y (k := d) (gH_RG s r) rfl (by omega) dH_copy_19 (fun H locs Y => ?_)
  refine lv_aload_n hx hb dH_copy_20 rfl (lv_at hl 0 rfl) ?_
  refine rH_RG X Y dH_copy_21 ?_
  refine lv_iload_n hx hb dH_copy_24 rfl (lv_at hl 1 rfl) ?_
  refine lH_RG X Y (k := d) (by omega) dH_copy_25 ?_
  exact ret _ _ _ _ _ Y (by show oI (va_up (gH_RG s) d (gH_RG s r) d) = _; rw [show va_up (gH_RG s) d (gH_RG s r) d = gH_RG s r from if_pos rfl]) dH_copy_26
set_option maxHeartbeats 1000000 in
set_option maxRecDepth 100000 in
theorem tH_drop_ok (l : Launch) (g : GG) (a : Nat → Nat) (ha : apH a) (s : HS) (r : Nat) (hr : r < 4) : Ci l g (wldH g a) (adH a) yH_drop kH_drop ({ frames := 1, cells := 0, slots := 0, locals := 20 }) [.ref (a 0), .int (nI (r))] s (bI ((gH_RG s r).isSome)) (uH_RG s r none) := by
  have hD := wldH_D (g := g) ha
  refine Ci.ofZ (own := RH) (cc := cH_drop) (nL := 3) hD (by decide) rfl (Nat.le_of_ble_eq_true rfl) ?_
  intro p e S m args below meth c Q X ret H locs ls Y hl
  have hx := X.1
  have hb := X.2.1
  have hl : lv_has ls 3 [(0, .ref (a 0)), (1, .int (nI (r)))] := hl
  refine lv_iload_n hx hb dH_drop_0 rfl (lv_at hl 1 rfl) ?_
  refine cl_sv (na := 1) (rest := []) X Y (tH_checkRegister_ok l r (by omega)) gH_H_checkRegister (by decide +kernel) rfl ⟨rfl, rfl⟩ ⟨Nat.le_of_ble_eq_true rfl, Nat.le_of_ble_eq_true rfl⟩ ⟨Nat.zero_le _, Nat.zero_le _⟩ hl.1 rfl (Nat.le_of_ble_eq_true rfl) dH_drop_1 (fun H locs Y => ?_)
  refine lv_aload_n hx hb dH_drop_4 rfl (lv_at hl 0 rfl) ?_
  refine rH_RG X Y dH_drop_5 ?_
  refine lv_iload_n hx hb dH_drop_8 rfl (lv_at hl 1 rfl) ?_
  refine lH_RG X Y (k := r) (by omega) dH_drop_9 ?_
  refine lv_iconst (v := (-1)) hx hb dH_drop_10 (by decide) ?_
  refine bo_eq (tgt := 18) hx hb dH_drop_11 (by decide) (fun h11 => ?_) (fun k2 h11 => ?_)
  · skip
    refine lv_iconst (v := (nI (0))) hx hb dH_drop_18 (by decide) ?_
    refine bn_top (y := (bI (false))) (by decide) ?_
    refine lv_istore_n (lv' := [(2, .int (bI (false))), (0, .ref (a 0)), (1, .int (nI (r)))]) hx hb dH_drop_19 rfl hl (by decide) rfl (fun ls hl => ?_)
    refine lv_aload_n hx hb dH_drop_20 rfl (lv_at hl 1 rfl) ?_
    refine rH_RG X Y dH_drop_21 ?_
    refine lv_iload_n hx hb dH_drop_24 rfl (lv_at hl 2 rfl) ?_
    refine lv_iconst (v := (-1)) hx hb dH_drop_25 (by decide) ?_
    refine sH_RG X Y (k := r) none rfl (by omega) dH_drop_26 (fun H locs Y => ?_)
    refine lv_iload_n hx hb dH_drop_27 rfl (lv_at hl 0 rfl) ?_
    exact ret _ _ _ _ _ Y (by rw [h11]; rfl) dH_drop_28
  · skip
    have hq3 := k2.isLt
    refine lv_iconst (v := (nI (1))) hx hb dH_drop_14 (by decide) ?_
    refine lv_goto (tgt := 19) hx hb dH_drop_15 (by decide) ?_
    refine bn_top (y := (bI (true))) (by decide) ?_
    refine lv_istore_n (lv' := [(2, .int (bI (true))), (0, .ref (a 0)), (1, .int (nI (r)))]) hx hb dH_drop_19 rfl hl (by decide) rfl (fun ls hl => ?_)
    refine lv_aload_n hx hb dH_drop_20 rfl (lv_at hl 1 rfl) ?_
    refine rH_RG X Y dH_drop_21 ?_
    refine lv_iload_n hx hb dH_drop_24 rfl (lv_at hl 2 rfl) ?_
    refine lv_iconst (v := (-1)) hx hb dH_drop_25 (by decide) ?_
    refine sH_RG X Y (k := r) none rfl (by omega) dH_drop_26 (fun H locs Y => ?_)
    refine lv_iload_n hx hb dH_drop_27 rfl (lv_at hl 0 rfl) ?_
    exact ret _ _ _ _ _ Y (by rw [h11]; rfl) dH_drop_28
set_option maxHeartbeats 1000000 in
set_option maxRecDepth 100000 in
theorem tH_budget_ok (l : Launch) (g : GG) (a : Nat → Nat) (ha : apH a) (s : HS) (n : Fin 9) (hn : 2 ≤ n.val) : Ci l g (wldH g a) (adH a) yH_budget kH_budget ({ frames := 4, cells := 0, slots := 0, locals := 89 }) [.ref (a 0), .int (nI (n.val))] s (nI (h_byn (uH_BU s n))) (h_beyond (-1) (uH_BU s n)) := by
  have hD := wldH_D (g := g) ha
  refine Ci.of (own := RH) (cc := cH_budget) (nL := 2) hD (by decide) rfl (Nat.le_of_ble_eq_true rfl) ?_
  intro p e S m args below meth c Q X ret H locs ls Y hl
  have hx := X.1
  have hb := X.2.1
  have hl : lv_has ls 2 [(0, .ref (a 0)), (1, .int (nI (n.val)))] := hl
  have hq0 := n.isLt
  refine lv_iload_n hx hb dH_budget_0 rfl (lv_at hl 1 rfl) ?_
  refine lv_iconst (v := (nI (2))) hx hb dH_budget_1 (by decide) ?_
  refine bn_lt (tgt := 11) hx hb dH_budget_2 (by decide) (by omega) (by omega) (fun h2 => ?_) (fun h2 => ?_)
  · skip
    exact absurd h2 (by omega)
  · skip
    refine lv_iload_n hx hb dH_budget_5 rfl (lv_at hl 1 rfl) ?_
    refine lv_bipush (v := (nI (8))) hx hb dH_budget_6 (by decide) ?_
    refine bn_le (tgt := 21) hx hb dH_budget_8 (by decide) (by omega) (by omega) (fun h8 => ?_) (fun h8 => ?_)
    · skip
      refine lv_aload_n hx hb dH_budget_21 rfl (lv_at hl 0 rfl) ?_
      refine lv_iload_n hx hb dH_budget_22 rfl (lv_at hl 1 rfl) ?_
      refine pH_BU X Y (⟨n.val, by omega⟩) rfl dH_budget_23 (fun H locs Y => ?_)
      refine lv_aload_n hx hb dH_budget_26 rfl (lv_at hl 0 rfl) ?_
      refine lv_iconst (v := (-1)) hx hb dH_budget_27 (by decide) ?_
      refine cl_vi (na := 1) (rest := []) X hD Y (tH_putOutBeyondBudget l g a ha (uH_BU s (⟨n.val, by omega⟩)) ((-1)) ) gH_H_putOutBeyondBudget (by decide +kernel) rfl rfl rfl ⟨rfl, rfl⟩ ⟨Nat.le_of_ble_eq_true rfl, Nat.le_of_ble_eq_true rfl⟩ ⟨Nat.zero_le _, Nat.zero_le _⟩ hl.1 rfl (Nat.le_of_ble_eq_true rfl) dH_budget_28 (fun H locs Y => ?_)
      have E : h_beyond ((-1)) (uH_BU s (⟨n.val, by omega⟩)) = h_beyond (-1) (uH_BU s n) := rfl
      rw [E] at Y
      exact ret _ _ _ _ _ Y (rfl) dH_budget_31
    · skip
      exact absurd h8 (by omega)
