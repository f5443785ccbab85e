/-! written by wip/whole/specM.py -/
set_option maxHeartbeats 1000000 in
set_option maxRecDepth 100000 in
theorem tM_make_bad (l : Launch) (g : GG) (a : Nat → Nat) (ha : apM a) (s : MS) (r v : Int32) (hr : m_reg r = false) : Ci l g (wldM g a) (adM a) yM_make kM_make ({ frames := 3, cells := 0, slots := 0, locals := 69 }) [.ref (a 0), .int (r), .int (v)] s (nI (0)) (uM_TR (m_t0 s) (nI 1)) := by
  have hD := wldM_D (g := g) ha
  refine Ci.of (own := RM) (cc := cM_make) (nL := 5) hD (by decide) rfl (Nat.le_of_ble_eq_true rfl) ?_
  intro p e S m args below meth c Q X ret H locs ls Y hl
  have hx := X.1
  have hb := X.2.1
  have hl : lv_has ls 5 [(0, .ref (a 0)), (1, .int (r)), (2, .int (v))] := hl
  refine lv_aload_n hx hb dM_make_0 rfl (lv_at hl 0 rfl) ?_
  refine lv_iconst (v := (nI (0))) hx hb dM_make_1 (by decide) ?_
  refine pM_TR X Y ((nI (0))) rfl dM_make_2 (fun H locs Y => ?_)
  have E0 : uM_TR s (nI 0) = m_t0 s := rfl
  rw [E0] at Y
  refine lv_iload_n hx hb dM_make_5 rfl (lv_at hl 1 rfl) ?_
  refine cl_s (na := 1) (rest := []) X Y (tM_register l ((r)) ) gM_M_register (by decide +kernel) rfl ⟨rfl, rfl⟩ ⟨Nat.le_of_ble_eq_true rfl, Nat.le_of_ble_eq_true rfl⟩ ⟨Nat.zero_le _, Nat.zero_le _⟩ hl.1 rfl (Nat.le_of_ble_eq_true rfl) dM_make_6 (fun H locs Y => ?_)
  refine bb_ne (tgt := 18) hx hb dM_make_9 (by decide) (fun q => by rw [hr] at q; cases q) (fun _ => ?_)
  refine lv_aload_n hx hb dM_make_12 rfl (lv_at hl 0 rfl) ?_
  refine lv_iconst (v := (nI (1))) hx hb dM_make_13 (by decide) ?_
  refine cl_vi (na := 1) (rest := []) X hD Y (tM_fails l g a ha (m_t0 s) ((nI (1))) ) gM_M_fails (by decide +kernel) rfl rfl rfl ⟨rfl, rfl⟩ ⟨Nat.le_of_ble_eq_true rfl, Nat.le_of_ble_eq_true rfl⟩ ⟨Nat.zero_le _, Nat.zero_le _⟩ hl.1 rfl (Nat.le_of_ble_eq_true rfl) dM_make_14 (fun H locs Y => ?_)
  have E : uM_TR (m_t0 s) ((nI (1))) = uM_TR (m_t0 s) (nI 1) := rfl
  rw [E] at Y
  exact ret _ _ _ _ _ Y (rfl) dM_make_17
set_option maxHeartbeats 1000000 in
set_option maxRecDepth 100000 in
theorem tM_make_ok (l : Launch) (g : GG) (a : Nat → Nat) (ha : apM a) (s : MS) (r : Nat) (v : Int32) (hr : r < 4) (hok : m_mok v (m_t0 s)) : Ci l g (wldM g a) (adM a) yM_make kM_make ({ frames := 3, cells := 0, slots := 0, locals := 69 }) [.ref (a 0), .int (nI (r)), .int (v)] s (m_mkv (m_t0 s)) (m_mks r v (m_t0 s)) := by
  have hD := wldM_D (g := g) ha
  refine Ci.of (own := RM) (cc := cM_make) (nL := 5) hD (by decide) rfl (Nat.le_of_ble_eq_true rfl) ?_
  intro p e S m args below meth c Q X ret H locs ls Y hl
  have hx := X.1
  have hb := X.2.1
  have hl : lv_has ls 5 [(0, .ref (a 0)), (1, .int (nI (r))), (2, .int (v))] := hl
  have hgr := m_reg_nI hr
  obtain ⟨ok1, ok2⟩ := hok
  refine lv_aload_n hx hb dM_make_0 rfl (lv_at hl 0 rfl) ?_
  refine lv_iconst (v := (nI (0))) hx hb dM_make_1 (by decide) ?_
  refine pM_TR X Y ((nI (0))) rfl dM_make_2 (fun H locs Y => ?_)
  have E0 : uM_TR s (nI 0) = m_t0 s := rfl
  rw [E0] at Y
  refine lv_iload_n hx hb dM_make_5 rfl (lv_at hl 1 rfl) ?_
  refine cl_s (na := 1) (rest := []) X Y (tM_register l ((nI (r))) ) gM_M_register (by decide +kernel) rfl ⟨rfl, rfl⟩ ⟨Nat.le_of_ble_eq_true rfl, Nat.le_of_ble_eq_true rfl⟩ ⟨Nat.zero_le _, Nat.zero_le _⟩ hl.1 rfl (Nat.le_of_ble_eq_true rfl) dM_make_6 (fun H locs Y => ?_)
  refine bb_ne (tgt := 18) hx hb dM_make_9 (by decide) (fun _ => ?_) (fun q => by rw [hgr] at q; cases q)
  refine lv_aload_n hx hb dM_make_18 rfl (lv_at hl 0 rfl) ?_
  refine lv_iconst (v := (nI (1))) hx hb dM_make_19 (by decide) ?_
  refine cl_vi (na := 1) (rest := []) X hD Y (tM_find l g a ha (m_t0 s) true (by first | exact ok3 | exact ok1 | exact m_fok_f _)) gM_M_find (by decide +kernel) rfl rfl rfl ⟨rfl, rfl⟩ ⟨Nat.le_of_ble_eq_true rfl, Nat.le_of_ble_eq_true rfl⟩ ⟨Nat.zero_le _, Nat.zero_le _⟩ hl.1 rfl (Nat.le_of_ble_eq_true rfl) dM_make_20 (fun H locs Y => ?_)
  refine lv_istore_n (lv' := [(3, .int (oI (m_fp (m_t0 s)))), (0, .ref (a 0)), (1, .int (nI (r))), (2, .int (v))]) hx hb dM_make_23 rfl hl (by decide) rfl (fun ls hl => ?_)
  refine lv_iload_n hx hb dM_make_24 rfl (lv_at hl 0 rfl) ?_
  refine bo_ge (tgt := 39) hx hb dM_make_25 (by decide) (fun k3 h25 => ?_) (fun h25 => ?_)
  · skip
    have hq4 := k3.isLt
    refine lv_iload_n hx hb dM_make_39 rfl (lv_at hl 0 rfl) ?_
    refine bn_top (y := nI k3.val) (by rw [h25]; rfl) ?_
    refine bz_ge (tgt := 47) hx hb dM_make_40 (by decide) (by omega) ?_
    refine lv_iconst (v := (nI (0))) hx hb dM_make_47 (by decide) ?_
    refine bn_top (y := (bI (false))) (by decide) ?_
    refine lv_istore (lv' := [(4, .int (bI (false))), (3, .int (oI (m_fp (m_t0 s)))), (0, .ref (a 0)), (1, .int (nI (r))), (2, .int (v))]) hx hb dM_make_48 hl (by decide) rfl (fun ls hl => ?_)
    refine lv_iload hx hb dM_make_50 (lv_at hl 0 rfl) ?_
    refine bb_eq (tgt := 66) hx hb dM_make_52 (by decide) (fun _ => ?_) (fun q => by cases q)
    refine lv_iload_n hx hb dM_make_66 rfl (lv_at hl 1 rfl) ?_
    refine bn_top (y := nI k3.val) (by rw [h25]; rfl) ?_
    refine bz_lt (tgt := 76) hx hb dM_make_67 (by decide) (by omega) ?_
    refine lv_aload_n hx hb dM_make_70 rfl (lv_at hl 2 rfl) ?_
    refine lv_iload_n hx hb dM_make_71 rfl (lv_at hl 1 rfl) ?_
    refine bn_top (y := nI k3.val) (by rw [h25]; rfl) ?_
    refine lv_iload_n hx hb dM_make_72 rfl (lv_at hl 4 rfl) ?_
    refine cl_vv (na := 2) (rest := []) X hD Y (tM_place l g a ha (m_fs true (m_t0 s)) k3.val ((v)) (by omega)) gM_M_place (by decide +kernel) rfl rfl rfl ⟨rfl, rfl⟩ ⟨Nat.le_of_ble_eq_true rfl, Nat.le_of_ble_eq_true rfl⟩ ⟨Nat.zero_le _, Nat.zero_le _⟩ hl.1 rfl (Nat.le_of_ble_eq_true rfl) dM_make_73 (fun H locs Y => ?_)
    refine lv_iload hx hb dM_make_76 (lv_at hl 0 rfl) ?_
    refine bb_eq (tgt := 97) hx hb dM_make_78 (by decide) (fun _ => ?_) (fun q => by cases q)
    refine lv_iload_n hx hb dM_make_97 rfl (lv_at hl 1 rfl) ?_
    refine bn_top (y := nI k3.val) (by rw [h25]; rfl) ?_
    refine bz_ge (tgt := 107) hx hb dM_make_98 (by decide) (by omega) ?_
    refine lv_aload_n hx hb dM_make_107 rfl (lv_at hl 2 rfl) ?_
    refine rM_RG X Y dM_make_108 ?_
    refine lv_iload_n hx hb dM_make_111 rfl (lv_at hl 3 rfl) ?_
    refine lv_iload_n hx hb dM_make_112 rfl (lv_at hl 1 rfl) ?_
    refine bn_top (y := nI k3.val) (by rw [h25]; rfl) ?_
    refine sM_RG X Y (k := r) (some ⟨k3.val, by omega⟩) rfl (by omega) dM_make_113 (fun H locs Y => ?_)
    refine lv_iload_n hx hb dM_make_114 rfl (lv_at hl 1 rfl) ?_
    refine bn_top (y := nI k3.val) (by rw [h25]; rfl) ?_
    have E : uM_RG (m_place k3.val ((v)) (m_fs true (m_t0 s))) r (some ⟨k3.val, by omega⟩) = m_mks r v (m_t0 s) := by first | (rw [m_mks_1 h25]; done) | (rw [m_mks_2 h25 h40]; done) | (rw [m_mks_3 h25 h40 h67]; done) | (rw [m_mks_4 h25 h40 h67]; done)
    rw [E] at Y
    exact ret _ _ _ _ _ Y (by first | (rw [m_mkv_1 h25]; done) | (rw [m_mkv_2 h25 h40]; done) | (rw [m_mkv_3 h25 h40 h67]; done) | (rw [m_mkv_4 h25 h40 h67]; done)) dM_make_115
  · skip
    refine lv_aload_n hx hb dM_make_28 rfl (lv_at hl 1 rfl) ?_
    refine cl_vi (na := 0) (rest := []) X hD Y (tM_within l g a ha (m_fs true (m_t0 s))  ) gM_M_within (by decide +kernel) rfl rfl rfl ⟨rfl, rfl⟩ ⟨Nat.le_of_ble_eq_true rfl, Nat.le_of_ble_eq_true rfl⟩ ⟨Nat.zero_le _, Nat.zero_le _⟩ hl.1 rfl (Nat.le_of_ble_eq_true rfl) dM_make_29 (fun H locs Y => ?_)
    refine lv_pop hx hb dM_make_32 rfl ?_
    have EA : m_within (m_fs true (m_t0 s)) = m_mkA (m_t0 s) := rfl
    rw [EA] at Y
    obtain ⟨ok3, ok4⟩ := ok2 h25
    refine lv_aload_n hx hb dM_make_33 rfl (lv_at hl 1 rfl) ?_
    refine lv_iconst (v := (nI (1))) hx hb dM_make_34 (by decide) ?_
    refine cl_vi (na := 1) (rest := []) X hD Y (tM_find l g a ha (m_mkA (m_t0 s)) true (by first | exact ok3 | exact ok1 | exact m_fok_f _)) gM_M_find (by decide +kernel) rfl rfl rfl ⟨rfl, rfl⟩ ⟨Nat.le_of_ble_eq_true rfl, Nat.le_of_ble_eq_true rfl⟩ ⟨Nat.zero_le _, Nat.zero_le _⟩ hl.1 rfl (Nat.le_of_ble_eq_true rfl) dM_make_35 (fun H locs Y => ?_)
    refine lv_istore_n (lv' := [(3, .int (oI (m_fp (m_mkA (m_t0 s))))), (0, .ref (a 0)), (1, .int (nI (r))), (2, .int (v))]) hx hb dM_make_38 rfl hl (by decide) rfl (fun ls hl => ?_)
    refine lv_iload_n hx hb dM_make_39 rfl (lv_at hl 0 rfl) ?_
    refine bo_ge (tgt := 47) hx hb dM_make_40 (by decide) (fun k8 h40 => ?_) (fun h40 => ?_)
    · skip
      have hq9 := k8.isLt
      refine lv_iconst (v := (nI (0))) hx hb dM_make_47 (by decide) ?_
      refine bn_top (y := (bI (false))) (by decide) ?_
      refine lv_istore (lv' := [(4, .int (bI (false))), (3, .int (oI (m_fp (m_mkA (m_t0 s))))), (0, .ref (a 0)), (1, .int (nI (r))), (2, .int (v))]) hx hb dM_make_48 hl (by decide) rfl (fun ls hl => ?_)
      refine lv_iload hx hb dM_make_50 (lv_at hl 0 rfl) ?_
      refine bb_eq (tgt := 66) hx hb dM_make_52 (by decide) (fun _ => ?_) (fun q => by cases q)
      refine lv_iload_n hx hb dM_make_66 rfl (lv_at hl 1 rfl) ?_
      refine bn_top (y := nI k8.val) (by rw [h40]; rfl) ?_
      refine bz_lt (tgt := 76) hx hb dM_make_67 (by decide) (by omega) ?_
      refine lv_aload_n hx hb dM_make_70 rfl (lv_at hl 2 rfl) ?_
      refine lv_iload_n hx hb dM_make_71 rfl (lv_at hl 1 rfl) ?_
      refine bn_top (y := nI k8.val) (by rw [h40]; rfl) ?_
      refine lv_iload_n hx hb dM_make_72 rfl (lv_at hl 4 rfl) ?_
      refine cl_vv (na := 2) (rest := []) X hD Y (tM_place l g a ha (m_fs true (m_mkA (m_t0 s))) k8.val ((v)) (by omega)) gM_M_place (by decide +kernel) rfl rfl rfl ⟨rfl, rfl⟩ ⟨Nat.le_of_ble_eq_true rfl, Nat.le_of_ble_eq_true rfl⟩ ⟨Nat.zero_le _, Nat.zero_le _⟩ hl.1 rfl (Nat.le_of_ble_eq_true rfl) dM_make_73 (fun H locs Y => ?_)
      refine lv_iload hx hb dM_make_76 (lv_at hl 0 rfl) ?_
      refine bb_eq (tgt := 97) hx hb dM_make_78 (by decide) (fun _ => ?_) (fun q => by cases q)
      refine lv_iload_n hx hb dM_make_97 rfl (lv_at hl 1 rfl) ?_
      refine bn_top (y := nI k8.val) (by rw [h40]; rfl) ?_
      refine bz_ge (tgt := 107) hx hb dM_make_98 (by decide) (by omega) ?_
      refine lv_aload_n hx hb dM_make_107 rfl (lv_at hl 2 rfl) ?_
      refine rM_RG X Y dM_make_108 ?_
      refine lv_iload_n hx hb dM_make_111 rfl (lv_at hl 3 rfl) ?_
      refine lv_iload_n hx hb dM_make_112 rfl (lv_at hl 1 rfl) ?_
      refine bn_top (y := nI k8.val) (by rw [h40]; rfl) ?_
      refine sM_RG X Y (k := r) (some ⟨k8.val, by omega⟩) rfl (by omega) dM_make_113 (fun H locs Y => ?_)
      refine lv_iload_n hx hb dM_make_114 rfl (lv_at hl 1 rfl) ?_
      refine bn_top (y := nI k8.val) (by rw [h40]; rfl) ?_
      have E : uM_RG (m_place k8.val ((v)) (m_fs true (m_mkA (m_t0 s)))) r (some ⟨k8.val, by omega⟩) = m_mks r v (m_t0 s) := by first | (rw [m_mks_1 h25]; done) | (rw [m_mks_2 h25 h40]; done) | (rw [m_mks_3 h25 h40 h67]; done) | (rw [m_mks_4 h25 h40 h67]; done)
      rw [E] at Y
      exact ret _ _ _ _ _ Y (by first | (rw [m_mkv_1 h25]; done) | (rw [m_mkv_2 h25 h40]; done) | (rw [m_mkv_3 h25 h40 h67]; done) | (rw [m_mkv_4 h25 h40 h67]; done)) dM_make_115
    · skip
      refine lv_iconst (v := (nI (1))) hx hb dM_make_43 (by decide) ?_
      refine lv_goto (tgt := 48) hx hb dM_make_44 (by decide) ?_
      refine bn_top (y := (bI (true))) (by decide) ?_
      refine lv_istore (lv' := [(4, .int (bI (true))), (3, .int (oI (m_fp (m_mkA (m_t0 s))))), (0, .ref (a 0)), (1, .int (nI (r))), (2, .int (v))]) hx hb dM_make_48 hl (by decide) rfl (fun ls hl => ?_)
      refine lv_iload hx hb dM_make_50 (lv_at hl 0 rfl) ?_
      refine bb_eq (tgt := 66) hx hb dM_make_52 (by decide) (fun q => by cases q) (fun _ => ?_)
      refine lv_aload_n hx hb dM_make_55 rfl (lv_at hl 2 rfl) ?_
      refine cl_vi (na := 0) (rest := []) X hD Y (tM_all l g a ha (m_fs true (m_mkA (m_t0 s)))  ) gM_M_all (by decide +kernel) rfl rfl rfl ⟨rfl, rfl⟩ ⟨Nat.le_of_ble_eq_true rfl, Nat.le_of_ble_eq_true rfl⟩ ⟨Nat.zero_le _, Nat.zero_le _⟩ hl.1 rfl (Nat.le_of_ble_eq_true rfl) dM_make_56 (fun H locs Y => ?_)
      refine lv_pop hx hb dM_make_59 rfl ?_
      have EB : m_all (m_fs true (m_mkA (m_t0 s))) = m_mkB (m_t0 s) := rfl
      rw [EB] at Y
      have okB := ok4 h40
      refine lv_aload_n hx hb dM_make_60 rfl (lv_at hl 2 rfl) ?_
      refine lv_iconst (v := (nI (0))) hx hb dM_make_61 (by decide) ?_
      refine cl_vi (na := 1) (rest := []) X hD Y (tM_find l g a ha (m_mkB (m_t0 s)) false (by first | exact ok3 | exact ok1 | exact m_fok_f _)) gM_M_find (by decide +kernel) rfl rfl rfl ⟨rfl, rfl⟩ ⟨Nat.le_of_ble_eq_true rfl, Nat.le_of_ble_eq_true rfl⟩ ⟨Nat.zero_le _, Nat.zero_le _⟩ hl.1 rfl (Nat.le_of_ble_eq_true rfl) dM_make_62 (fun H locs Y => ?_)
      refine lv_istore_n (lv' := [(3, .int (oI (m_fp (m_mkB (m_t0 s))))), (4, .int (bI (true))), (0, .ref (a 0)), (1, .int (nI (r))), (2, .int (v))]) hx hb dM_make_65 rfl hl (by decide) rfl (fun ls hl => ?_)
      refine lv_iload_n hx hb dM_make_66 rfl (lv_at hl 0 rfl) ?_
      refine bo_lt (tgt := 76) hx hb dM_make_67 (by decide) (fun h67 => ?_) (fun k13 h67 => ?_)
      · skip
        refine lv_iload hx hb dM_make_76 (lv_at hl 1 rfl) ?_
        refine bb_eq (tgt := 97) hx hb dM_make_78 (by decide) (fun q => by cases q) (fun _ => ?_)
        have hsh := okB.2 h67
        refine lv_aload_n hx hb dM_make_81 rfl (lv_at hl 2 rfl) ?_
        refine lv_iload_n hx hb dM_make_82 rfl (lv_at hl 0 rfl) ?_
        refine bn_top (y := (-1)) (by rw [h67]; rfl) ?_
        refine bl_ge (tgt := 90) hx hb dM_make_83 (by decide) ?_
        refine lv_iconst (v := (-1)) hx hb dM_make_86 (by decide) ?_
        refine lv_goto (tgt := 93) hx hb dM_make_87 (by decide) ?_
        refine cl_vi (na := 1) (rest := []) X hD Y (tM_shrink l g a ha (m_fs false (m_mkB (m_t0 s))) ((-1)) (by assumption)) gM_M_shrink (by decide +kernel) rfl rfl rfl ⟨rfl, rfl⟩ ⟨Nat.le_of_ble_eq_true rfl, Nat.le_of_ble_eq_true rfl⟩ ⟨Nat.zero_le _, Nat.zero_le _⟩ hl.1 rfl (Nat.le_of_ble_eq_true rfl) dM_make_93 (fun H locs Y => ?_)
        refine lv_pop hx hb dM_make_96 rfl ?_
        refine lv_iload_n hx hb dM_make_97 rfl (lv_at hl 0 rfl) ?_
        refine bn_top (y := (-1)) (by rw [h67]; rfl) ?_
        refine bl_ge (tgt := 107) hx hb dM_make_98 (by decide) ?_
        refine lv_aload_n hx hb dM_make_101 rfl (lv_at hl 2 rfl) ?_
        refine lv_iconst (v := (nI (2))) hx hb dM_make_102 (by decide) ?_
        refine cl_vi (na := 1) (rest := []) X hD Y (tM_fails l g a ha (m_shrink ((-1)) (m_fs false (m_mkB (m_t0 s)))) ((nI (2))) ) gM_M_fails (by decide +kernel) rfl rfl rfl ⟨rfl, rfl⟩ ⟨Nat.le_of_ble_eq_true rfl, Nat.le_of_ble_eq_true rfl⟩ ⟨Nat.zero_le _, Nat.zero_le _⟩ hl.1 rfl (Nat.le_of_ble_eq_true rfl) dM_make_103 (fun H locs Y => ?_)
        have E : uM_TR (m_shrink ((-1)) (m_fs false (m_mkB (m_t0 s)))) ((nI (2))) = m_mks r v (m_t0 s) := by first | (rw [m_mks_1 h25]; done) | (rw [m_mks_2 h25 h40]; done) | (rw [m_mks_3 h25 h40 h67]; done) | (rw [m_mks_4 h25 h40 h67]; done)
        rw [E] at Y
        exact ret _ _ _ _ _ Y (by first | (rw [m_mkv_1 h25]; done) | (rw [m_mkv_2 h25 h40]; done) | (rw [m_mkv_3 h25 h40 h67]; done) | (rw [m_mkv_4 h25 h40 h67]; done)) dM_make_106
      · skip
        have hq16 := k13.isLt
        refine lv_aload_n hx hb dM_make_70 rfl (lv_at hl 2 rfl) ?_
        refine lv_iload_n hx hb dM_make_71 rfl (lv_at hl 0 rfl) ?_
        refine bn_top (y := nI k13.val) (by rw [h67]; rfl) ?_
        refine lv_iload_n hx hb dM_make_72 rfl (lv_at hl 4 rfl) ?_
        refine cl_vv (na := 2) (rest := []) X hD Y (tM_place l g a ha (m_fs false (m_mkB (m_t0 s))) k13.val ((v)) (by omega)) gM_M_place (by decide +kernel) rfl rfl rfl ⟨rfl, rfl⟩ ⟨Nat.le_of_ble_eq_true rfl, Nat.le_of_ble_eq_true rfl⟩ ⟨Nat.zero_le _, Nat.zero_le _⟩ hl.1 rfl (Nat.le_of_ble_eq_true rfl) dM_make_73 (fun H locs Y => ?_)
        refine lv_iload hx hb dM_make_76 (lv_at hl 1 rfl) ?_
        refine bb_eq (tgt := 97) hx hb dM_make_78 (by decide) (fun q => by cases q) (fun _ => ?_)
        have hsh := okB.1 _ h67
        refine lv_aload_n hx hb dM_make_81 rfl (lv_at hl 2 rfl) ?_
        refine lv_iload_n hx hb dM_make_82 rfl (lv_at hl 0 rfl) ?_
        refine bn_top (y := nI k13.val) (by rw [h67]; rfl) ?_
        refine bz_ge (tgt := 90) hx hb dM_make_83 (by decide) (by omega) ?_
        refine lv_iload_n hx hb dM_make_90 rfl (lv_at hl 0 rfl) ?_
        refine bn_top (y := nI k13.val) (by rw [h67]; rfl) ?_
        refine lv_iconst (v := (nI (4))) hx hb dM_make_91 (by decide) ?_
        refine bn_div hx hb dM_make_92 (by omega) (by omega) (by omega) ?_
        refine cl_vi (na := 1) (rest := []) X hD Y (tM_shrink l g a ha (m_place k13.val ((v)) (m_fs false (m_mkB (m_t0 s)))) ((nI (k13.val / 4))) (by assumption)) gM_M_shrink (by decide +kernel) rfl rfl rfl ⟨rfl, rfl⟩ ⟨Nat.le_of_ble_eq_true rfl, Nat.le_of_ble_eq_true rfl⟩ ⟨Nat.zero_le _, Nat.zero_le _⟩ hl.1 rfl (Nat.le_of_ble_eq_true rfl) dM_make_93 (fun H locs Y => ?_)
        refine lv_pop hx hb dM_make_96 rfl ?_
        refine lv_iload_n hx hb dM_make_97 rfl (lv_at hl 0 rfl) ?_
        refine bn_top (y := nI k13.val) (by rw [h67]; rfl) ?_
        refine bz_ge (tgt := 107) hx hb dM_make_98 (by decide) (by omega) ?_
        refine lv_aload_n hx hb dM_make_107 rfl (lv_at hl 2 rfl) ?_
        refine rM_RG X Y dM_make_108 ?_
        refine lv_iload_n hx hb dM_make_111 rfl (lv_at hl 3 rfl) ?_
        refine lv_iload_n hx hb dM_make_112 rfl (lv_at hl 0 rfl) ?_
        refine bn_top (y := nI k13.val) (by rw [h67]; rfl) ?_
        refine sM_RG X Y (k := r) (some ⟨k13.val, by omega⟩) rfl (by omega) dM_make_113 (fun H locs Y => ?_)
        refine lv_iload_n hx hb dM_make_114 rfl (lv_at hl 0 rfl) ?_
        refine bn_top (y := nI k13.val) (by rw [h67]; rfl) ?_
        have E : uM_RG (m_shrink ((nI (k13.val / 4))) (m_place k13.val ((v)) (m_fs false (m_mkB (m_t0 s))))) r (some ⟨k13.val, by omega⟩) = m_mks r v (m_t0 s) := by first | (rw [m_mks_1 h25]; done) | (rw [m_mks_2 h25 h40]; done) | (rw [m_mks_3 h25 h40 h67]; done) | (rw [m_mks_4 h25 h40 h67]; done)
        rw [E] at Y
        exact ret _ _ _ _ _ Y (by first | (rw [m_mkv_1 h25]; done) | (rw [m_mkv_2 h25 h40]; done) | (rw [m_mkv_3 h25 h40 h67]; done) | (rw [m_mkv_4 h25 h40 h67]; done)) dM_make_115
set_option maxHeartbeats 1000000 in
set_option maxRecDepth 100000 in
theorem tM_store_bad (l : Launch) (g : GG) (a : Nat → Nat) (ha : apM a) (s : MS) (r f q : Int32) (hbad : (m_reg r && m_fld f && m_reg q) = false) : Ci l g (wldM g a) (adM a) yM_store kM_store ({ frames := 4, cells := 0, slots := 0, locals := 92 }) [.ref (a 0), .int (r), .int (f), .int (q)] s (nI (0)) (uM_TR (m_t0 s) (nI 1)) := by
  have hD := wldM_D (g := g) ha
  refine Ci.of (own := RM) (cc := cM_store) (nL := 4) hD (by decide) rfl (Nat.le_of_ble_eq_true rfl) ?_
  intro p e S m args below meth c Q X ret H locs ls Y hl
  have hx := X.1
  have hb := X.2.1
  have hl : lv_has ls 4 [(0, .ref (a 0)), (1, .int (r)), (2, .int (f)), (3, .int (q))] := hl
  refine lv_aload_n hx hb dM_store_0 rfl (lv_at hl 0 rfl) ?_
  refine lv_iconst (v := (nI (0))) hx hb dM_store_1 (by decide) ?_
  refine pM_TR X Y ((nI (0))) rfl dM_store_2 (fun H locs Y => ?_)
  have E0 : uM_TR s (nI 0) = m_t0 s := rfl
  rw [E0] at Y
  refine lv_iload_n hx hb dM_store_5 rfl (lv_at hl 1 rfl) ?_
  refine cl_s (na := 1) (rest := []) X Y (tM_register l ((r)) ) gM_M_register (by decide +kernel) rfl ⟨rfl, rfl⟩ ⟨Nat.le_of_ble_eq_true rfl, Nat.le_of_ble_eq_true rfl⟩ ⟨Nat.zero_le _, Nat.zero_le _⟩ hl.1 rfl (Nat.le_of_ble_eq_true rfl) dM_store_6 (fun H locs Y => ?_)
  refine bb_eq (tgt := 28) hx hb dM_store_9 (by decide) (fun h9 => ?_) (fun h9 => ?_)
  · skip
    refine lv_aload_n hx hb dM_store_28 rfl (lv_at hl 0 rfl) ?_
    refine lv_iconst (v := (nI (1))) hx hb dM_store_29 (by decide) ?_
    refine cl_vi (na := 1) (rest := []) X hD Y (tM_fails l g a ha (m_t0 s) ((nI (1))) ) gM_M_fails (by decide +kernel) rfl rfl rfl ⟨rfl, rfl⟩ ⟨Nat.le_of_ble_eq_true rfl, Nat.le_of_ble_eq_true rfl⟩ ⟨Nat.zero_le _, Nat.zero_le _⟩ hl.1 rfl (Nat.le_of_ble_eq_true rfl) dM_store_30 (fun H locs Y => ?_)
    have E : uM_TR (m_t0 s) ((nI (1))) = uM_TR (m_t0 s) (nI 1) := rfl
    rw [E] at Y
    exact ret _ _ _ _ _ Y (rfl) dM_store_33
  · skip
    refine lv_iload_n hx hb dM_store_12 rfl (lv_at hl 2 rfl) ?_
    refine lv_if_lt (tgt := 28) hx hb dM_store_13 (by decide) (fun h13 => ?_) (fun h13 => ?_)
    · skip
      refine lv_aload_n hx hb dM_store_28 rfl (lv_at hl 0 rfl) ?_
      refine lv_iconst (v := (nI (1))) hx hb dM_store_29 (by decide) ?_
      refine cl_vi (na := 1) (rest := []) X hD Y (tM_fails l g a ha (m_t0 s) ((nI (1))) ) gM_M_fails (by decide +kernel) rfl rfl rfl ⟨rfl, rfl⟩ ⟨Nat.le_of_ble_eq_true rfl, Nat.le_of_ble_eq_true rfl⟩ ⟨Nat.zero_le _, Nat.zero_le _⟩ hl.1 rfl (Nat.le_of_ble_eq_true rfl) dM_store_30 (fun H locs Y => ?_)
      have E : uM_TR (m_t0 s) ((nI (1))) = uM_TR (m_t0 s) (nI 1) := rfl
      rw [E] at Y
      exact ret _ _ _ _ _ Y (rfl) dM_store_33
    · skip
      refine lv_iload_n hx hb dM_store_16 rfl (lv_at hl 2 rfl) ?_
      refine lv_iconst (v := (nI (1))) hx hb dM_store_17 (by decide) ?_
      refine lv_icmp_gt (tgt := 28) hx hb dM_store_18 (by decide) (fun h18 => ?_) (fun h18 => ?_)
      · skip
        refine lv_aload_n hx hb dM_store_28 rfl (lv_at hl 0 rfl) ?_
        refine lv_iconst (v := (nI (1))) hx hb dM_store_29 (by decide) ?_
        refine cl_vi (na := 1) (rest := []) X hD Y (tM_fails l g a ha (m_t0 s) ((nI (1))) ) gM_M_fails (by decide +kernel) rfl rfl rfl ⟨rfl, rfl⟩ ⟨Nat.le_of_ble_eq_true rfl, Nat.le_of_ble_eq_true rfl⟩ ⟨Nat.zero_le _, Nat.zero_le _⟩ hl.1 rfl (Nat.le_of_ble_eq_true rfl) dM_store_30 (fun H locs Y => ?_)
        have E : uM_TR (m_t0 s) ((nI (1))) = uM_TR (m_t0 s) (nI 1) := rfl
        rw [E] at Y
        exact ret _ _ _ _ _ Y (rfl) dM_store_33
      · skip
        refine lv_iload_n hx hb dM_store_21 rfl (lv_at hl 3 rfl) ?_
        refine cl_s (na := 1) (rest := []) X Y (tM_register l ((q)) ) gM_M_register (by decide +kernel) rfl ⟨rfl, rfl⟩ ⟨Nat.le_of_ble_eq_true rfl, Nat.le_of_ble_eq_true rfl⟩ ⟨Nat.zero_le _, Nat.zero_le _⟩ hl.1 rfl (Nat.le_of_ble_eq_true rfl) dM_store_22 (fun H locs Y => ?_)
        refine bb_ne (tgt := 34) hx hb dM_store_25 (by decide) (fun h25 => ?_) (fun h25 => ?_)
        · skip
          exact absurd hbad (by simp [m_fld, h9, h13, h18, h25])
        · skip
          refine lv_aload_n hx hb dM_store_28 rfl (lv_at hl 0 rfl) ?_
          refine lv_iconst (v := (nI (1))) hx hb dM_store_29 (by decide) ?_
          refine cl_vi (na := 1) (rest := []) X hD Y (tM_fails l g a ha (m_t0 s) ((nI (1))) ) gM_M_fails (by decide +kernel) rfl rfl rfl ⟨rfl, rfl⟩ ⟨Nat.le_of_ble_eq_true rfl, Nat.le_of_ble_eq_true rfl⟩ ⟨Nat.zero_le _, Nat.zero_le _⟩ hl.1 rfl (Nat.le_of_ble_eq_true rfl) dM_store_30 (fun H locs Y => ?_)
          have E : uM_TR (m_t0 s) ((nI (1))) = uM_TR (m_t0 s) (nI 1) := rfl
          rw [E] at Y
          exact ret _ _ _ _ _ Y (rfl) dM_store_33
set_option maxHeartbeats 1000000 in
set_option maxRecDepth 100000 in
theorem tM_store_none (l : Launch) (g : GG) (a : Nat → Nat) (ha : apM a) (s : MS) (r f q : Nat) (hr : r < 4) (hf : f < 2) (hq : q < 4) (hk : gM_RG (m_t0 s) r = none) : Ci l g (wldM g a) (adM a) yM_store kM_store ({ frames := 4, cells := 0, slots := 0, locals := 92 }) [.ref (a 0), .int (nI (r)), .int (nI (f)), .int (nI (q))] s (nI (0)) (uM_TR (m_t0 s) (nI 2)) := by
  have hD := wldM_D (g := g) ha
  refine Ci.of (own := RM) (cc := cM_store) (nL := 4) hD (by decide) rfl (Nat.le_of_ble_eq_true rfl) ?_
  intro p e S m args below meth c Q X ret H locs ls Y hl
  have hx := X.1
  have hb := X.2.1
  have hl : lv_has ls 4 [(0, .ref (a 0)), (1, .int (nI (r))), (2, .int (nI (f))), (3, .int (nI (q)))] := hl
  have hgr := m_reg_nI hr
  have hgq := m_reg_nI hq
  refine lv_aload_n hx hb dM_store_0 rfl (lv_at hl 0 rfl) ?_
  refine lv_iconst (v := (nI (0))) hx hb dM_store_1 (by decide) ?_
  refine pM_TR X Y ((nI (0))) rfl dM_store_2 (fun H locs Y => ?_)
  have E0 : uM_TR s (nI 0) = m_t0 s := rfl
  rw [E0] at Y
  refine lv_iload_n hx hb dM_store_5 rfl (lv_at hl 1 rfl) ?_
  refine cl_s (na := 1) (rest := []) X Y (tM_register l ((nI (r))) ) gM_M_register (by decide +kernel) rfl ⟨rfl, rfl⟩ ⟨Nat.le_of_ble_eq_true rfl, Nat.le_of_ble_eq_true rfl⟩ ⟨Nat.zero_le _, Nat.zero_le _⟩ hl.1 rfl (Nat.le_of_ble_eq_true rfl) dM_store_6 (fun H locs Y => ?_)
  refine bb_eq (tgt := 28) hx hb dM_store_9 (by decide) (fun q => by rw [hgr] at q; cases q) (fun _ => ?_)
  refine lv_iload_n hx hb dM_store_12 rfl (lv_at hl 2 rfl) ?_
  refine bz_lt (tgt := 28) hx hb dM_store_13 (by decide) (by omega) ?_
  refine lv_iload_n hx hb dM_store_16 rfl (lv_at hl 2 rfl) ?_
  refine lv_iconst (v := (nI (1))) hx hb dM_store_17 (by decide) ?_
  refine bn_gt (tgt := 28) hx hb dM_store_18 (by decide) (by omega) (by omega) (fun h18 => ?_) (fun h18 => ?_)
  · skip
    exact absurd h18 (by omega)
  · skip
    refine lv_iload_n hx hb dM_store_21 rfl (lv_at hl 3 rfl) ?_
    refine cl_s (na := 1) (rest := []) X Y (tM_register l ((nI (q))) ) gM_M_register (by decide +kernel) rfl ⟨rfl, rfl⟩ ⟨Nat.le_of_ble_eq_true rfl, Nat.le_of_ble_eq_true rfl⟩ ⟨Nat.zero_le _, Nat.zero_le _⟩ hl.1 rfl (Nat.le_of_ble_eq_true rfl) dM_store_22 (fun H locs Y => ?_)
    refine bb_ne (tgt := 34) hx hb dM_store_25 (by decide) (fun _ => ?_) (fun q => by rw [hgq] at q; cases q)
    refine lv_aload_n hx hb dM_store_34 rfl (lv_at hl 0 rfl) ?_
    refine rM_RG X Y dM_store_35 ?_
    refine lv_iload_n hx hb dM_store_38 rfl (lv_at hl 1 rfl) ?_
    refine lM_RG X Y (k := r) (by omega) dM_store_39 ?_
    refine bn_top (y := (-1)) (by rw [hk]; rfl) ?_
    refine bl_ge (tgt := 49) hx hb dM_store_40 (by decide) ?_
    refine lv_aload_n hx hb dM_store_43 rfl (lv_at hl 0 rfl) ?_
    refine lv_iconst (v := (nI (2))) hx hb dM_store_44 (by decide) ?_
    refine cl_vi (na := 1) (rest := []) X hD Y (tM_fails l g a ha (m_t0 s) ((nI (2))) ) gM_M_fails (by decide +kernel) rfl rfl rfl ⟨rfl, rfl⟩ ⟨Nat.le_of_ble_eq_true rfl, Nat.le_of_ble_eq_true rfl⟩ ⟨Nat.zero_le _, Nat.zero_le _⟩ hl.1 rfl (Nat.le_of_ble_eq_true rfl) dM_store_45 (fun H locs Y => ?_)
    have E : uM_TR (m_t0 s) ((nI (2))) = uM_TR (m_t0 s) (nI 2) := rfl
    rw [E] at Y
    exact ret _ _ _ _ _ Y (rfl) dM_store_48
set_option maxHeartbeats 1000000 in
set_option maxRecDepth 100000 in
theorem tM_store_ok (l : Launch) (g : GG) (a : Nat → Nat) (ha : apM a) (s : MS) (r f q : Nat) (k : Fin 32) (hr : r < 4) (hf : f < 2) (hq : q < 4) (hk : gM_RG (m_t0 s) r = some k) (htok : m_tok (k.val / 4) (m_t0 s)) : Ci l g (wldM g a) (adM a) yM_store kM_store ({ frames := 4, cells := 0, slots := 0, locals := 92 }) [.ref (a 0), .int (nI (r)), .int (nI (f)), .int (nI (q))] s (gM_FA (m_touch (k.val / 4) (m_t0 s))) (uM_FD (m_touch (k.val / 4) (m_t0 s)) (2 * k.val + f) (gM_RG (m_touch (k.val / 4) (m_t0 s)) q)) := by
  have hD := wldM_D (g := g) ha
  refine Ci.of (own := RM) (cc := cM_store) (nL := 4) hD (by decide) rfl (Nat.le_of_ble_eq_true rfl) ?_
  intro p e S m args below meth c Q X ret H locs ls Y hl
  have hx := X.1
  have hb := X.2.1
  have hl : lv_has ls 4 [(0, .ref (a 0)), (1, .int (nI (r))), (2, .int (nI (f))), (3, .int (nI (q)))] := hl
  have hgr := m_reg_nI hr
  have hgq := m_reg_nI hq
  have hq0 := k.isLt
  refine lv_aload_n hx hb dM_store_0 rfl (lv_at hl 0 rfl) ?_
  refine lv_iconst (v := (nI (0))) hx hb dM_store_1 (by decide) ?_
  refine pM_TR X Y ((nI (0))) rfl dM_store_2 (fun H locs Y => ?_)
  have E0 : uM_TR s (nI 0) = m_t0 s := rfl
  rw [E0] at Y
  refine lv_iload_n hx hb dM_store_5 rfl (lv_at hl 1 rfl) ?_
  refine cl_s (na := 1) (rest := []) X Y (tM_register l ((nI (r))) ) gM_M_register (by decide +kernel) rfl ⟨rfl, rfl⟩ ⟨Nat.le_of_ble_eq_true rfl, Nat.le_of_ble_eq_true rfl⟩ ⟨Nat.zero_le _, Nat.zero_le _⟩ hl.1 rfl (Nat.le_of_ble_eq_true rfl) dM_store_6 (fun H locs Y => ?_)
  refine bb_eq (tgt := 28) hx hb dM_store_9 (by decide) (fun q => by rw [hgr] at q; cases q) (fun _ => ?_)
  refine lv_iload_n hx hb dM_store_12 rfl (lv_at hl 2 rfl) ?_
  refine bz_lt (tgt := 28) hx hb dM_store_13 (by decide) (by omega) ?_
  refine lv_iload_n hx hb dM_store_16 rfl (lv_at hl 2 rfl) ?_
  refine lv_iconst (v := (nI (1))) hx hb dM_store_17 (by decide) ?_
  refine bn_gt (tgt := 28) hx hb dM_store_18 (by decide) (by omega) (by omega) (fun h18 => ?_) (fun h18 => ?_)
  · skip
    exact absurd h18 (by omega)
  · skip
    refine lv_iload_n hx hb dM_store_21 rfl (lv_at hl 3 rfl) ?_
    refine cl_s (na := 1) (rest := []) X Y (tM_register l ((nI (q))) ) gM_M_register (by decide +kernel) rfl ⟨rfl, rfl⟩ ⟨Nat.le_of_ble_eq_true rfl, Nat.le_of_ble_eq_true rfl⟩ ⟨Nat.zero_le _, Nat.zero_le _⟩ hl.1 rfl (Nat.le_of_ble_eq_true rfl) dM_store_22 (fun H locs Y => ?_)
    refine bb_ne (tgt := 34) hx hb dM_store_25 (by decide) (fun _ => ?_) (fun q => by rw [hgq] at q; cases q)
    refine lv_aload_n hx hb dM_store_34 rfl (lv_at hl 0 rfl) ?_
    refine rM_RG X Y dM_store_35 ?_
    refine lv_iload_n hx hb dM_store_38 rfl (lv_at hl 1 rfl) ?_
    refine lM_RG X Y (k := r) (by omega) dM_store_39 ?_
    refine bn_top (y := nI k.val) (by rw [hk]; rfl) ?_
    refine bz_ge (tgt := 49) hx hb dM_store_40 (by decide) (by omega) ?_
    refine lv_aload_n hx hb dM_store_49 rfl (lv_at hl 0 rfl) ?_
    refine lv_aload_n hx hb dM_store_50 rfl (lv_at hl 0 rfl) ?_
    refine rM_RG X Y dM_store_51 ?_
    refine lv_iload_n hx hb dM_store_54 rfl (lv_at hl 1 rfl) ?_
    refine lM_RG X Y (k := r) (by omega) dM_store_55 ?_
    refine bn_top (y := nI k.val) (by rw [hk]; rfl) ?_
    refine lv_iconst (v := (nI (4))) hx hb dM_store_56 (by decide) ?_
    refine bn_div hx hb dM_store_57 (by omega) (by omega) (by omega) ?_
    refine cl_vv (na := 1) (rest := []) X hD Y (tM_touch l g a ha (m_t0 s) (k.val / 4) (by omega) (by first | assumption | exact htok)) gM_M_touch (by decide +kernel) rfl rfl rfl ⟨rfl, rfl⟩ ⟨Nat.le_of_ble_eq_true rfl, Nat.le_of_ble_eq_true rfl⟩ ⟨Nat.zero_le _, Nat.zero_le _⟩ hl.1 rfl (Nat.le_of_ble_eq_true rfl) dM_store_58 (fun H locs Y => ?_)
    have hrg : gM_RG (m_touch (k.val / 4) (m_t0 s)) r = some k := by rw [m_rg_touch]; exact hk
    refine lv_aload_n hx hb dM_store_61 rfl (lv_at hl 0 rfl) ?_
    refine rM_FD X Y dM_store_62 ?_
    refine lv_iconst (v := (nI (2))) hx hb dM_store_65 (by decide) ?_
    refine lv_aload_n hx hb dM_store_66 rfl (lv_at hl 0 rfl) ?_
    refine rM_RG X Y dM_store_67 ?_
    refine lv_iload_n hx hb dM_store_70 rfl (lv_at hl 1 rfl) ?_
    refine lM_RG X Y (k := r) (by omega) dM_store_71 ?_
    refine bn_top (y := nI k.val) (by rw [hrg]; rfl) ?_
    refine bn_mul hx hb dM_store_72 ?_
    refine lv_iload_n hx hb dM_store_73 rfl (lv_at hl 2 rfl) ?_
    refine bn_add hx hb dM_store_74 ?_
    refine lv_aload_n hx hb dM_store_75 rfl (lv_at hl 0 rfl) ?_
    refine rM_RG X Y dM_store_76 ?_
    refine lv_iload_n hx hb dM_store_79 rfl (lv_at hl 3 rfl) ?_
    refine lM_RG X Y (k := q) (by omega) dM_store_80 ?_
    refine sM_FD X Y (k := (2 * k.val) + f) (gM_RG (m_touch (k.val / 4) (m_t0 s)) q) rfl (by omega) dM_store_81 (fun H locs Y => ?_)
    refine lv_aload_n hx hb dM_store_82 rfl (lv_at hl 0 rfl) ?_
    refine rM_FA X Y dM_store_83 ?_
    have E : uM_FD (m_touch (k.val / 4) (m_t0 s)) ((2 * k.val) + f) (gM_RG (m_touch (k.val / 4) (m_t0 s)) q) = uM_FD (m_touch (k.val / 4) (m_t0 s)) (2 * k.val + f) (gM_RG (m_touch (k.val / 4) (m_t0 s)) q) := rfl
    rw [E] at Y
    exact ret _ _ _ _ _ Y (rfl) dM_store_86
set_option maxHeartbeats 1000000 in
set_option maxRecDepth 100000 in
theorem tM_load_bad (l : Launch) (g : GG) (a : Nat → Nat) (ha : apM a) (s : MS) (d r f : Int32) (hbad : (m_reg d && m_reg r && m_fld f) = false) : Ci l g (wldM g a) (adM a) yM_load kM_load ({ frames := 4, cells := 0, slots := 0, locals := 92 }) [.ref (a 0), .int (d), .int (r), .int (f)] s (nI (0)) (uM_TR (m_t0 s) (nI 1)) := by
  have hD := wldM_D (g := g) ha
  refine Ci.of (own := RM) (cc := cM_load) (nL := 4) hD (by decide) rfl (Nat.le_of_ble_eq_true rfl) ?_
  intro p e S m args below meth c Q X ret H locs ls Y hl
  have hx := X.1
  have hb := X.2.1
  have hl : lv_has ls 4 [(0, .ref (a 0)), (1, .int (d)), (2, .int (r)), (3, .int (f))] := hl
  refine lv_aload_n hx hb dM_load_0 rfl (lv_at hl 0 rfl) ?_
  refine lv_iconst (v := (nI (0))) hx hb dM_load_1 (by decide) ?_
  refine pM_TR X Y ((nI (0))) rfl dM_load_2 (fun H locs Y => ?_)
  have E0 : uM_TR s (nI 0) = m_t0 s := rfl
  rw [E0] at Y
  refine lv_iload_n hx hb dM_load_5 rfl (lv_at hl 1 rfl) ?_
  refine cl_s (na := 1) (rest := []) X Y (tM_register l ((d)) ) gM_M_register (by decide +kernel) rfl ⟨rfl, rfl⟩ ⟨Nat.le_of_ble_eq_true rfl, Nat.le_of_ble_eq_true rfl⟩ ⟨Nat.zero_le _, Nat.zero_le _⟩ hl.1 rfl (Nat.le_of_ble_eq_true rfl) dM_load_6 (fun H locs Y => ?_)
  refine bb_eq (tgt := 28) hx hb dM_load_9 (by decide) (fun h9 => ?_) (fun h9 => ?_)
  · skip
    refine lv_aload_n hx hb dM_load_28 rfl (lv_at hl 0 rfl) ?_
    refine lv_iconst (v := (nI (1))) hx hb dM_load_29 (by decide) ?_
    refine cl_vi (na := 1) (rest := []) X hD Y (tM_fails l g a ha (m_t0 s) ((nI (1))) ) gM_M_fails (by decide +kernel) rfl rfl rfl ⟨rfl, rfl⟩ ⟨Nat.le_of_ble_eq_true rfl, Nat.le_of_ble_eq_true rfl⟩ ⟨Nat.zero_le _, Nat.zero_le _⟩ hl.1 rfl (Nat.le_of_ble_eq_true rfl) dM_load_30 (fun H locs Y => ?_)
    have E : uM_TR (m_t0 s) ((nI (1))) = uM_TR (m_t0 s) (nI 1) := rfl
    rw [E] at Y
    exact ret _ _ _ _ _ Y (rfl) dM_load_33
  · skip
    refine lv_iload_n hx hb dM_load_12 rfl (lv_at hl 2 rfl) ?_
    refine cl_s (na := 1) (rest := []) X Y (tM_register l ((r)) ) gM_M_register (by decide +kernel) rfl ⟨rfl, rfl⟩ ⟨Nat.le_of_ble_eq_true rfl, Nat.le_of_ble_eq_true rfl⟩ ⟨Nat.zero_le _, Nat.zero_le _⟩ hl.1 rfl (Nat.le_of_ble_eq_true rfl) dM_load_13 (fun H locs Y => ?_)
    refine bb_eq (tgt := 28) hx hb dM_load_16 (by decide) (fun h16 => ?_) (fun h16 => ?_)
    · skip
      refine lv_aload_n hx hb dM_load_28 rfl (lv_at hl 0 rfl) ?_
      refine lv_iconst (v := (nI (1))) hx hb dM_load_29 (by decide) ?_
      refine cl_vi (na := 1) (rest := []) X hD Y (tM_fails l g a ha (m_t0 s) ((nI (1))) ) gM_M_fails (by decide +kernel) rfl rfl rfl ⟨rfl, rfl⟩ ⟨Nat.le_of_ble_eq_true rfl, Nat.le_of_ble_eq_true rfl⟩ ⟨Nat.zero_le _, Nat.zero_le _⟩ hl.1 rfl (Nat.le_of_ble_eq_true rfl) dM_load_30 (fun H locs Y => ?_)
      have E : uM_TR (m_t0 s) ((nI (1))) = uM_TR (m_t0 s) (nI 1) := rfl
      rw [E] at Y
      exact ret _ _ _ _ _ Y (rfl) dM_load_33
    · skip
      refine lv_iload_n hx hb dM_load_19 rfl (lv_at hl 3 rfl) ?_
      refine lv_if_lt (tgt := 28) hx hb dM_load_20 (by decide) (fun h20 => ?_) (fun h20 => ?_)
      · skip
        refine lv_aload_n hx hb dM_load_28 rfl (lv_at hl 0 rfl) ?_
        refine lv_iconst (v := (nI (1))) hx hb dM_load_29 (by decide) ?_
        refine cl_vi (na := 1) (rest := []) X hD Y (tM_fails l g a ha (m_t0 s) ((nI (1))) ) gM_M_fails (by decide +kernel) rfl rfl rfl ⟨rfl, rfl⟩ ⟨Nat.le_of_ble_eq_true rfl, Nat.le_of_ble_eq_true rfl⟩ ⟨Nat.zero_le _, Nat.zero_le _⟩ hl.1 rfl (Nat.le_of_ble_eq_true rfl) dM_load_30 (fun H locs Y => ?_)
        have E : uM_TR (m_t0 s) ((nI (1))) = uM_TR (m_t0 s) (nI 1) := rfl
        rw [E] at Y
        exact ret _ _ _ _ _ Y (rfl) dM_load_33
      · skip
        refine lv_iload_n hx hb dM_load_23 rfl (lv_at hl 3 rfl) ?_
        refine lv_iconst (v := (nI (1))) hx hb dM_load_24 (by decide) ?_
        refine lv_icmp_le (tgt := 34) hx hb dM_load_25 (by decide) (fun h25 => ?_) (fun h25 => ?_)
        · skip
          exact absurd hbad (by simp [m_fld, Int32.not_lt.mpr h25, h9, h16, h20, h25])
        · skip
          refine lv_aload_n hx hb dM_load_28 rfl (lv_at hl 0 rfl) ?_
          refine lv_iconst (v := (nI (1))) hx hb dM_load_29 (by decide) ?_
          refine cl_vi (na := 1) (rest := []) X hD Y (tM_fails l g a ha (m_t0 s) ((nI (1))) ) gM_M_fails (by decide +kernel) rfl rfl rfl ⟨rfl, rfl⟩ ⟨Nat.le_of_ble_eq_true rfl, Nat.le_of_ble_eq_true rfl⟩ ⟨Nat.zero_le _, Nat.zero_le _⟩ hl.1 rfl (Nat.le_of_ble_eq_true rfl) dM_load_30 (fun H locs Y => ?_)
          have E : uM_TR (m_t0 s) ((nI (1))) = uM_TR (m_t0 s) (nI 1) := rfl
          rw [E] at Y
          exact ret _ _ _ _ _ Y (rfl) dM_load_33
set_option maxHeartbeats 1000000 in
set_option maxRecDepth 100000 in
theorem tM_load_none (l : Launch) (g : GG) (a : Nat → Nat) (ha : apM a) (s : MS) (d r f : Nat) (hd : d < 4) (hr : r < 4) (hf : f < 2) (hk : gM_RG (m_t0 s) r = none) : Ci l g (wldM g a) (adM a) yM_load kM_load ({ frames := 4, cells := 0, slots := 0, locals := 92 }) [.ref (a 0), .int (nI (d)), .int (nI (r)), .int (nI (f))] s (nI (0)) (uM_TR (m_t0 s) (nI 2)) := by
  have hD := wldM_D (g := g) ha
  refine Ci.of (own := RM) (cc := cM_load) (nL := 4) hD (by decide) rfl (Nat.le_of_ble_eq_true rfl) ?_
  intro p e S m args below meth c Q X ret H locs ls Y hl
  have hx := X.1
  have hb := X.2.1
  have hl : lv_has ls 4 [(0, .ref (a 0)), (1, .int (nI (d))), (2, .int (nI (r))), (3, .int (nI (f)))] := hl
  have hgd := m_reg_nI hd
  have hgr := m_reg_nI hr
  refine lv_aload_n hx hb dM_load_0 rfl (lv_at hl 0 rfl) ?_
  refine lv_iconst (v := (nI (0))) hx hb dM_load_1 (by decide) ?_
  refine pM_TR X Y ((nI (0))) rfl dM_load_2 (fun H locs Y => ?_)
  have E0 : uM_TR s (nI 0) = m_t0 s := rfl
  rw [E0] at Y
  refine lv_iload_n hx hb dM_load_5 rfl (lv_at hl 1 rfl) ?_
  refine cl_s (na := 1) (rest := []) X Y (tM_register l ((nI (d))) ) gM_M_register (by decide +kernel) rfl ⟨rfl, rfl⟩ ⟨Nat.le_of_ble_eq_true rfl, Nat.le_of_ble_eq_true rfl⟩ ⟨Nat.zero_le _, Nat.zero_le _⟩ hl.1 rfl (Nat.le_of_ble_eq_true rfl) dM_load_6 (fun H locs Y => ?_)
  refine bb_eq (tgt := 28) hx hb dM_load_9 (by decide) (fun q => by rw [hgd] at q; cases q) (fun _ => ?_)
  refine lv_iload_n hx hb dM_load_12 rfl (lv_at hl 2 rfl) ?_
  refine cl_s (na := 1) (rest := []) X Y (tM_register l ((nI (r))) ) gM_M_register (by decide +kernel) rfl ⟨rfl, rfl⟩ ⟨Nat.le_of_ble_eq_true rfl, Nat.le_of_ble_eq_true rfl⟩ ⟨Nat.zero_le _, Nat.zero_le _⟩ hl.1 rfl (Nat.le_of_ble_eq_true rfl) dM_load_13 (fun H locs Y => ?_)
  refine bb_eq (tgt := 28) hx hb dM_load_16 (by decide) (fun q => by rw [hgr] at q; cases q) (fun _ => ?_)
  refine lv_iload_n hx hb dM_load_19 rfl (lv_at hl 3 rfl) ?_
  refine bz_lt (tgt := 28) hx hb dM_load_20 (by decide) (by omega) ?_
  refine lv_iload_n hx hb dM_load_23 rfl (lv_at hl 3 rfl) ?_
  refine lv_iconst (v := (nI (1))) hx hb dM_load_24 (by decide) ?_
  refine bn_le (tgt := 34) hx hb dM_load_25 (by decide) (by omega) (by omega) (fun h25 => ?_) (fun h25 => ?_)
  · skip
    refine lv_aload_n hx hb dM_load_34 rfl (lv_at hl 0 rfl) ?_
    refine rM_RG X Y dM_load_35 ?_
    refine lv_iload_n hx hb dM_load_38 rfl (lv_at hl 2 rfl) ?_
    refine lM_RG X Y (k := r) (by omega) dM_load_39 ?_
    refine bn_top (y := (-1)) (by rw [hk]; rfl) ?_
    refine bl_ge (tgt := 49) hx hb dM_load_40 (by decide) ?_
    refine lv_aload_n hx hb dM_load_43 rfl (lv_at hl 0 rfl) ?_
    refine lv_iconst (v := (nI (2))) hx hb dM_load_44 (by decide) ?_
    refine cl_vi (na := 1) (rest := []) X hD Y (tM_fails l g a ha (m_t0 s) ((nI (2))) ) gM_M_fails (by decide +kernel) rfl rfl rfl ⟨rfl, rfl⟩ ⟨Nat.le_of_ble_eq_true rfl, Nat.le_of_ble_eq_true rfl⟩ ⟨Nat.zero_le _, Nat.zero_le _⟩ hl.1 rfl (Nat.le_of_ble_eq_true rfl) dM_load_45 (fun H locs Y => ?_)
    have E : uM_TR (m_t0 s) ((nI (2))) = uM_TR (m_t0 s) (nI 2) := rfl
    rw [E] at Y
    exact ret _ _ _ _ _ Y (rfl) dM_load_48
  · skip
    exact absurd h25 (by omega)
set_option maxHeartbeats 1000000 in
set_option maxRecDepth 100000 in
theorem tM_load_ok (l : Launch) (g : GG) (a : Nat → Nat) (ha : apM a) (s : MS) (d r f : Nat) (k : Fin 32) (hd : d < 4) (hr : r < 4) (hf : f < 2) (hk : gM_RG (m_t0 s) r = some k) (htok : m_tok (k.val / 4) (m_t0 s)) : Ci l g (wldM g a) (adM a) yM_load kM_load ({ frames := 4, cells := 0, slots := 0, locals := 92 }) [.ref (a 0), .int (nI (d)), .int (nI (r)), .int (nI (f))] s (gM_FA (m_touch (k.val / 4) (m_t0 s))) (uM_RG (m_touch (k.val / 4) (m_t0 s)) d (gM_FD (m_touch (k.val / 4) (m_t0 s)) (2 * k.val + f))) := by
  have hD := wldM_D (g := g) ha
  refine Ci.of (own := RM) (cc := cM_load) (nL := 4) hD (by decide) rfl (Nat.le_of_ble_eq_true rfl) ?_
  intro p e S m args below meth c Q X ret H locs ls Y hl
  have hx := X.1
  have hb := X.2.1
  have hl : lv_has ls 4 [(0, .ref (a 0)), (1, .int (nI (d))), (2, .int (nI (r))), (3, .int (nI (f)))] := hl
  have hgd := m_reg_nI hd
  have hgr := m_reg_nI hr
  have hq0 := k.isLt
  refine lv_aload_n hx hb dM_load_0 rfl (lv_at hl 0 rfl) ?_
  refine lv_iconst (v := (nI (0))) hx hb dM_load_1 (by decide) ?_
  refine pM_TR X Y ((nI (0))) rfl dM_load_2 (fun H locs Y => ?_)
  have E0 : uM_TR s (nI 0) = m_t0 s := rfl
  rw [E0] at Y
  refine lv_iload_n hx hb dM_load_5 rfl (lv_at hl 1 rfl) ?_
  refine cl_s (na := 1) (rest := []) X Y (tM_register l ((nI (d))) ) gM_M_register (by decide +kernel) rfl ⟨rfl, rfl⟩ ⟨Nat.le_of_ble_eq_true rfl, Nat.le_of_ble_eq_true rfl⟩ ⟨Nat.zero_le _, Nat.zero_le _⟩ hl.1 rfl (Nat.le_of_ble_eq_true rfl) dM_load_6 (fun H locs Y => ?_)
  refine bb_eq (tgt := 28) hx hb dM_load_9 (by decide) (fun q => by rw [hgd] at q; cases q) (fun _ => ?_)
  refine lv_iload_n hx hb dM_load_12 rfl (lv_at hl 2 rfl) ?_
  refine cl_s (na := 1) (rest := []) X Y (tM_register l ((nI (r))) ) gM_M_register (by decide +kernel) rfl ⟨rfl, rfl⟩ ⟨Nat.le_of_ble_eq_true rfl, Nat.le_of_ble_eq_true rfl⟩ ⟨Nat.zero_le _, Nat.zero_le _⟩ hl.1 rfl (Nat.le_of_ble_eq_true rfl) dM_load_13 (fun H locs Y => ?_)
  refine bb_eq (tgt := 28) hx hb dM_load_16 (by decide) (fun q => by rw [hgr] at q; cases q) (fun _ => ?_)
  refine lv_iload_n hx hb dM_load_19 rfl (lv_at hl 3 rfl) ?_
  refine bz_lt (tgt := 28) hx hb dM_load_20 (by decide) (by omega) ?_
  refine lv_iload_n hx hb dM_load_23 rfl (lv_at hl 3 rfl) ?_
  refine lv_iconst (v := (nI (1))) hx hb dM_load_24 (by decide) ?_
  refine bn_le (tgt := 34) hx hb dM_load_25 (by decide) (by omega) (by omega) (fun h25 => ?_) (fun h25 => ?_)
  · skip
    refine lv_aload_n hx hb dM_load_34 rfl (lv_at hl 0 rfl) ?_
    refine rM_RG X Y dM_load_35 ?_
    refine lv_iload_n hx hb dM_load_38 rfl (lv_at hl 2 rfl) ?_
    refine lM_RG X Y (k := r) (by omega) dM_load_39 ?_
    refine bn_top (y := nI k.val) (by rw [hk]; rfl) ?_
    refine bz_ge (tgt := 49) hx hb dM_load_40 (by decide) (by omega) ?_
    refine lv_aload_n hx hb dM_load_49 rfl (lv_at hl 0 rfl) ?_
    refine lv_aload_n hx hb dM_load_50 rfl (lv_at hl 0 rfl) ?_
    refine rM_RG X Y dM_load_51 ?_
    refine lv_iload_n hx hb dM_load_54 rfl (lv_at hl 2 rfl) ?_
    refine lM_RG X Y (k := r) (by omega) dM_load_55 ?_
    refine bn_top (y := nI k.val) (by rw [hk]; rfl) ?_
    refine lv_iconst (v := (nI (4))) hx hb dM_load_56 (by decide) ?_
    refine bn_div hx hb dM_load_57 (by omega) (by omega) (by omega) ?_
    refine cl_vv (na := 1) (rest := []) X hD Y (tM_touch l g a ha (m_t0 s) (k.val / 4) (by omega) (by first | assumption | exact htok)) gM_M_touch (by decide +kernel) rfl rfl rfl ⟨rfl, rfl⟩ ⟨Nat.le_of_ble_eq_true rfl, Nat.le_of_ble_eq_true rfl⟩ ⟨Nat.zero_le _, Nat.zero_le _⟩ hl.1 rfl (Nat.le_of_ble_eq_true rfl) dM_load_58 (fun H locs Y => ?_)
    have hrg : gM_RG (m_touch (k.val / 4) (m_t0 s)) r = some k := by rw [m_rg_touch]; exact hk
    refine lv_aload_n hx hb dM_load_61 rfl (lv_at hl 0 rfl) ?_
    refine rM_RG X Y dM_load_62 ?_
    refine lv_iload_n hx hb dM_load_65 rfl (lv_at hl 1 rfl) ?_
    refine lv_aload_n hx hb dM_load_66 rfl (lv_at hl 0 rfl) ?_
    refine rM_FD X Y dM_load_67 ?_
    refine lv_iconst (v := (nI (2))) hx hb dM_load_70 (by decide) ?_
    refine lv_aload_n hx hb dM_load_71 rfl (lv_at hl 0 rfl) ?_
    refine rM_RG X Y dM_load_72 ?_
    refine lv_iload_n hx hb dM_load_75 rfl (lv_at hl 2 rfl) ?_
    refine lM_RG X Y (k := r) (by omega) dM_load_76 ?_
    refine bn_top (y := nI k.val) (by rw [hrg]; rfl) ?_
    refine bn_mul hx hb dM_load_77 ?_
    refine lv_iload_n hx hb dM_load_78 rfl (lv_at hl 3 rfl) ?_
    refine bn_add hx hb dM_load_79 ?_
    refine lM_FD X Y (k := (2 * k.val) + f) (by omega) dM_load_80 ?_
    refine sM_RG X Y (k := d) (gM_FD (m_touch (k.val / 4) (m_t0 s)) ((2 * k.val) + f)) rfl (by omega) dM_load_81 (fun H locs Y => ?_)
    refine lv_aload_n hx hb dM_load_82 rfl (lv_at hl 0 rfl) ?_
    refine rM_FA X Y dM_load_83 ?_
    have E : uM_RG (m_touch (k.val / 4) (m_t0 s)) d (gM_FD (m_touch (k.val / 4) (m_t0 s)) ((2 * k.val) + f)) = uM_RG (m_touch (k.val / 4) (m_t0 s)) d (gM_FD (m_touch (k.val / 4) (m_t0 s)) (2 * k.val + f)) := rfl
    rw [E] at Y
    exact ret _ _ _ _ _ Y (rfl) dM_load_86
  · skip
    exact absurd h25 (by omega)
set_option maxHeartbeats 1000000 in
set_option maxRecDepth 100000 in
theorem tM_value_bad (l : Launch) (g : GG) (a : Nat → Nat) (ha : apM a) (s : MS) (r : Int32) (hr : m_reg r = false) : Ci l g (wldM g a) (adM a) yM_value kM_value ({ frames := 4, cells := 0, slots := 0, locals := 92 }) [.ref (a 0), .int (r)] s (nI (0)) (uM_TR (m_t0 s) (nI 1)) := by
  have hD := wldM_D (g := g) ha
  refine Ci.of (own := RM) (cc := cM_value) (nL := 2) hD (by decide) rfl (Nat.le_of_ble_eq_true rfl) ?_
  intro p e S m args below meth c Q X ret H locs ls Y hl
  have hx := X.1
  have hb := X.2.1
  have hl : lv_has ls 2 [(0, .ref (a 0)), (1, .int (r))] := hl
  refine lv_aload_n hx hb dM_value_0 rfl (lv_at hl 0 rfl) ?_
  refine lv_iconst (v := (nI (0))) hx hb dM_value_1 (by decide) ?_
  refine pM_TR X Y ((nI (0))) rfl dM_value_2 (fun H locs Y => ?_)
  have E0 : uM_TR s (nI 0) = m_t0 s := rfl
  rw [E0] at Y
  refine lv_iload_n hx hb dM_value_5 rfl (lv_at hl 1 rfl) ?_
  refine cl_s (na := 1) (rest := []) X Y (tM_register l ((r)) ) gM_M_register (by decide +kernel) rfl ⟨rfl, rfl⟩ ⟨Nat.le_of_ble_eq_true rfl, Nat.le_of_ble_eq_true rfl⟩ ⟨Nat.zero_le _, Nat.zero_le _⟩ hl.1 rfl (Nat.le_of_ble_eq_true rfl) dM_value_6 (fun H locs Y => ?_)
  refine bb_ne (tgt := 18) hx hb dM_value_9 (by decide) (fun q => by rw [hr] at q; cases q) (fun _ => ?_)
  refine lv_aload_n hx hb dM_value_12 rfl (lv_at hl 0 rfl) ?_
  refine lv_iconst (v := (nI (1))) hx hb dM_value_13 (by decide) ?_
  refine cl_vi (na := 1) (rest := []) X hD Y (tM_fails l g a ha (m_t0 s) ((nI (1))) ) gM_M_fails (by decide +kernel) rfl rfl rfl ⟨rfl, rfl⟩ ⟨Nat.le_of_ble_eq_true rfl, Nat.le_of_ble_eq_true rfl⟩ ⟨Nat.zero_le _, Nat.zero_le _⟩ hl.1 rfl (Nat.le_of_ble_eq_true rfl) dM_value_14 (fun H locs Y => ?_)
  have E : uM_TR (m_t0 s) ((nI (1))) = uM_TR (m_t0 s) (nI 1) := rfl
  rw [E] at Y
  exact ret _ _ _ _ _ Y (rfl) dM_value_17
set_option maxHeartbeats 1000000 in
set_option maxRecDepth 100000 in
theorem tM_value_none (l : Launch) (g : GG) (a : Nat → Nat) (ha : apM a) (s : MS) (r : Nat) (hr : r < 4) (hk : gM_RG (m_t0 s) r = none) : Ci l g (wldM g a) (adM a) yM_value kM_value ({ frames := 4, cells := 0, slots := 0, locals := 92 }) [.ref (a 0), .int (nI (r))] s (nI (0)) (uM_TR (m_t0 s) (nI 2)) := by
  have hD := wldM_D (g := g) ha
  refine Ci.of (own := RM) (cc := cM_value) (nL := 2) hD (by decide) rfl (Nat.le_of_ble_eq_true rfl) ?_
  intro p e S m args below meth c Q X ret H locs ls Y hl
  have hx := X.1
  have hb := X.2.1
  have hl : lv_has ls 2 [(0, .ref (a 0)), (1, .int (nI (r)))] := hl
  have hgr := m_reg_nI hr
  refine lv_aload_n hx hb dM_value_0 rfl (lv_at hl 0 rfl) ?_
  refine lv_iconst (v := (nI (0))) hx hb dM_value_1 (by decide) ?_
  refine pM_TR X Y ((nI (0))) rfl dM_value_2 (fun H locs Y => ?_)
  have E0 : uM_TR s (nI 0) = m_t0 s := rfl
  rw [E0] at Y
  refine lv_iload_n hx hb dM_value_5 rfl (lv_at hl 1 rfl) ?_
  refine cl_s (na := 1) (rest := []) X Y (tM_register l ((nI (r))) ) gM_M_register (by decide +kernel) rfl ⟨rfl, rfl⟩ ⟨Nat.le_of_ble_eq_true rfl, Nat.le_of_ble_eq_true rfl⟩ ⟨Nat.zero_le _, Nat.zero_le _⟩ hl.1 rfl (Nat.le_of_ble_eq_true rfl) dM_value_6 (fun H locs Y => ?_)
  refine bb_ne (tgt := 18) hx hb dM_value_9 (by decide) (fun _ => ?_) (fun q => by rw [hgr] at q; cases q)
  refine lv_aload_n hx hb dM_value_18 rfl (lv_at hl 0 rfl) ?_
  refine rM_RG X Y dM_value_19 ?_
  refine lv_iload_n hx hb dM_value_22 rfl (lv_at hl 1 rfl) ?_
  refine lM_RG X Y (k := r) (by omega) dM_value_23 ?_
  refine bn_top (y := (-1)) (by rw [hk]; rfl) ?_
  refine bl_ge (tgt := 33) hx hb dM_value_24 (by decide) ?_
  refine lv_aload_n hx hb dM_value_27 rfl (lv_at hl 0 rfl) ?_
  refine lv_iconst (v := (nI (2))) hx hb dM_value_28 (by decide) ?_
  refine cl_vi (na := 1) (rest := []) X hD Y (tM_fails l g a ha (m_t0 s) ((nI (2))) ) gM_M_fails (by decide +kernel) rfl rfl rfl ⟨rfl, rfl⟩ ⟨Nat.le_of_ble_eq_true rfl, Nat.le_of_ble_eq_true rfl⟩ ⟨Nat.zero_le _, Nat.zero_le _⟩ hl.1 rfl (Nat.le_of_ble_eq_true rfl) dM_value_29 (fun H locs Y => ?_)
  have E : uM_TR (m_t0 s) ((nI (2))) = uM_TR (m_t0 s) (nI 2) := rfl
  rw [E] at Y
  exact ret _ _ _ _ _ Y (rfl) dM_value_32
set_option maxHeartbeats 1000000 in
set_option maxRecDepth 100000 in
theorem tM_value_ok (l : Launch) (g : GG) (a : Nat → Nat) (ha : apM a) (s : MS) (r : Nat) (k : Fin 32) (hr : r < 4) (hk : gM_RG (m_t0 s) r = some k) (htok : m_tok (k.val / 4) (m_t0 s)) : Ci l g (wldM g a) (adM a) yM_value kM_value ({ frames := 4, cells := 0, slots := 0, locals := 92 }) [.ref (a 0), .int (nI (r))] s (gM_VA (m_touch (k.val / 4) (m_t0 s)) k.val) (m_touch (k.val / 4) (m_t0 s)) := by
  have hD := wldM_D (g := g) ha
  refine Ci.of (own := RM) (cc := cM_value) (nL := 2) hD (by decide) rfl (Nat.le_of_ble_eq_true rfl) ?_
  intro p e S m args below meth c Q X ret H locs ls Y hl
  have hx := X.1
  have hb := X.2.1
  have hl : lv_has ls 2 [(0, .ref (a 0)), (1, .int (nI (r)))] := hl
  have hgr := m_reg_nI hr
  have hq0 := k.isLt
  refine lv_aload_n hx hb dM_value_0 rfl (lv_at hl 0 rfl) ?_
  refine lv_iconst (v := (nI (0))) hx hb dM_value_1 (by decide) ?_
  refine pM_TR X Y ((nI (0))) rfl dM_value_2 (fun H locs Y => ?_)
  have E0 : uM_TR s (nI 0) = m_t0 s := rfl
  rw [E0] at Y
  refine lv_iload_n hx hb dM_value_5 rfl (lv_at hl 1 rfl) ?_
  refine cl_s (na := 1) (rest := []) X Y (tM_register l ((nI (r))) ) gM_M_register (by decide +kernel) rfl ⟨rfl, rfl⟩ ⟨Nat.le_of_ble_eq_true rfl, Nat.le_of_ble_eq_true rfl⟩ ⟨Nat.zero_le _, Nat.zero_le _⟩ hl.1 rfl (Nat.le_of_ble_eq_true rfl) dM_value_6 (fun H locs Y => ?_)
  refine bb_ne (tgt := 18) hx hb dM_value_9 (by decide) (fun _ => ?_) (fun q => by rw [hgr] at q; cases q)
  refine lv_aload_n hx hb dM_value_18 rfl (lv_at hl 0 rfl) ?_
  refine rM_RG X Y dM_value_19 ?_
  refine lv_iload_n hx hb dM_value_22 rfl (lv_at hl 1 rfl) ?_
  refine lM_RG X Y (k := r) (by omega) dM_value_23 ?_
  refine bn_top (y := nI k.val) (by rw [hk]; rfl) ?_
  refine bz_ge (tgt := 33) hx hb dM_value_24 (by decide) (by omega) ?_
  refine lv_aload_n hx hb dM_value_33 rfl (lv_at hl 0 rfl) ?_
  refine lv_aload_n hx hb dM_value_34 rfl (lv_at hl 0 rfl) ?_
  refine rM_RG X Y dM_value_35 ?_
  refine lv_iload_n hx hb dM_value_38 rfl (lv_at hl 1 rfl) ?_
  refine lM_RG X Y (k := r) (by omega) dM_value_39 ?_
  refine bn_top (y := nI k.val) (by rw [hk]; rfl) ?_
  refine lv_iconst (v := (nI (4))) hx hb dM_value_40 (by decide) ?_
  refine bn_div hx hb dM_value_41 (by omega) (by omega) (by omega) ?_
  refine cl_vv (na := 1) (rest := []) X hD Y (tM_touch l g a ha (m_t0 s) (k.val / 4) (by omega) (by first | assumption | exact htok)) gM_M_touch (by decide +kernel) rfl rfl rfl ⟨rfl, rfl⟩ ⟨Nat.le_of_ble_eq_true rfl, Nat.le_of_ble_eq_true rfl⟩ ⟨Nat.zero_le _, Nat.zero_le _⟩ hl.1 rfl (Nat.le_of_ble_eq_true rfl) dM_value_42 (fun H locs Y => ?_)
  have hrg : gM_RG (m_touch (k.val / 4) (m_t0 s)) r = some k := by rw [m_rg_touch]; exact hk
  refine lv_aload_n hx hb dM_value_45 rfl (lv_at hl 0 rfl) ?_
  refine rM_VA X Y dM_value_46 ?_
  refine lv_aload_n hx hb dM_value_49 rfl (lv_at hl 0 rfl) ?_
  refine rM_RG X Y dM_value_50 ?_
  refine lv_iload_n hx hb dM_value_53 rfl (lv_at hl 1 rfl) ?_
  refine lM_RG X Y (k := r) (by omega) dM_value_54 ?_
  refine bn_top (y := nI k.val) (by rw [hrg]; rfl) ?_
  refine lM_VA X Y (k := k.val) (by omega) dM_value_55 ?_
  exact ret _ _ _ _ _ Y (rfl) dM_value_56
set_option maxHeartbeats 1000000 in
set_option maxRecDepth 100000 in
theorem tM_copy_bad (l : Launch) (g : GG) (a : Nat → Nat) (ha : apM a) (s : MS) (d r : Int32) (hbad : (m_reg d && m_reg r) = false) : Ci l g (wldM g a) (adM a) yM_copy kM_copy ({ frames := 1, cells := 0, slots := 0, locals := 21 }) [.ref (a 0), .int (d), .int (r)] s (nI (0)) (uM_TR (m_t0 s) (nI 1)) := by
  have hD := wldM_D (g := g) ha
  refine Ci.of (own := RM) (cc := cM_copy) (nL := 3) hD (by decide) rfl (Nat.le_of_ble_eq_true rfl) ?_
  intro p e S m args below meth c Q X ret H locs ls Y hl
  have hx := X.1
  have hb := X.2.1
  have hl : lv_has ls 3 [(0, .ref (a 0)), (1, .int (d)), (2, .int (r))] := hl
  refine lv_aload_n hx hb dM_copy_0 rfl (lv_at hl 0 rfl) ?_
  refine lv_iconst (v := (nI (0))) hx hb dM_copy_1 (by decide) ?_
  refine pM_TR X Y ((nI (0))) rfl dM_copy_2 (fun H locs Y => ?_)
  have E0 : uM_TR s (nI 0) = m_t0 s := rfl
  rw [E0] at Y
  refine lv_iload_n hx hb dM_copy_5 rfl (lv_at hl 1 rfl) ?_
  refine cl_s (na := 1) (rest := []) X Y (tM_register l ((d)) ) gM_M_register (by decide +kernel) rfl ⟨rfl, rfl⟩ ⟨Nat.le_of_ble_eq_true rfl, Nat.le_of_ble_eq_true rfl⟩ ⟨Nat.zero_le _, Nat.zero_le _⟩ hl.1 rfl (Nat.le_of_ble_eq_true rfl) dM_copy_6 (fun H locs Y => ?_)
  refine bb_eq (tgt := 19) hx hb dM_copy_9 (by decide) (fun h9 => ?_) (fun h9 => ?_)
  · skip
    refine lv_aload_n hx hb dM_copy_19 rfl (lv_at hl 0 rfl) ?_
    refine lv_iconst (v := (nI (1))) hx hb dM_copy_20 (by decide) ?_
    refine cl_vi (na := 1) (rest := []) X hD Y (tM_fails l g a ha (m_t0 s) ((nI (1))) ) gM_M_fails (by decide +kernel) rfl rfl rfl ⟨rfl, rfl⟩ ⟨Nat.le_of_ble_eq_true rfl, Nat.le_of_ble_eq_true rfl⟩ ⟨Nat.zero_le _, Nat.zero_le _⟩ hl.1 rfl (Nat.le_of_ble_eq_true rfl) dM_copy_21 (fun H locs Y => ?_)
    have E : uM_TR (m_t0 s) ((nI (1))) = uM_TR (m_t0 s) (nI 1) := rfl
    rw [E] at Y
    exact ret _ _ _ _ _ Y (rfl) dM_copy_24
  · skip
    refine lv_iload_n hx hb dM_copy_12 rfl (lv_at hl 2 rfl) ?_
    refine cl_s (na := 1) (rest := []) X Y (tM_register l ((r)) ) gM_M_register (by decide +kernel) rfl ⟨rfl, rfl⟩ ⟨Nat.le_of_ble_eq_true rfl, Nat.le_of_ble_eq_true rfl⟩ ⟨Nat.zero_le _, Nat.zero_le _⟩ hl.1 rfl (Nat.le_of_ble_eq_true rfl) dM_copy_13 (fun H locs Y => ?_)
    refine bb_ne (tgt := 25) hx hb dM_copy_16 (by decide) (fun h16 => ?_) (fun h16 => ?_)
    · skip
      exact absurd hbad (by simp [h9, h16])
    · skip
      refine lv_aload_n hx hb dM_copy_19 rfl (lv_at hl 0 rfl) ?_
      refine lv_iconst (v := (nI (1))) hx hb dM_copy_20 (by decide) ?_
      refine cl_vi (na := 1) (rest := []) X hD Y (tM_fails l g a ha (m_t0 s) ((nI (1))) ) gM_M_fails (by decide +kernel) rfl rfl rfl ⟨rfl, rfl⟩ ⟨Nat.le_of_ble_eq_true rfl, Nat.le_of_ble_eq_true rfl⟩ ⟨Nat.zero_le _, Nat.zero_le _⟩ hl.1 rfl (Nat.le_of_ble_eq_true rfl) dM_copy_21 (fun H locs Y => ?_)
      have E : uM_TR (m_t0 s) ((nI (1))) = uM_TR (m_t0 s) (nI 1) := rfl
      rw [E] at Y
      exact ret _ _ _ _ _ Y (rfl) dM_copy_24
set_option maxHeartbeats 1000000 in
set_option maxRecDepth 100000 in
theorem tM_copy_ok (l : Launch) (g : GG) (a : Nat → Nat) (ha : apM a) (s : MS) (d r : Nat) (hd : d < 4) (hr : r < 4) : Ci l g (wldM g a) (adM a) yM_copy kM_copy ({ frames := 1, cells := 0, slots := 0, locals := 21 }) [.ref (a 0), .int (nI (d)), .int (nI (r))] s (oI (gM_RG (m_t0 s) r)) (uM_RG (m_t0 s) d (gM_RG (m_t0 s) r)) := by
  have hD := wldM_D (g := g) ha
  refine Ci.of (own := RM) (cc := cM_copy) (nL := 3) hD (by decide) rfl (Nat.le_of_ble_eq_true rfl) ?_
  intro p e S m args below meth c Q X ret H locs ls Y hl
  have hx := X.1
  have hb := X.2.1
  have hl : lv_has ls 3 [(0, .ref (a 0)), (1, .int (nI (d))), (2, .int (nI (r)))] := hl
  have hgd := m_reg_nI hd
  have hgr := m_reg_nI hr
  refine lv_aload_n hx hb dM_copy_0 rfl (lv_at hl 0 rfl) ?_
  refine lv_iconst (v := (nI (0))) hx hb dM_copy_1 (by decide) ?_
  refine pM_TR X Y ((nI (0))) rfl dM_copy_2 (fun H locs Y => ?_)
  have E0 : uM_TR s (nI 0) = m_t0 s := rfl
  rw [E0] at Y
  refine lv_iload_n hx hb dM_copy_5 rfl (lv_at hl 1 rfl) ?_
  refine cl_s (na := 1) (rest := []) X Y (tM_register l ((nI (d))) ) gM_M_register (by decide +kernel) rfl ⟨rfl, rfl⟩ ⟨Nat.le_of_ble_eq_true rfl, Nat.le_of_ble_eq_true rfl⟩ ⟨Nat.zero_le _, Nat.zero_le _⟩ hl.1 rfl (Nat.le_of_ble_eq_true rfl) dM_copy_6 (fun H locs Y => ?_)
  refine bb_eq (tgt := 19) hx hb dM_copy_9 (by decide) (fun q => by rw [hgd] at q; cases q) (fun _ => ?_)
  refine lv_iload_n hx hb dM_copy_12 rfl (lv_at hl 2 rfl) ?_
  refine cl_s (na := 1) (rest := []) X Y (tM_register l ((nI (r))) ) gM_M_register (by decide +kernel) rfl ⟨rfl, rfl⟩ ⟨Nat.le_of_ble_eq_true rfl, Nat.le_of_ble_eq_true rfl⟩ ⟨Nat.zero_le _, Nat.zero_le _⟩ hl.1 rfl (Nat.le_of_ble_eq_true rfl) dM_copy_13 (fun H locs Y => ?_)
  refine bb_ne (tgt := 25) hx hb dM_copy_16 (by decide) (fun _ => ?_) (fun q => by rw [hgr] at q; cases q)
  refine lv_aload_n hx hb dM_copy_25 rfl (lv_at hl 0 rfl) ?_
  refine rM_RG X Y dM_copy_26 ?_
  refine lv_iload_n hx hb dM_copy_29 rfl (lv_at hl 1 rfl) ?_
  refine lv_aload_n hx hb dM_copy_30 rfl (lv_at hl 0 rfl) ?_
  refine rM_RG X Y dM_copy_31 ?_
  refine lv_iload_n hx hb dM_copy_34 rfl (lv_at hl 2 rfl) ?_
  refine lM_RG X Y (k := r) (by omega) dM_copy_35 ?_
  refine sM_RG X Y (k := d) (gM_RG (m_t0 s) r) rfl (by omega) dM_copy_36 (fun H locs Y => ?_)
  refine lv_aload_n hx hb dM_copy_37 rfl (lv_at hl 0 rfl) ?_
  refine rM_RG X Y dM_copy_38 ?_
  refine lv_iload_n hx hb dM_copy_41 rfl (lv_at hl 1 rfl) ?_
  refine lM_RG X Y (k := d) (by omega) dM_copy_42 ?_
  exact ret _ _ _ _ _ Y (by show oI (va_up (gM_RG (m_t0 s)) d (gM_RG (m_t0 s) r) d) = _; rw [show va_up (gM_RG (m_t0 s)) d (gM_RG (m_t0 s) r) d = gM_RG (m_t0 s) r from if_pos rfl]) dM_copy_43
set_option maxHeartbeats 1000000 in
set_option maxRecDepth 100000 in
theorem tM_drop_bad (l : Launch) (g : GG) (a : Nat → Nat) (ha : apM a) (s : MS) (r : Int32) (hr : m_reg r = false) : Ci l g (wldM g a) (adM a) yM_drop kM_drop ({ frames := 1, cells := 0, slots := 0, locals := 20 }) [.ref (a 0), .int (r)] s (bI (false)) (uM_TR (m_t0 s) (nI 1)) := by
  have hD := wldM_D (g := g) ha
  refine Ci.ofZ (own := RM) (cc := cM_drop) (nL := 3) hD (by decide) rfl (Nat.le_of_ble_eq_true rfl) ?_
  intro p e S m args below meth c Q X ret H locs ls Y hl
  have hx := X.1
  have hb := X.2.1
  have hl : lv_has ls 3 [(0, .ref (a 0)), (1, .int (r))] := hl
  refine lv_aload_n hx hb dM_drop_0 rfl (lv_at hl 0 rfl) ?_
  refine lv_iconst (v := (nI (0))) hx hb dM_drop_1 (by decide) ?_
  refine pM_TR X Y ((nI (0))) rfl dM_drop_2 (fun H locs Y => ?_)
  have E0 : uM_TR s (nI 0) = m_t0 s := rfl
  rw [E0] at Y
  refine lv_iload_n hx hb dM_drop_5 rfl (lv_at hl 1 rfl) ?_
  refine cl_s (na := 1) (rest := []) X Y (tM_register l ((r)) ) gM_M_register (by decide +kernel) rfl ⟨rfl, rfl⟩ ⟨Nat.le_of_ble_eq_true rfl, Nat.le_of_ble_eq_true rfl⟩ ⟨Nat.zero_le _, Nat.zero_le _⟩ hl.1 rfl (Nat.le_of_ble_eq_true rfl) dM_drop_6 (fun H locs Y => ?_)
  refine bb_ne (tgt := 19) hx hb dM_drop_9 (by decide) (fun q => by rw [hr] at q; cases q) (fun _ => ?_)
  refine lv_aload_n hx hb dM_drop_12 rfl (lv_at hl 0 rfl) ?_
  refine lv_iconst (v := (nI (1))) hx hb dM_drop_13 (by decide) ?_
  refine pM_TR X Y ((nI (1))) rfl dM_drop_14 (fun H locs Y => ?_)
  refine lv_iconst (v := (nI (0))) hx hb dM_drop_17 (by decide) ?_
  have E : uM_TR (m_t0 s) ((nI (1))) = uM_TR (m_t0 s) (nI 1) := rfl
  rw [E] at Y
  exact ret _ _ _ _ _ Y (by decide) dM_drop_18
set_option maxHeartbeats 1000000 in
set_option maxRecDepth 100000 in
theorem tM_drop_ok (l : Launch) (g : GG) (a : Nat → Nat) (ha : apM a) (s : MS) (r : Nat) (hr : r < 4) : Ci l g (wldM g a) (adM a) yM_drop kM_drop ({ frames := 1, cells := 0, slots := 0, locals := 20 }) [.ref (a 0), .int (nI (r))] s (bI ((gM_RG (m_t0 s) r).isSome)) (uM_RG (m_t0 s) r none) := by
  have hD := wldM_D (g := g) ha
  refine Ci.ofZ (own := RM) (cc := cM_drop) (nL := 3) hD (by decide) rfl (Nat.le_of_ble_eq_true rfl) ?_
  intro p e S m args below meth c Q X ret H locs ls Y hl
  have hx := X.1
  have hb := X.2.1
  have hl : lv_has ls 3 [(0, .ref (a 0)), (1, .int (nI (r)))] := hl
  have hgr := m_reg_nI hr
  refine lv_aload_n hx hb dM_drop_0 rfl (lv_at hl 0 rfl) ?_
  refine lv_iconst (v := (nI (0))) hx hb dM_drop_1 (by decide) ?_
  refine pM_TR X Y ((nI (0))) rfl dM_drop_2 (fun H locs Y => ?_)
  have E0 : uM_TR s (nI 0) = m_t0 s := rfl
  rw [E0] at Y
  refine lv_iload_n hx hb dM_drop_5 rfl (lv_at hl 1 rfl) ?_
  refine cl_s (na := 1) (rest := []) X Y (tM_register l ((nI (r))) ) gM_M_register (by decide +kernel) rfl ⟨rfl, rfl⟩ ⟨Nat.le_of_ble_eq_true rfl, Nat.le_of_ble_eq_true rfl⟩ ⟨Nat.zero_le _, Nat.zero_le _⟩ hl.1 rfl (Nat.le_of_ble_eq_true rfl) dM_drop_6 (fun H locs Y => ?_)
  refine bb_ne (tgt := 19) hx hb dM_drop_9 (by decide) (fun _ => ?_) (fun q => by rw [hgr] at q; cases q)
  refine lv_aload_n hx hb dM_drop_19 rfl (lv_at hl 0 rfl) ?_
  refine rM_RG X Y dM_drop_20 ?_
  refine lv_iload_n hx hb dM_drop_23 rfl (lv_at hl 1 rfl) ?_
  refine lM_RG X Y (k := r) (by omega) dM_drop_24 ?_
  refine bo_lt (tgt := 32) hx hb dM_drop_25 (by decide) (fun h25 => ?_) (fun k2 h25 => ?_)
  · skip
    refine lv_iconst (v := (nI (0))) hx hb dM_drop_32 (by decide) ?_
    refine bn_top (y := (bI (false))) (by decide) ?_
    refine lv_istore_n (lv' := [(2, .int (bI (false))), (0, .ref (a 0)), (1, .int (nI (r)))]) hx hb dM_drop_33 rfl hl (by decide) rfl (fun ls hl => ?_)
    refine lv_aload_n hx hb dM_drop_34 rfl (lv_at hl 1 rfl) ?_
    refine rM_RG X Y dM_drop_35 ?_
    refine lv_iload_n hx hb dM_drop_38 rfl (lv_at hl 2 rfl) ?_
    refine lv_iconst (v := (-1)) hx hb dM_drop_39 (by decide) ?_
    refine sM_RG X Y (k := r) none rfl (by omega) dM_drop_40 (fun H locs Y => ?_)
    refine lv_iload_n hx hb dM_drop_41 rfl (lv_at hl 0 rfl) ?_
    exact ret _ _ _ _ _ Y (by rw [h25]; rfl) dM_drop_42
  · skip
    have hq3 := k2.isLt
    refine lv_iconst (v := (nI (1))) hx hb dM_drop_28 (by decide) ?_
    refine lv_goto (tgt := 33) hx hb dM_drop_29 (by decide) ?_
    refine bn_top (y := (bI (true))) (by decide) ?_
    refine lv_istore_n (lv' := [(2, .int (bI (true))), (0, .ref (a 0)), (1, .int (nI (r)))]) hx hb dM_drop_33 rfl hl (by decide) rfl (fun ls hl => ?_)
    refine lv_aload_n hx hb dM_drop_34 rfl (lv_at hl 1 rfl) ?_
    refine rM_RG X Y dM_drop_35 ?_
    refine lv_iload_n hx hb dM_drop_38 rfl (lv_at hl 2 rfl) ?_
    refine lv_iconst (v := (-1)) hx hb dM_drop_39 (by decide) ?_
    refine sM_RG X Y (k := r) none rfl (by omega) dM_drop_40 (fun H locs Y => ?_)
    refine lv_iload_n hx hb dM_drop_41 rfl (lv_at hl 0 rfl) ?_
    exact ret _ _ _ _ _ Y (by rw [h25]; rfl) dM_drop_42
set_option maxHeartbeats 1000000 in
set_option maxRecDepth 100000 in
theorem tM_budget_bad (l : Launch) (g : GG) (a : Nat → Nat) (ha : apM a) (s : MS) (n : Int32) (hn : m_bud n = false) : Ci l g (wldM g a) (adM a) yM_budget kM_budget ({ frames := 3, cells := 0, slots := 0, locals := 67 }) [.ref (a 0), .int (n)] s (nI (0)) (uM_TR (m_t0 s) (nI 1)) := by
  have hD := wldM_D (g := g) ha
  refine Ci.of (own := RM) (cc := cM_budget) (nL := 2) hD (by decide) rfl (Nat.le_of_ble_eq_true rfl) ?_
  intro p e S m args below meth c Q X ret H locs ls Y hl
  have hx := X.1
  have hb := X.2.1
  have hl : lv_has ls 2 [(0, .ref (a 0)), (1, .int (n))] := hl
  refine lv_aload_n hx hb dM_budget_0 rfl (lv_at hl 0 rfl) ?_
  refine lv_iconst (v := (nI (0))) hx hb dM_budget_1 (by decide) ?_
  refine pM_TR X Y ((nI (0))) rfl dM_budget_2 (fun H locs Y => ?_)
  have E0 : uM_TR s (nI 0) = m_t0 s := rfl
  rw [E0] at Y
  refine lv_iload_n hx hb dM_budget_5 rfl (lv_at hl 1 rfl) ?_
  refine lv_iconst (v := (nI (2))) hx hb dM_budget_6 (by decide) ?_
  refine lv_icmp_lt (tgt := 16) hx hb dM_budget_7 (by decide) (fun h7 => ?_) (fun h7 => ?_)
  · skip
    refine lv_aload_n hx hb dM_budget_16 rfl (lv_at hl 0 rfl) ?_
    refine lv_iconst (v := (nI (1))) hx hb dM_budget_17 (by decide) ?_
    refine cl_vi (na := 1) (rest := []) X hD Y (tM_fails l g a ha (m_t0 s) ((nI (1))) ) gM_M_fails (by decide +kernel) rfl rfl rfl ⟨rfl, rfl⟩ ⟨Nat.le_of_ble_eq_true rfl, Nat.le_of_ble_eq_true rfl⟩ ⟨Nat.zero_le _, Nat.zero_le _⟩ hl.1 rfl (Nat.le_of_ble_eq_true rfl) dM_budget_18 (fun H locs Y => ?_)
    have E : uM_TR (m_t0 s) ((nI (1))) = uM_TR (m_t0 s) (nI 1) := rfl
    rw [E] at Y
    exact ret _ _ _ _ _ Y (rfl) dM_budget_21
  · skip
    refine lv_iload_n hx hb dM_budget_10 rfl (lv_at hl 1 rfl) ?_
    refine lv_bipush (v := (nI (8))) hx hb dM_budget_11 (by decide) ?_
    refine lv_icmp_le (tgt := 22) hx hb dM_budget_13 (by decide) (fun h13 => ?_) (fun h13 => ?_)
    · skip
      exact absurd hn (by simp [m_bud, h7, h13])
    · skip
      refine lv_aload_n hx hb dM_budget_16 rfl (lv_at hl 0 rfl) ?_
      refine lv_iconst (v := (nI (1))) hx hb dM_budget_17 (by decide) ?_
      refine cl_vi (na := 1) (rest := []) X hD Y (tM_fails l g a ha (m_t0 s) ((nI (1))) ) gM_M_fails (by decide +kernel) rfl rfl rfl ⟨rfl, rfl⟩ ⟨Nat.le_of_ble_eq_true rfl, Nat.le_of_ble_eq_true rfl⟩ ⟨Nat.zero_le _, Nat.zero_le _⟩ hl.1 rfl (Nat.le_of_ble_eq_true rfl) dM_budget_18 (fun H locs Y => ?_)
      have E : uM_TR (m_t0 s) ((nI (1))) = uM_TR (m_t0 s) (nI 1) := rfl
      rw [E] at Y
      exact ret _ _ _ _ _ Y (rfl) dM_budget_21
set_option maxHeartbeats 1000000 in
set_option maxRecDepth 100000 in
theorem tM_budget_ok (l : Launch) (g : GG) (a : Nat → Nat) (ha : apM a) (s : MS) (n : Fin 9) (hn : 2 ≤ n.val) (hsh : m_shr (-1) (uM_BU (m_t0 s) n)) : Ci l g (wldM g a) (adM a) yM_budget kM_budget ({ frames := 3, cells := 0, slots := 0, locals := 67 }) [.ref (a 0), .int (nI (n.val))] s (nI (m_byn (uM_BU (m_t0 s) n))) (m_shrink (-1) (uM_BU (m_t0 s) n)) := by
  have hD := wldM_D (g := g) ha
  refine Ci.of (own := RM) (cc := cM_budget) (nL := 2) hD (by decide) rfl (Nat.le_of_ble_eq_true rfl) ?_
  intro p e S m args below meth c Q X ret H locs ls Y hl
  have hx := X.1
  have hb := X.2.1
  have hl : lv_has ls 2 [(0, .ref (a 0)), (1, .int (nI (n.val)))] := hl
  have hq0 := n.isLt
  refine lv_aload_n hx hb dM_budget_0 rfl (lv_at hl 0 rfl) ?_
  refine lv_iconst (v := (nI (0))) hx hb dM_budget_1 (by decide) ?_
  refine pM_TR X Y ((nI (0))) rfl dM_budget_2 (fun H locs Y => ?_)
  have E0 : uM_TR s (nI 0) = m_t0 s := rfl
  rw [E0] at Y
  refine lv_iload_n hx hb dM_budget_5 rfl (lv_at hl 1 rfl) ?_
  refine lv_iconst (v := (nI (2))) hx hb dM_budget_6 (by decide) ?_
  refine bn_lt (tgt := 16) hx hb dM_budget_7 (by decide) (by omega) (by omega) (fun h7 => ?_) (fun h7 => ?_)
  · skip
    exact absurd h7 (by omega)
  · skip
    refine lv_iload_n hx hb dM_budget_10 rfl (lv_at hl 1 rfl) ?_
    refine lv_bipush (v := (nI (8))) hx hb dM_budget_11 (by decide) ?_
    refine bn_le (tgt := 22) hx hb dM_budget_13 (by decide) (by omega) (by omega) (fun h13 => ?_) (fun h13 => ?_)
    · skip
      refine lv_aload_n hx hb dM_budget_22 rfl (lv_at hl 0 rfl) ?_
      refine lv_iload_n hx hb dM_budget_23 rfl (lv_at hl 1 rfl) ?_
      refine pM_BU X Y (⟨n.val, by omega⟩) rfl dM_budget_24 (fun H locs Y => ?_)
      refine lv_aload_n hx hb dM_budget_27 rfl (lv_at hl 0 rfl) ?_
      refine lv_iconst (v := (-1)) hx hb dM_budget_28 (by decide) ?_
      refine cl_vi (na := 1) (rest := []) X hD Y (tM_shrink l g a ha (uM_BU (m_t0 s) (⟨n.val, by omega⟩)) ((-1)) (by assumption)) gM_M_shrink (by decide +kernel) rfl rfl rfl ⟨rfl, rfl⟩ ⟨Nat.le_of_ble_eq_true rfl, Nat.le_of_ble_eq_true rfl⟩ ⟨Nat.zero_le _, Nat.zero_le _⟩ hl.1 rfl (Nat.le_of_ble_eq_true rfl) dM_budget_29 (fun H locs Y => ?_)
      have E : m_shrink ((-1)) (uM_BU (m_t0 s) (⟨n.val, by omega⟩)) = m_shrink (-1) (uM_BU (m_t0 s) n) := rfl
      rw [E] at Y
      exact ret _ _ _ _ _ Y (rfl) dM_budget_32
    · skip
      exact absurd h13 (by omega)
set_option maxHeartbeats 1000000 in
set_option maxRecDepth 100000 in
theorem tM_page (l : Launch) (g : GG) (a : Nat → Nat) (ha : apM a) (s : MS) (q : Int32) : Ci l g (wldM g a) (adM a) yM_page kM_page ({ frames := 1, cells := 0, slots := 0, locals := 20 }) [.ref (a 0), .int (q)] s (m_page s q) (m_t0 s) := by
  have hD := wldM_D (g := g) ha
  refine Ci.of (own := RM) (cc := cM_page) (nL := 2) hD (by decide) rfl (Nat.le_of_ble_eq_true rfl) ?_
  intro p e S m args below meth c Q X ret H locs ls Y hl
  have hx := X.1
  have hb := X.2.1
  have hl : lv_has ls 2 [(0, .ref (a 0)), (1, .int (q))] := hl
  refine lv_aload_n hx hb dM_page_0 rfl (lv_at hl 0 rfl) ?_
  refine lv_iconst (v := (nI (0))) hx hb dM_page_1 (by decide) ?_
  refine pM_TR X Y ((nI (0))) rfl dM_page_2 (fun H locs Y => ?_)
  have E0 : uM_TR s (nI 0) = m_t0 s := rfl
  rw [E0] at Y
  refine lv_iload_n hx hb dM_page_5 rfl (lv_at hl 1 rfl) ?_
  refine cl_s (na := 1) (rest := []) X Y (tM_isPage l ((q)) ) gM_M_isPage (by decide +kernel) rfl ⟨rfl, rfl⟩ ⟨Nat.le_of_ble_eq_true rfl, Nat.le_of_ble_eq_true rfl⟩ ⟨Nat.zero_le _, Nat.zero_le _⟩ hl.1 rfl (Nat.le_of_ble_eq_true rfl) dM_page_6 (fun H locs Y => ?_)
  refine bb_ne (tgt := 14) hx hb dM_page_9 (by decide) (fun h9 => ?_) (fun h9 => ?_)
  · skip
    obtain ⟨j, hj, rfl⟩ := h_pg_of h9
    have hcl : (nI j).toNatClampNeg = j := nI_clamp (by omega)
    refine lv_aload_n hx hb dM_page_14 rfl (lv_at hl 0 rfl) ?_
    refine rM_ST X Y dM_page_15 ?_
    refine lv_iload_n hx hb dM_page_18 rfl (lv_at hl 1 rfl) ?_
    refine lM_ST X Y (k := j) (by omega) dM_page_19 ?_
    have hq2 := (gM_ST (m_t0 s) j).isLt
    refine bz_ne (tgt := 27) hx hb dM_page_20 (by decide) (by omega) (fun h20 => ?_) (fun h20 => ?_)
    · skip
      refine lv_aload_n hx hb dM_page_27 rfl (lv_at hl 0 rfl) ?_
      refine rM_ST X Y dM_page_28 ?_
      refine lv_iload_n hx hb dM_page_31 rfl (lv_at hl 1 rfl) ?_
      refine lM_ST X Y (k := j) (by omega) dM_page_32 ?_
      have hq3 := (gM_ST (m_t0 s) j).isLt
      refine lv_iconst (v := (nI (2))) hx hb dM_page_33 (by decide) ?_
      refine bn_ne (tgt := 41) hx hb dM_page_34 (by decide) (by omega) (by omega) (fun h34 => ?_) (fun h34 => ?_)
      · skip
        refine lv_aload_n hx hb dM_page_41 rfl (lv_at hl 0 rfl) ?_
        refine rM_US X Y dM_page_42 ?_
        refine lv_iload_n hx hb dM_page_45 rfl (lv_at hl 1 rfl) ?_
        refine lM_US X Y (k := j) (by omega) dM_page_46 ?_
        refine bb_eq (tgt := 54) hx hb dM_page_47 (by decide) (fun h47 => ?_) (fun h47 => ?_)
        · skip
          refine lv_iconst (v := (nI (1))) hx hb dM_page_54 (by decide) ?_
          exact ret _ _ _ _ _ Y (by show _ = m_page (m_t0 s) _; simp [m_page, hcl, h9, h20, h34, h47]) dM_page_55
        · skip
          refine lv_iconst (v := (nI (2))) hx hb dM_page_50 (by decide) ?_
          refine lv_goto (tgt := 55) hx hb dM_page_51 (by decide) ?_
          exact ret _ _ _ _ _ Y (by show _ = m_page (m_t0 s) _; simp [m_page, hcl, h9, h20, h34, h47]) dM_page_55
      · skip
        refine lv_iconst (v := (nI (3))) hx hb dM_page_37 (by decide) ?_
        refine lv_goto (tgt := 55) hx hb dM_page_38 (by decide) ?_
        exact ret _ _ _ _ _ Y (by show _ = m_page (m_t0 s) _; simp [m_page, hcl, h9, h20, h34]) dM_page_55
    · skip
      refine lv_iconst (v := (nI (0))) hx hb dM_page_23 (by decide) ?_
      refine lv_goto (tgt := 55) hx hb dM_page_24 (by decide) ?_
      exact ret _ _ _ _ _ Y (by show _ = m_page (m_t0 s) _; simp [m_page, hcl, h9, h20]) dM_page_55
  · skip
    refine lv_iconst (v := (-1)) hx hb dM_page_12 (by decide) ?_
    exact ret _ _ _ _ _ Y (by show _ = m_page (m_t0 s) _; simp [m_page, h9]) dM_page_13
set_option maxHeartbeats 1000000 in
set_option maxRecDepth 100000 in
theorem tM_count (l : Launch) (g : GG) (a : Nat → Nat) (ha : apM a) (s : MS) (q : Int32) : Ci l g (wldM g a) (adM a) yM_count kM_count ({ frames := 2, cells := 0, slots := 0, locals := 48 }) [.ref (a 0), .int (q)] s (m_count s q) (m_t0 s) := by
  have hD := wldM_D (g := g) ha
  refine Ci.of (own := RM) (cc := cM_count) (nL := 2) hD (by decide) rfl (Nat.le_of_ble_eq_true rfl) ?_
  intro p e S m args below meth c Q X ret H locs ls Y hl
  have hx := X.1
  have hb := X.2.1
  have hl : lv_has ls 2 [(0, .ref (a 0)), (1, .int (q))] := hl
  refine lv_aload_n hx hb dM_count_0 rfl (lv_at hl 0 rfl) ?_
  refine lv_iconst (v := (nI (0))) hx hb dM_count_1 (by decide) ?_
  refine pM_TR X Y ((nI (0))) rfl dM_count_2 (fun H locs Y => ?_)
  have E0 : uM_TR s (nI 0) = m_t0 s := rfl
  rw [E0] at Y
  refine lv_iload_n hx hb dM_count_5 rfl (lv_at hl 1 rfl) ?_
  refine cl_s (na := 1) (rest := []) X Y (tM_isPage l ((q)) ) gM_M_isPage (by decide +kernel) rfl ⟨rfl, rfl⟩ ⟨Nat.le_of_ble_eq_true rfl, Nat.le_of_ble_eq_true rfl⟩ ⟨Nat.zero_le _, Nat.zero_le _⟩ hl.1 rfl (Nat.le_of_ble_eq_true rfl) dM_count_6 (fun H locs Y => ?_)
  refine bb_eq (tgt := 20) hx hb dM_count_9 (by decide) (fun h9 => ?_) (fun h9 => ?_)
  · skip
    refine lv_iconst (v := (-1)) hx hb dM_count_20 (by decide) ?_
    exact ret _ _ _ _ _ Y (by show _ = m_count (m_t0 s) _; first | (simp [m_count, hcl, h9]; done) | (simp [m_count, h9]; done)) dM_count_21
  · skip
    obtain ⟨j, hj, rfl⟩ := h_pg_of h9
    have hcl : (nI j).toNatClampNeg = j := nI_clamp (by omega)
    refine lv_aload_n hx hb dM_count_12 rfl (lv_at hl 0 rfl) ?_
    refine lv_iload_n hx hb dM_count_13 rfl (lv_at hl 1 rfl) ?_
    refine cl_vi (na := 1) (rest := []) X hD Y (tM_counted l g a ha (m_t0 s) j (by omega)) gM_M_counted (by decide +kernel) rfl rfl rfl ⟨rfl, rfl⟩ ⟨Nat.le_of_ble_eq_true rfl, Nat.le_of_ble_eq_true rfl⟩ ⟨Nat.zero_le _, Nat.zero_le _⟩ hl.1 rfl (Nat.le_of_ble_eq_true rfl) dM_count_14 (fun H locs Y => ?_)
    have hf2 := m_counted_le (m_t0 s) j
    refine lv_goto (tgt := 21) hx hb dM_count_17 (by decide) ?_
    exact ret _ _ _ _ _ Y (by show _ = m_count (m_t0 s) _; first | (simp [m_count, hcl, h9]; done) | (simp [m_count, h9]; done)) dM_count_21
set_option maxHeartbeats 1000000 in
set_option maxRecDepth 100000 in
theorem tM_places (l : Launch) (g : GG) (a : Nat → Nat) (ha : apM a) (s : MS) (q : Int32) : Ci l g (wldM g a) (adM a) yM_places kM_places ({ frames := 1, cells := 0, slots := 0, locals := 20 }) [.ref (a 0), .int (q)] s (m_places s q) (m_t0 s) := by
  have hD := wldM_D (g := g) ha
  refine Ci.of (own := RM) (cc := cM_places) (nL := 4) hD (by decide) rfl (Nat.le_of_ble_eq_true rfl) ?_
  intro p e S m args below meth c Q X ret H locs ls Y hl
  have hx := X.1
  have hb := X.2.1
  have hl : lv_has ls 4 [(0, .ref (a 0)), (1, .int (q))] := hl
  refine lv_aload_n hx hb dM_places_0 rfl (lv_at hl 0 rfl) ?_
  refine lv_iconst (v := (nI (0))) hx hb dM_places_1 (by decide) ?_
  refine pM_TR X Y ((nI (0))) rfl dM_places_2 (fun H locs Y => ?_)
  have E0 : uM_TR s (nI 0) = m_t0 s := rfl
  rw [E0] at Y
  refine lv_iload_n hx hb dM_places_5 rfl (lv_at hl 1 rfl) ?_
  refine cl_s (na := 1) (rest := []) X Y (tM_isPage l ((q)) ) gM_M_isPage (by decide +kernel) rfl ⟨rfl, rfl⟩ ⟨Nat.le_of_ble_eq_true rfl, Nat.le_of_ble_eq_true rfl⟩ ⟨Nat.zero_le _, Nat.zero_le _⟩ hl.1 rfl (Nat.le_of_ble_eq_true rfl) dM_places_6 (fun H locs Y => ?_)
  refine bb_ne (tgt := 14) hx hb dM_places_9 (by decide) (fun h9 => ?_) (fun h9 => ?_)
  · skip
    obtain ⟨j, hj, rfl⟩ := h_pg_of h9
    have hcl : (nI j).toNatClampNeg = j := nI_clamp (by omega)
    refine lv_iconst (v := (nI (0))) hx hb dM_places_14 (by decide) ?_
    refine lv_istore_n (lv' := [(2, .int (nI (0))), (0, .ref (a 0)), (1, .int (nI (j)))]) hx hb dM_places_15 rfl hl (by decide) rfl (fun ls hl => ?_)
    refine lv_iconst (v := (nI (3))) hx hb dM_places_16 (by decide) ?_
    refine lv_istore_n (lv' := [(3, .int (nI (3))), (2, .int (nI (0))), (0, .ref (a 0)), (1, .int (nI (j)))]) hx hb dM_places_17 rfl hl (by decide) rfl (fun ls hl => ?_)
    have loop18 : ∀ (n18 i18 : Nat) (k18 : Nat), i18 ≤ 4 → 4 < i18 + n18 → (fldN (m_pl0 (m_t0 s) j) 0 i18 = k18) → ∀ (H : Heap) (locs : List Loc) (ls : Array Slot), Yw g (wldM g a) (adM a) S H locs (m_t0 s) → lv_has ls 4 [(0, .ref (a 0)), (1, .int (nI (j))), (2, .int (nI (k18))), (3, .int (jI (4 - i18)))] → W p l e ({ frames := 1, cells := 0, slots := 0, locals := 20 }) S m args below meth c H locs 0 0 Q (F0 m 18 ls []) := by
      intro n18
      induction n18 with
      | zero =>
        intro i18 k18 b1 b2
        exact absurd b2 (by omega)
      | succ n18 ih18 =>
        intro i18 k18 hi18 hn18 ek18 H locs ls Y hl
        refine lv_iload_n hx hb dM_places_18 rfl (lv_at hl 3 rfl) ?_
        refine lv_if_lt (tgt := 51) hx hb dM_places_19 (by decide) (fun h19 => ?_) (fun h19 => ?_)
        · skip
          have hi4 : i18 = 4 := jI_ge h19 hi18
          obtain rfl : i18 = 4 := by omega
          subst ek18
          refine lv_iconst (v := (nI (0))) hx hb dM_places_51 (by decide) ?_
          refine lv_istore_n (lv' := [(3, .int (nI (0))), (0, .ref (a 0)), (1, .int (nI (j))), (2, .int (nI ((fldN (m_pl0 (m_t0 s) j) 0 4))))]) hx hb dM_places_52 rfl hl (by decide) rfl (fun ls hl => ?_)
          have loop53 : ∀ (n53 i53 : Nat) (k53 : Nat), i53 ≤ 4 → 4 < i53 + n53 → (fldN (m_pl1 (m_t0 s) j) ((fldN (m_pl0 (m_t0 s) j) 0 4)) i53 = k53) → ∀ (H : Heap) (locs : List Loc) (ls : Array Slot), Yw g (wldM g a) (adM a) S H locs (m_t0 s) → lv_has ls 4 [(0, .ref (a 0)), (1, .int (nI (j))), (2, .int (nI (k53))), (3, .int (nI (i53)))] → W p l e ({ frames := 1, cells := 0, slots := 0, locals := 20 }) S m args below meth c H locs 0 0 Q (F0 m 53 ls []) := by
            intro n53
            induction n53 with
            | zero =>
              intro i53 k53 b1 b2
              exact absurd b2 (by omega)
            | succ n53 ih53 =>
              intro i53 k53 hi53 hn53 ek53 H locs ls Y hl
              refine lv_iload_n hx hb dM_places_53 rfl (lv_at hl 3 rfl) ?_
              refine lv_iconst (v := (nI (4))) hx hb dM_places_54 (by decide) ?_
              refine bn_ge (tgt := 101) hx hb dM_places_55 (by decide) (by omega) (by omega) (fun h55 => ?_) (fun h55 => ?_)
              · skip
                obtain rfl : i53 = 4 := by omega
                subst ek53
                refine lv_iload_n hx hb dM_places_101 rfl (lv_at hl 2 rfl) ?_
                exact ret _ _ _ _ _ Y (by show _ = m_places (m_t0 s) _; unfold m_places; rw [if_pos h9, hcl]) dM_places_102
              · skip
                refine lv_aload_n hx hb dM_places_58 rfl (lv_at hl 0 rfl) ?_
                refine rM_TH X Y dM_places_59 ?_
                refine lv_iconst (v := (nI (4))) hx hb dM_places_62 (by decide) ?_
                refine lv_iload_n hx hb dM_places_63 rfl (lv_at hl 1 rfl) ?_
                refine bn_mul hx hb dM_places_64 ?_
                refine lv_iload_n hx hb dM_places_65 rfl (lv_at hl 3 rfl) ?_
                refine bn_add hx hb dM_places_66 ?_
                refine lM_TH X Y (k := (4 * j) + i53) (by omega) dM_places_67 ?_
                refine bb_eq (tgt := 93) hx hb dM_places_68 (by decide) (fun h68 => ?_) (fun h68 => ?_)
                · skip
                  refine lv_iload_n hx hb dM_places_93 rfl (lv_at hl 2 rfl) ?_
                  refine lv_istore_n (lv' := [(2, .int (nI (k53))), (0, .ref (a 0)), (1, .int (nI (j))), (3, .int (nI (i53)))]) hx hb dM_places_94 rfl hl (by decide) rfl (fun ls hl => ?_)
                  refine lv_iinc (v := (nI (i53 + 1))) (lv' := [(3, .int (nI (i53 + 1))), (2, .int (nI (k53))), (0, .ref (a 0)), (1, .int (nI (j)))]) hx hb dM_places_95 hl (k := 3) rfl (nI_1 _) (by decide) rfl (fun ls hl => ?_)
                  refine lv_goto (tgt := 53) hx hb dM_places_98 (by decide) ?_
                  exact ih53 (i53 + 1) k53 (by omega) (by omega) (by show m_pl1 (m_t0 s) j i53 (fldN (m_pl1 (m_t0 s) j) ((fldN (m_pl0 (m_t0 s) j) 0 4)) i53) = _; rw [ek53]; simp [m_pl1, h9, h19, h55, h68]) _ _ _ Y (lv_sub hl [2, 3, 1, 0] rfl)
                · skip
                  refine lv_aload_n hx hb dM_places_71 rfl (lv_at hl 0 rfl) ?_
                  refine rM_MK X Y dM_places_72 ?_
                  refine lv_iconst (v := (nI (4))) hx hb dM_places_75 (by decide) ?_
                  refine lv_iload_n hx hb dM_places_76 rfl (lv_at hl 1 rfl) ?_
                  refine bn_mul hx hb dM_places_77 ?_
                  refine lv_iload_n hx hb dM_places_78 rfl (lv_at hl 3 rfl) ?_
                  refine bn_add hx hb dM_places_79 ?_
                  refine lM_MK X Y (k := (4 * j) + i53) (by omega) dM_places_80 ?_
                  refine bb_eq (tgt := 93) hx hb dM_places_81 (by decide) (fun h81 => ?_) (fun h81 => ?_)
                  · skip
                    refine lv_iload_n hx hb dM_places_93 rfl (lv_at hl 2 rfl) ?_
                    refine lv_istore_n (lv' := [(2, .int (nI (k53))), (0, .ref (a 0)), (1, .int (nI (j))), (3, .int (nI (i53)))]) hx hb dM_places_94 rfl hl (by decide) rfl (fun ls hl => ?_)
                    refine lv_iinc (v := (nI (i53 + 1))) (lv' := [(3, .int (nI (i53 + 1))), (2, .int (nI (k53))), (0, .ref (a 0)), (1, .int (nI (j)))]) hx hb dM_places_95 hl (k := 3) rfl (nI_1 _) (by decide) rfl (fun ls hl => ?_)
                    refine lv_goto (tgt := 53) hx hb dM_places_98 (by decide) ?_
                    exact ih53 (i53 + 1) k53 (by omega) (by omega) (by show m_pl1 (m_t0 s) j i53 (fldN (m_pl1 (m_t0 s) j) ((fldN (m_pl0 (m_t0 s) j) 0 4)) i53) = _; rw [ek53]; simp [m_pl1, h9, h19, h55, h68, h81]) _ _ _ Y (lv_sub hl [2, 3, 1, 0] rfl)
                  · skip
                    refine lv_iload_n hx hb dM_places_84 rfl (lv_at hl 2 rfl) ?_
                    refine lv_bipush (v := (nI (16))) hx hb dM_places_85 (by decide) ?_
                    refine lv_iload_n hx hb dM_places_87 rfl (lv_at hl 3 rfl) ?_
                    refine lv_ishl hx hb dM_places_88 ?_
                    refine bn_top (y := (nI (16 * 2 ^ i53))) (bn_shl4 (by omega) (by omega)) ?_
                    refine bn_add hx hb dM_places_89 ?_
                    refine lv_goto (tgt := 94) hx hb dM_places_90 (by decide) ?_
                    refine lv_istore_n (lv' := [(2, .int (nI (k53 + (16 * 2 ^ i53)))), (0, .ref (a 0)), (1, .int (nI (j))), (3, .int (nI (i53)))]) hx hb dM_places_94 rfl hl (by decide) rfl (fun ls hl => ?_)
                    refine lv_iinc (v := (nI (i53 + 1))) (lv' := [(3, .int (nI (i53 + 1))), (2, .int (nI (k53 + (16 * 2 ^ i53)))), (0, .ref (a 0)), (1, .int (nI (j)))]) hx hb dM_places_95 hl (k := 3) rfl (nI_1 _) (by decide) rfl (fun ls hl => ?_)
                    refine lv_goto (tgt := 53) hx hb dM_places_98 (by decide) ?_
                    exact ih53 (i53 + 1) (k53 + (16 * 2 ^ i53)) (by omega) (by omega) (by show m_pl1 (m_t0 s) j i53 (fldN (m_pl1 (m_t0 s) j) ((fldN (m_pl0 (m_t0 s) j) 0 4)) i53) = _; rw [ek53]; simp [m_pl1, h9, h19, h55, h68, h81]) _ _ _ Y (lv_sub hl [2, 3, 1, 0] rfl)
          exact loop53 (4 + 1) 0 (((fldN (m_pl0 (m_t0 s) j) 0 4))) (by omega) (by omega) (fldN_zero) _ _ _ Y (lv_sub hl [1, 2, 3, 0] rfl)
        · skip
          have hi4 : i18 < 4 := jI_lt h19 hi18
          have hl : lv_has ls 4 [(0, .ref (a 0)), (1, .int (nI (j))), (2, .int (nI (k18))), (3, .int (nI (3 - i18)))] := by rw [jI_eq hi4] at hl; exact hl
          refine lv_iconst (v := (nI (2))) hx hb dM_places_22 (by decide) ?_
          refine lv_iload_n hx hb dM_places_23 rfl (lv_at hl 2 rfl) ?_
          refine bn_mul hx hb dM_places_24 ?_
          refine lv_aload_n hx hb dM_places_25 rfl (lv_at hl 0 rfl) ?_
          refine rM_TH X Y dM_places_26 ?_
          refine lv_iconst (v := (nI (4))) hx hb dM_places_29 (by decide) ?_
          refine lv_iload_n hx hb dM_places_30 rfl (lv_at hl 1 rfl) ?_
          refine bn_mul hx hb dM_places_31 ?_
          refine lv_iload_n hx hb dM_places_32 rfl (lv_at hl 3 rfl) ?_
          refine bn_add hx hb dM_places_33 ?_
          refine lM_TH X Y (k := (4 * j) + (3 - i18)) (by omega) dM_places_34 ?_
          refine bb_eq (tgt := 42) hx hb dM_places_35 (by decide) (fun h35 => ?_) (fun h35 => ?_)
          · skip
            refine lv_iconst (v := (nI (0))) hx hb dM_places_42 (by decide) ?_
            refine bn_add hx hb dM_places_43 ?_
            refine lv_istore_n (lv' := [(2, .int (nI ((2 * k18) + 0))), (0, .ref (a 0)), (1, .int (nI (j))), (3, .int (nI (3 - i18)))]) hx hb dM_places_44 rfl hl (by decide) rfl (fun ls hl => ?_)
            refine lv_iinc (v := (jI (3 - i18))) (lv' := [(3, .int (jI (3 - i18))), (2, .int (nI ((2 * k18) + 0))), (0, .ref (a 0)), (1, .int (nI (j)))]) hx hb dM_places_45 hl (k := 3) rfl rfl (by decide) rfl (fun ls hl => ?_)
            have hl : lv_has ls 4 [(3, .int (jI (4 - (i18 + 1)))), (2, .int (nI ((2 * k18) + 0))), (0, .ref (a 0)), (1, .int (nI (j)))] := by rw [show 3 - i18 = 4 - (i18 + 1) by omega] at hl; exact hl
            refine lv_goto (tgt := 18) hx hb dM_places_48 (by decide) ?_
            exact ih18 (i18 + 1) ((2 * k18) + 0) (by omega) (by omega) (by show m_pl0 (m_t0 s) j i18 (fldN (m_pl0 (m_t0 s) j) 0 i18) = _; rw [ek18]; simp [m_pl0, h9, h19, h35]) _ _ _ Y (lv_sub hl [2, 3, 1, 0] rfl)
          · skip
            refine lv_iconst (v := (nI (1))) hx hb dM_places_38 (by decide) ?_
            refine lv_goto (tgt := 43) hx hb dM_places_39 (by decide) ?_
            refine bn_add hx hb dM_places_43 ?_
            refine lv_istore_n (lv' := [(2, .int (nI ((2 * k18) + 1))), (0, .ref (a 0)), (1, .int (nI (j))), (3, .int (nI (3 - i18)))]) hx hb dM_places_44 rfl hl (by decide) rfl (fun ls hl => ?_)
            refine lv_iinc (v := (jI (3 - i18))) (lv' := [(3, .int (jI (3 - i18))), (2, .int (nI ((2 * k18) + 1))), (0, .ref (a 0)), (1, .int (nI (j)))]) hx hb dM_places_45 hl (k := 3) rfl rfl (by decide) rfl (fun ls hl => ?_)
            have hl : lv_has ls 4 [(3, .int (jI (4 - (i18 + 1)))), (2, .int (nI ((2 * k18) + 1))), (0, .ref (a 0)), (1, .int (nI (j)))] := by rw [show 3 - i18 = 4 - (i18 + 1) by omega] at hl; exact hl
            refine lv_goto (tgt := 18) hx hb dM_places_48 (by decide) ?_
            exact ih18 (i18 + 1) ((2 * k18) + 1) (by omega) (by omega) (by show m_pl0 (m_t0 s) j i18 (fldN (m_pl0 (m_t0 s) j) 0 i18) = _; rw [ek18]; simp [m_pl0, h9, h19, h35]) _ _ _ Y (lv_sub hl [2, 3, 1, 0] rfl)
    exact loop18 (4 + 1) 0 0 (by omega) (by omega) (fldN_zero) _ _ _ Y (lv_sub hl [2, 3, 1, 0] rfl)
  · skip
    refine lv_iconst (v := (-1)) hx hb dM_places_12 (by decide) ?_
    exact ret _ _ _ _ _ Y (by show _ = m_places (m_t0 s) _; simp [m_places, h9]) dM_places_13
