/-! written by wip/whole/specM.py -/
set_option maxHeartbeats 1000000 in
set_option maxRecDepth 100000 in
theorem tM_freeOnPagesIn (l : Launch) (g : GG) (a : Nat → Nat) (ha : apM a) (s : MS)  : Ci l g (wldM g a) (adM a) yM_freeOnPagesIn kM_freeOnPagesIn ({ frames := 0, cells := 0, slots := 0, locals := 0 }) [.ref (a 0)] s (oI (m_free s)) s := by
  have hD := wldM_D (g := g) ha
  refine Ci.of (own := RM) (cc := cM_freeOnPagesIn) (nL := 2) hD (by decide) rfl (Nat.le_of_ble_eq_true rfl) ?_
  intro p e S m args below meth c Q X ret H locs ls Y hl
  have hx := X.1
  have hb := X.2.1
  have hl : lv_has ls 2 [(0, .ref (a 0))] := hl
  refine lv_iconst (v := (nI (0))) hx hb dM_freeOnPagesIn_0 (by decide) ?_
  refine lv_istore_n (lv' := [(1, .int (nI (0))), (0, .ref (a 0))]) hx hb dM_freeOnPagesIn_1 rfl hl (by decide) rfl (fun ls hl => ?_)
  have loop2 : ∀ (n2 i2 : Nat), i2 ≤ 32 → 32 < i2 + n2 → (∀ j, j < i2 → m_frb s j = false) → ∀ (H : Heap) (locs : List Loc) (ls : Array Slot), Yw g (wldM g a) (adM a) S H locs s → lv_has ls 2 [(0, .ref (a 0)), (1, .int (nI (i2)))] → W p l e ({ frames := 0, cells := 0, slots := 0, locals := 0 }) S m args below meth c H locs 0 0 Q (F0 m 2 ls []) := by
    intro n2
    induction n2 with
    | zero =>
      intro i2 b1 b2
      exact absurd b2 (by omega)
    | succ n2 ih2 =>
      intro i2 hi2 hn2 hno H locs ls Y hl
      refine lv_iload_n hx hb dM_freeOnPagesIn_2 rfl (lv_at hl 1 rfl) ?_
      refine lv_bipush (v := (nI (32))) hx hb dM_freeOnPagesIn_3 (by decide) ?_
      refine bn_ge (tgt := 37) hx hb dM_freeOnPagesIn_5 (by decide) (by omega) (by omega) (fun h5 => ?_) (fun h5 => ?_)
      · skip
        refine lv_iconst (v := (-1)) hx hb dM_freeOnPagesIn_37 (by decide) ?_
        exact ret _ _ _ _ _ Y (by rw [m_free, fstN_none (n := 32) (fun j hj => hno j (by omega))]; rfl) dM_freeOnPagesIn_38
      · skip
        refine lv_aload_n hx hb dM_freeOnPagesIn_8 rfl (lv_at hl 0 rfl) ?_
        refine rM_TH X Y dM_freeOnPagesIn_9 ?_
        refine lv_iload_n hx hb dM_freeOnPagesIn_12 rfl (lv_at hl 1 rfl) ?_
        refine lM_TH X Y (k := i2) (by omega) dM_freeOnPagesIn_13 ?_
        refine bb_ne (tgt := 31) hx hb dM_freeOnPagesIn_14 (by decide) (fun h14 => ?_) (fun h14 => ?_)
        · skip
          refine lv_iinc (v := (nI (i2 + 1))) (lv' := [(1, .int (nI (i2 + 1))), (0, .ref (a 0))]) hx hb dM_freeOnPagesIn_31 hl (k := 1) rfl (nI_1 _) (by decide) rfl (fun ls hl => ?_)
          refine lv_goto (tgt := 2) hx hb dM_freeOnPagesIn_34 (by decide) ?_
          exact ih2 (i2 + 1) (by omega) (by omega) (lt_s hno (by simp [m_frb, h5, h14])) _ _ _ Y (lv_sub hl [1, 0] rfl)
        · skip
          refine lv_aload_n hx hb dM_freeOnPagesIn_17 rfl (lv_at hl 0 rfl) ?_
          refine rM_ST X Y dM_freeOnPagesIn_18 ?_
          refine lv_iload_n hx hb dM_freeOnPagesIn_21 rfl (lv_at hl 1 rfl) ?_
          refine lv_iconst (v := (nI (4))) hx hb dM_freeOnPagesIn_22 (by decide) ?_
          refine bn_div hx hb dM_freeOnPagesIn_23 (by omega) (by omega) (by omega) ?_
          refine lM_ST X Y (k := i2 / 4) (by omega) dM_freeOnPagesIn_24 ?_
          have hq1 := (gM_ST s (i2 / 4)).isLt
          refine lv_iconst (v := (nI (1))) hx hb dM_freeOnPagesIn_25 (by decide) ?_
          refine bn_ne (tgt := 31) hx hb dM_freeOnPagesIn_26 (by decide) (by omega) (by omega) (fun h26 => ?_) (fun h26 => ?_)
          · skip
            refine lv_iinc (v := (nI (i2 + 1))) (lv' := [(1, .int (nI (i2 + 1))), (0, .ref (a 0))]) hx hb dM_freeOnPagesIn_31 hl (k := 1) rfl (nI_1 _) (by decide) rfl (fun ls hl => ?_)
            refine lv_goto (tgt := 2) hx hb dM_freeOnPagesIn_34 (by decide) ?_
            exact ih2 (i2 + 1) (by omega) (by omega) (lt_s hno (by simp [m_frb, h5, h14, h26])) _ _ _ Y (lv_sub hl [1, 0] rfl)
          · skip
            refine lv_iload_n hx hb dM_freeOnPagesIn_29 rfl (lv_at hl 1 rfl) ?_
            exact ret _ _ _ _ _ Y (by rw [m_free, fstN_hit (i := i2) (by simp [m_frb, h5, h14, h26]) hno (by omega), toP_some (by omega)]; rfl) dM_freeOnPagesIn_30
  exact loop2 (32 + 1) 0 (by omega) (by omega) (fun j hj => absurd hj (by omega)) _ _ _ Y (lv_sub hl [1, 0] rfl)
set_option maxHeartbeats 1000000 in
set_option maxRecDepth 100000 in
theorem tM_find (l : Launch) (g : GG) (a : Nat → Nat) (ha : apM a) (s : MS) (b : Bool) (hst : m_fok b s) : Ci l g (wldM g a) (adM a) yM_find kM_find ({ frames := 2, cells := 0, slots := 0, locals := 45 }) [.ref (a 0), .int (bI (b))] s (oI (m_fp s)) (m_fs b s) := by
  have hD := wldM_D (g := g) ha
  refine Ci.of (own := RM) (cc := cM_find) (nL := 4) hD (by decide) rfl (Nat.le_of_ble_eq_true rfl) ?_
  intro p e S m args below meth c Q X ret H locs ls Y hl
  have hx := X.1
  have hb := X.2.1
  have hl : lv_has ls 4 [(0, .ref (a 0)), (1, .int (bI (b)))] := hl
  refine lv_aload_n hx hb dM_find_0 rfl (lv_at hl 0 rfl) ?_
  refine cl_vi (na := 0) (rest := []) X hD Y (tM_freeOnPagesIn l g a ha s  ) gM_M_freeOnPagesIn (by decide +kernel) rfl rfl rfl ⟨rfl, rfl⟩ ⟨Nat.le_of_ble_eq_true rfl, Nat.le_of_ble_eq_true rfl⟩ ⟨Nat.zero_le _, Nat.zero_le _⟩ hl.1 rfl (Nat.le_of_ble_eq_true rfl) dM_find_1 (fun H locs Y => ?_)
  refine lv_istore_n (lv' := [(2, .int (oI (m_free s))), (0, .ref (a 0)), (1, .int (bI (b)))]) hx hb dM_find_4 rfl hl (by decide) rfl (fun ls hl => ?_)
  refine lv_iconst (v := (nI (0))) hx hb dM_find_5 (by decide) ?_
  refine lv_istore_n (lv' := [(3, .int (nI (0))), (2, .int (oI (m_free s))), (0, .ref (a 0)), (1, .int (bI (b)))]) hx hb dM_find_6 rfl hl (by decide) rfl (fun ls hl => ?_)
  have loop7 : ∀ (n7 i7 : Nat) (x7 : Option (Fin 32)) (σ7 : MS), i7 ≤ 8 → 8 < i7 + n7 → (x7 = none → σ7 = s ∧ m_free s = none ∧ ∀ j, j < i7 → m_emb s j = false) → (∀ k, x7 = some k → m_fp s = some k ∧ σ7 = m_fs1 b s) → ∀ (H : Heap) (locs : List Loc) (ls : Array Slot), Yw g (wldM g a) (adM a) S H locs σ7 → lv_has ls 4 [(0, .ref (a 0)), (1, .int (bI (b))), (2, .int (oI (x7))), (3, .int (nI (i7)))] → W p l e ({ frames := 2, cells := 0, slots := 0, locals := 45 }) S m args below meth c H locs 0 0 Q (F0 m 7 ls []) := by
    intro n7
    induction n7 with
    | zero =>
      intro i7 x7 σ7 b1 b2
      exact absurd b2 (by omega)
    | succ n7 ih7 =>
      intro i7 x7 σ7 hi7 hn7 hA hB H locs ls Y hl
      refine lv_iload_n hx hb dM_find_7 rfl (lv_at hl 3 rfl) ?_
      refine lv_bipush (v := (nI (8))) hx hb dM_find_8 (by decide) ?_
      refine bn_ge (tgt := 63) hx hb dM_find_10 (by decide) (by omega) (by omega) (fun h10 => ?_) (fun h10 => ?_)
      · skip
        refine lv_iload_n hx hb dM_find_63 rfl (lv_at hl 2 rfl) ?_
        refine bo_lt (tgt := 76) hx hb dM_find_64 (by decide) (fun h64 => ?_) (fun k2 h64 => ?_)
        · skip
          obtain ⟨eA, eF, eN⟩ := hA h64
          have hE := fstN_none (f := m_emb s) (n := 8) (fun j hj => eN j (by omega))
          refine lv_iload_n hx hb dM_find_76 rfl (lv_at hl 2 rfl) ?_
          refine bn_top (y := (-1)) (by rw [h64]; rfl) ?_
          have E : σ7 = m_fs b s := by first | (rw [m_fs_1 eP, eS]; done) | (rw [m_fs_2 ((m_fp_2 eF).trans (m_fpe_2 hE)), m_fs1_3 eF hE]; exact eA)
          rw [E] at Y
          exact ret _ _ _ _ _ Y (by first | (rw [eP]; rfl) | (rw [m_fp_2 eF, m_fpe_2 hE]; rfl)) dM_find_77
        · skip
          have hq3 := k2.isLt
          obtain ⟨eP, eS⟩ := hB _ h64
          refine lv_aload_n hx hb dM_find_67 rfl (lv_at hl 0 rfl) ?_
          refine rM_US X Y dM_find_68 ?_
          refine lv_iload_n hx hb dM_find_71 rfl (lv_at hl 2 rfl) ?_
          refine bn_top (y := nI k2.val) (by rw [h64]; rfl) ?_
          refine lv_iconst (v := (nI (4))) hx hb dM_find_72 (by decide) ?_
          refine bn_div hx hb dM_find_73 (by omega) (by omega) (by omega) ?_
          refine lv_iconst (v := (nI (1))) hx hb dM_find_74 (by decide) ?_
          refine sM_US X Y (k := k2.val / 4) true (by decide) (by omega) dM_find_75 (fun H locs Y => ?_)
          refine lv_iload_n hx hb dM_find_76 rfl (lv_at hl 2 rfl) ?_
          refine bn_top (y := nI k2.val) (by rw [h64]; rfl) ?_
          have E : uM_US σ7 (k2.val / 4) true = m_fs b s := by first | (rw [m_fs_1 eP, eS]; done) | (rw [m_fs_2 ((m_fp_2 eF).trans (m_fpe_2 hE)), m_fs1_3 eF hE]; exact eA)
          rw [E] at Y
          exact ret _ _ _ _ _ Y (by first | (rw [eP]; rfl) | (rw [m_fp_2 eF, m_fpe_2 hE]; rfl)) dM_find_77
      · skip
        refine lv_iload_n hx hb dM_find_13 rfl (lv_at hl 2 rfl) ?_
        refine bo_ge (tgt := 63) hx hb dM_find_14 (by decide) (fun k4 h14 => ?_) (fun h14 => ?_)
        · skip
          have hq5 := k4.isLt
          obtain ⟨eP, eS⟩ := hB _ h14
          refine lv_iload_n hx hb dM_find_63 rfl (lv_at hl 2 rfl) ?_
          refine bn_top (y := nI k4.val) (by rw [h14]; rfl) ?_
          refine bz_lt (tgt := 76) hx hb dM_find_64 (by decide) (by omega) ?_
          refine lv_aload_n hx hb dM_find_67 rfl (lv_at hl 0 rfl) ?_
          refine rM_US X Y dM_find_68 ?_
          refine lv_iload_n hx hb dM_find_71 rfl (lv_at hl 2 rfl) ?_
          refine bn_top (y := nI k4.val) (by rw [h14]; rfl) ?_
          refine lv_iconst (v := (nI (4))) hx hb dM_find_72 (by decide) ?_
          refine bn_div hx hb dM_find_73 (by omega) (by omega) (by omega) ?_
          refine lv_iconst (v := (nI (1))) hx hb dM_find_74 (by decide) ?_
          refine sM_US X Y (k := k4.val / 4) true (by decide) (by omega) dM_find_75 (fun H locs Y => ?_)
          refine lv_iload_n hx hb dM_find_76 rfl (lv_at hl 2 rfl) ?_
          refine bn_top (y := nI k4.val) (by rw [h14]; rfl) ?_
          have E : uM_US σ7 (k4.val / 4) true = m_fs b s := by first | (rw [m_fs_1 eP, eS]; done) | (rw [m_fs_2 ((m_fp_2 eF).trans (m_fpe_2 hE)), m_fs1_3 eF hE]; exact eA)
          rw [E] at Y
          exact ret _ _ _ _ _ Y (by first | (rw [eP]; rfl) | (rw [m_fp_2 eF, m_fpe_2 hE]; rfl)) dM_find_77
        · skip
          obtain ⟨eA, eF, eN⟩ := hA h14
          rw [eA] at Y
          refine lv_aload_n hx hb dM_find_17 rfl (lv_at hl 0 rfl) ?_
          refine rM_ST X Y dM_find_18 ?_
          refine lv_iload_n hx hb dM_find_21 rfl (lv_at hl 3 rfl) ?_
          refine lM_ST X Y (k := i7) (by omega) dM_find_22 ?_
          have hq6 := (gM_ST s i7).isLt
          refine bz_ne (tgt := 57) hx hb dM_find_23 (by decide) (by omega) (fun h23 => ?_) (fun h23 => ?_)
          · skip
            refine lv_iinc (v := (nI (i7 + 1))) (lv' := [(3, .int (nI (i7 + 1))), (0, .ref (a 0)), (1, .int (bI (b))), (2, .int (oI (x7)))]) hx hb dM_find_57 hl (k := 3) rfl (nI_1 _) (by decide) rfl (fun ls hl => ?_)
            refine lv_goto (tgt := 7) hx hb dM_find_60 (by decide) ?_
            exact ih7 (i7 + 1) x7 s (by omega) (by omega) (fun _ => ⟨rfl, eF, lt_s eN (by simp [m_emb, h23])⟩) (fun k hk => by rw [h14] at hk; cases hk) _ _ _ Y (lv_sub hl [1, 2, 3, 0] rfl)
          · skip
            refine lv_iload_n hx hb dM_find_26 rfl (lv_at hl 1 rfl) ?_
            refine bb_eq (tgt := 46) hx hb dM_find_27 (by decide) (fun h27 => ?_) (fun h27 => ?_)
            · skip
              have hE := fstN_hit (f := m_emb s) (i := i7) (by simp [m_emb, h23]) eN (n := 8) (by omega)
              refine lv_aload_n hx hb dM_find_46 rfl (lv_at hl 0 rfl) ?_
              refine rM_ST X Y dM_find_47 ?_
              refine lv_iload_n hx hb dM_find_50 rfl (lv_at hl 3 rfl) ?_
              refine lv_iconst (v := (nI (1))) hx hb dM_find_51 (by decide) ?_
              refine sM_ST X Y (k := i7) (⟨1, by omega⟩) rfl (by omega) dM_find_52 (fun H locs Y => ?_)
              refine lv_iconst (v := (nI (4))) hx hb dM_find_53 (by decide) ?_
              refine lv_iload_n hx hb dM_find_54 rfl (lv_at hl 3 rfl) ?_
              refine bn_mul hx hb dM_find_55 ?_
              refine lv_istore_n (lv' := [(2, .int (nI (4 * i7))), (0, .ref (a 0)), (1, .int (bI (b))), (3, .int (nI (i7)))]) hx hb dM_find_56 rfl hl (by decide) rfl (fun ls hl => ?_)
              refine lv_iinc (v := (nI (i7 + 1))) (lv' := [(3, .int (nI (i7 + 1))), (2, .int (nI (4 * i7))), (0, .ref (a 0)), (1, .int (bI (b)))]) hx hb dM_find_57 hl (k := 3) rfl (nI_1 _) (by decide) rfl (fun ls hl => ?_)
              refine lv_goto (tgt := 7) hx hb dM_find_60 (by decide) ?_
              exact ih7 (i7 + 1) (some ⟨4 * i7, by omega⟩) (uM_ST s i7 (⟨1, by omega⟩)) (by omega) (by omega) (fun h => by cases h) (fun k hk => ⟨(by rw [← hk, m_fp_2 eF, m_fpe_1 hE]; exact toP_some _), (by rw [m_fs1_2 eF hE, m_fd1_neg (fun z => by rw [h27] at z; cases z.1)])⟩) _ _ _ Y (lv_sub hl [2, 3, 1, 0] rfl)
            · skip
              refine lv_aload_n hx hb dM_find_30 rfl (lv_at hl 0 rfl) ?_
              refine cl_vi (na := 0) (rest := []) X hD Y (tM_pagesIn l g a ha s  ) gM_M_pagesIn (by decide +kernel) rfl rfl rfl ⟨rfl, rfl⟩ ⟨Nat.le_of_ble_eq_true rfl, Nat.le_of_ble_eq_true rfl⟩ ⟨Nat.zero_le _, Nat.zero_le _⟩ hl.1 rfl (Nat.le_of_ble_eq_true rfl) dM_find_31 (fun H locs Y => ?_)
              have hf7 := m_in_le s
              refine lv_aload_n hx hb dM_find_34 rfl (lv_at hl 0 rfl) ?_
              refine rM_BU X Y dM_find_35 ?_
              have hq8 := (gM_BU s).isLt
              refine bn_ne (tgt := 46) hx hb dM_find_38 (by decide) (by omega) (by omega) (fun h38 => ?_) (fun h38 => ?_)
              · skip
                have hE := fstN_hit (f := m_emb s) (i := i7) (by simp [m_emb, h23]) eN (n := 8) (by omega)
                refine lv_aload_n hx hb dM_find_46 rfl (lv_at hl 0 rfl) ?_
                refine rM_ST X Y dM_find_47 ?_
                refine lv_iload_n hx hb dM_find_50 rfl (lv_at hl 3 rfl) ?_
                refine lv_iconst (v := (nI (1))) hx hb dM_find_51 (by decide) ?_
                refine sM_ST X Y (k := i7) (⟨1, by omega⟩) rfl (by omega) dM_find_52 (fun H locs Y => ?_)
                refine lv_iconst (v := (nI (4))) hx hb dM_find_53 (by decide) ?_
                refine lv_iload_n hx hb dM_find_54 rfl (lv_at hl 3 rfl) ?_
                refine bn_mul hx hb dM_find_55 ?_
                refine lv_istore_n (lv' := [(2, .int (nI (4 * i7))), (0, .ref (a 0)), (1, .int (bI (b))), (3, .int (nI (i7)))]) hx hb dM_find_56 rfl hl (by decide) rfl (fun ls hl => ?_)
                refine lv_iinc (v := (nI (i7 + 1))) (lv' := [(3, .int (nI (i7 + 1))), (2, .int (nI (4 * i7))), (0, .ref (a 0)), (1, .int (bI (b)))]) hx hb dM_find_57 hl (k := 3) rfl (nI_1 _) (by decide) rfl (fun ls hl => ?_)
                refine lv_goto (tgt := 7) hx hb dM_find_60 (by decide) ?_
                exact ih7 (i7 + 1) (some ⟨4 * i7, by omega⟩) (uM_ST s i7 (⟨1, by omega⟩)) (by omega) (by omega) (fun h => by cases h) (fun k hk => ⟨(by rw [← hk, m_fp_2 eF, m_fpe_1 hE]; exact toP_some _), (by rw [m_fs1_2 eF hE, m_fd1_neg (fun z => h38 z.2)])⟩) _ _ _ Y (lv_sub hl [2, 3, 1, 0] rfl)
              · skip
                have hst' := hst h27 h38
                refine lv_aload_n hx hb dM_find_41 rfl (lv_at hl 0 rfl) ?_
                refine lv_iconst (v := (-1)) hx hb dM_find_42 (by decide) ?_
                refine cl_vv (na := 1) (rest := []) X hD Y (tM_putOutOne l g a ha s ((-1)) (by assumption)) gM_M_putOutOne (by decide +kernel) rfl rfl rfl ⟨rfl, rfl⟩ ⟨Nat.le_of_ble_eq_true rfl, Nat.le_of_ble_eq_true rfl⟩ ⟨Nat.zero_le _, Nat.zero_le _⟩ hl.1 rfl (Nat.le_of_ble_eq_true rfl) dM_find_43 (fun H locs Y => ?_)
                have hE := fstN_hit (f := m_emb s) (i := i7) (by simp [m_emb, h23]) eN (n := 8) (by omega)
                refine lv_aload_n hx hb dM_find_46 rfl (lv_at hl 0 rfl) ?_
                refine rM_ST X Y dM_find_47 ?_
                refine lv_iload_n hx hb dM_find_50 rfl (lv_at hl 3 rfl) ?_
                refine lv_iconst (v := (nI (1))) hx hb dM_find_51 (by decide) ?_
                refine sM_ST X Y (k := i7) (⟨1, by omega⟩) rfl (by omega) dM_find_52 (fun H locs Y => ?_)
                refine lv_iconst (v := (nI (4))) hx hb dM_find_53 (by decide) ?_
                refine lv_iload_n hx hb dM_find_54 rfl (lv_at hl 3 rfl) ?_
                refine bn_mul hx hb dM_find_55 ?_
                refine lv_istore_n (lv' := [(2, .int (nI (4 * i7))), (0, .ref (a 0)), (1, .int (bI (b))), (3, .int (nI (i7)))]) hx hb dM_find_56 rfl hl (by decide) rfl (fun ls hl => ?_)
                refine lv_iinc (v := (nI (i7 + 1))) (lv' := [(3, .int (nI (i7 + 1))), (2, .int (nI (4 * i7))), (0, .ref (a 0)), (1, .int (bI (b)))]) hx hb dM_find_57 hl (k := 3) rfl (nI_1 _) (by decide) rfl (fun ls hl => ?_)
                refine lv_goto (tgt := 7) hx hb dM_find_60 (by decide) ?_
                exact ih7 (i7 + 1) (some ⟨4 * i7, by omega⟩) (uM_ST (m_one ((-1)) s) i7 (⟨1, by omega⟩)) (by omega) (by omega) (fun h => by cases h) (fun k hk => ⟨(by rw [← hk, m_fp_2 eF, m_fpe_1 hE]; exact toP_some _), (by rw [m_fs1_2 eF hE, m_fd1_pos h27 h38])⟩) _ _ _ Y (lv_sub hl [2, 3, 1, 0] rfl)
  exact loop7 (8 + 1) 0 (m_free s) s (by omega) (by omega) (fun h => ⟨rfl, h, fun j hj => absurd hj (by omega)⟩) (fun k h => ⟨m_fp_1 h, (m_fs1_1 h).symm⟩) _ _ _ Y (lv_sub hl [2, 3, 1, 0] rfl)
set_option maxHeartbeats 1000000 in
set_option maxRecDepth 100000 in
theorem tM_place (l : Launch) (g : GG) (a : Nat → Nat) (ha : apM a) (s : MS) (q : Nat) (v : Int32) (hq : q < 32) : Cv l g (wldM g a) (adM a) yM_place kM_place ({ frames := 0, cells := 0, slots := 0, locals := 0 }) [.ref (a 0), .int (nI (q)), .int (v)] s (m_place q v s) := by
  have hD := wldM_D (g := g) ha
  refine Cv.of (own := RM) (cc := cM_place) (nL := 3) hD (by decide) rfl (Nat.le_of_ble_eq_true rfl) ?_
  intro p e S m args below meth c Q X ret H locs ls Y hl
  have hx := X.1
  have hb := X.2.1
  have hl : lv_has ls 3 [(0, .ref (a 0)), (1, .int (nI (q))), (2, .int (v))] := hl
  refine lv_aload_n hx hb dM_place_0 rfl (lv_at hl 0 rfl) ?_
  refine rM_TH X Y dM_place_1 ?_
  refine lv_iload_n hx hb dM_place_4 rfl (lv_at hl 1 rfl) ?_
  refine lv_iconst (v := (nI (1))) hx hb dM_place_5 (by decide) ?_
  refine sM_TH X Y (k := q) true (by decide) (by omega) dM_place_6 (fun H locs Y => ?_)
  refine lv_aload_n hx hb dM_place_7 rfl (lv_at hl 0 rfl) ?_
  refine rM_VA X Y dM_place_8 ?_
  refine lv_iload_n hx hb dM_place_11 rfl (lv_at hl 1 rfl) ?_
  refine lv_iload_n hx hb dM_place_12 rfl (lv_at hl 2 rfl) ?_
  refine sM_VA X Y (k := q) ((v)) rfl (by omega) dM_place_13 (fun H locs Y => ?_)
  refine lv_aload_n hx hb dM_place_14 rfl (lv_at hl 0 rfl) ?_
  refine rM_FD X Y dM_place_15 ?_
  refine lv_iconst (v := (nI (2))) hx hb dM_place_18 (by decide) ?_
  refine lv_iload_n hx hb dM_place_19 rfl (lv_at hl 1 rfl) ?_
  refine bn_mul hx hb dM_place_20 ?_
  refine lv_iconst (v := (-1)) hx hb dM_place_21 (by decide) ?_
  refine sM_FD X Y (k := 2 * q) none rfl (by omega) dM_place_22 (fun H locs Y => ?_)
  refine lv_aload_n hx hb dM_place_23 rfl (lv_at hl 0 rfl) ?_
  refine rM_FD X Y dM_place_24 ?_
  refine lv_iconst (v := (nI (2))) hx hb dM_place_27 (by decide) ?_
  refine lv_iload_n hx hb dM_place_28 rfl (lv_at hl 1 rfl) ?_
  refine bn_mul hx hb dM_place_29 ?_
  refine lv_iconst (v := (nI (1))) hx hb dM_place_30 (by decide) ?_
  refine bn_add hx hb dM_place_31 ?_
  refine lv_iconst (v := (-1)) hx hb dM_place_32 (by decide) ?_
  refine sM_FD X Y (k := (2 * q) + 1) none rfl (by omega) dM_place_33 (fun H locs Y => ?_)
  refine lv_aload_n hx hb dM_place_34 rfl (lv_at hl 0 rfl) ?_
  refine rM_MK X Y dM_place_35 ?_
  refine lv_iload_n hx hb dM_place_38 rfl (lv_at hl 1 rfl) ?_
  refine lv_iconst (v := (nI (0))) hx hb dM_place_39 (by decide) ?_
  refine sM_MK X Y (k := q) false (by decide) (by omega) dM_place_40 (fun H locs Y => ?_)
  have E : uM_MK (uM_FD (uM_FD (uM_VA (uM_TH s q true) q ((v))) (2 * q) none) ((2 * q) + 1) none) q false = m_place q v s := rfl
  rw [E] at Y
  exact ret _ _ _ _ Y dM_place_41
set_option maxHeartbeats 1000000 in
set_option maxRecDepth 100000 in
theorem tM_fails (l : Launch) (g : GG) (a : Nat → Nat) (ha : apM a) (s : MS) (k : Int32) : Ci l g (wldM g a) (adM a) yM_fails kM_fails ({ frames := 0, cells := 0, slots := 0, locals := 0 }) [.ref (a 0), .int (k)] s (nI (0)) (uM_TR s k) := by
  have hD := wldM_D (g := g) ha
  refine Ci.of (own := RM) (cc := cM_fails) (nL := 2) hD (by decide) rfl (Nat.le_of_ble_eq_true rfl) ?_
  intro p e S m args below meth c Q X ret H locs ls Y hl
  have hx := X.1
  have hb := X.2.1
  have hl : lv_has ls 2 [(0, .ref (a 0)), (1, .int (k))] := hl
  refine lv_aload_n hx hb dM_fails_0 rfl (lv_at hl 0 rfl) ?_
  refine lv_iload_n hx hb dM_fails_1 rfl (lv_at hl 1 rfl) ?_
  refine pM_TR X Y ((k)) rfl dM_fails_2 (fun H locs Y => ?_)
  refine lv_iconst (v := (nI (0))) hx hb dM_fails_5 (by decide) ?_
  have E : uM_TR s ((k)) = uM_TR s k := rfl
  rw [E] at Y
  exact ret _ _ _ _ _ Y (rfl) dM_fails_6
