/-! written by wip/whole/specM.py -/
set_option maxHeartbeats 1000000 in
set_option maxRecDepth 100000 in
theorem tM_bringIn (l : Launch) (g : GG) (a : Nat → Nat) (ha : apM a) (s : MS) (v : Nat) (hv : v < 8) (hst : m_in s = (gM_BU s).val → m_stops s (-1)) : Cv l g (wldM g a) (adM a) yM_bringIn kM_bringIn ({ frames := 2, cells := 0, slots := 0, locals := 48 }) [.ref (a 0), .int (nI (v))] s (m_bringIn v s) := by
  have hD := wldM_D (g := g) ha
  refine Cv.of (own := RM) (cc := cM_bringIn) (nL := 4) hD (by decide) rfl (Nat.le_of_ble_eq_true rfl) ?_
  intro p e S m args below meth c Q X ret H locs ls Y hl
  have hx := X.1
  have hb := X.2.1
  have hl : lv_has ls 4 [(0, .ref (a 0)), (1, .int (nI (v)))] := hl
  refine lv_aload_n hx hb dM_bringIn_0 rfl (lv_at hl 0 rfl) ?_
  refine cl_vi (na := 0) (rest := []) X hD Y (tM_pagesIn l g a ha s  ) gM_M_pagesIn (by decide +kernel) rfl rfl rfl ⟨rfl, rfl⟩ ⟨Nat.le_of_ble_eq_true rfl, Nat.le_of_ble_eq_true rfl⟩ ⟨Nat.zero_le _, Nat.zero_le _⟩ hl.1 rfl (Nat.le_of_ble_eq_true rfl) dM_bringIn_1 (fun H locs Y => ?_)
  have hf1 := m_in_le s
  refine lv_aload_n hx hb dM_bringIn_4 rfl (lv_at hl 0 rfl) ?_
  refine rM_BU X Y dM_bringIn_5 ?_
  have hq2 := (gM_BU s).isLt
  refine bn_ne (tgt := 16) hx hb dM_bringIn_8 (by decide) (by omega) (by omega) (fun h8 => ?_) (fun h8 => ?_)
  · skip
    have E0 : s = m_bi0 s := by simp [m_bi0, h8]
    rw [E0] at Y
    refine lv_aload_n hx hb dM_bringIn_16 rfl (lv_at hl 0 rfl) ?_
    refine rM_ST X Y dM_bringIn_17 ?_
    refine lv_iload_n hx hb dM_bringIn_20 rfl (lv_at hl 1 rfl) ?_
    refine lv_iconst (v := (nI (1))) hx hb dM_bringIn_21 (by decide) ?_
    refine sM_ST X Y (k := v) (⟨1, by omega⟩) rfl (by omega) dM_bringIn_22 (fun H locs Y => ?_)
    refine lv_aload_n hx hb dM_bringIn_23 rfl (lv_at hl 0 rfl) ?_
    refine rM_US X Y dM_bringIn_24 ?_
    refine lv_iload_n hx hb dM_bringIn_27 rfl (lv_at hl 1 rfl) ?_
    refine lv_iconst (v := (nI (0))) hx hb dM_bringIn_28 (by decide) ?_
    refine sM_US X Y (k := v) false (by decide) (by omega) dM_bringIn_29 (fun H locs Y => ?_)
    refine lv_iconst (v := (nI (0))) hx hb dM_bringIn_30 (by decide) ?_
    refine lv_istore_n (lv' := [(2, .int (nI (0))), (0, .ref (a 0)), (1, .int (nI (v)))]) hx hb dM_bringIn_31 rfl hl (by decide) rfl (fun ls hl => ?_)
    have loop32 : ∀ (n32 i32 : Nat) (σ32 : MS), i32 ≤ 8 → 8 < i32 + n32 → (fldN (m_bi1 v) (uM_US (uM_ST (m_bi0 s) v (⟨1, by omega⟩)) v false) i32 = σ32) → ∀ (H : Heap) (locs : List Loc) (ls : Array Slot), Yw g (wldM g a) (adM a) S H locs σ32 → lv_has ls 4 [(0, .ref (a 0)), (1, .int (nI (v))), (2, .int (nI (i32)))] → W p l e ({ frames := 2, cells := 0, slots := 0, locals := 48 }) S m args below meth c H locs 0 0 Q (F0 m 32 ls []) := by
      intro n32
      induction n32 with
      | zero =>
        intro i32 σ32 b1 b2
        exact absurd b2 (by omega)
      | succ n32 ih32 =>
        intro i32 σ32 hi32 hn32 eσ32 H locs ls Y hl
        refine lv_iload_n hx hb dM_bringIn_32 rfl (lv_at hl 2 rfl) ?_
        refine lv_bipush (v := (nI (8))) hx hb dM_bringIn_33 (by decide) ?_
        refine bn_ge (tgt := 91) hx hb dM_bringIn_35 (by decide) (by omega) (by omega) (fun h35 => ?_) (fun h35 => ?_)
        · skip
          obtain rfl : i32 = 8 := by omega
          subst eσ32
          have E : (fldN (m_bi1 v) (uM_US (uM_ST (m_bi0 s) v (⟨1, by omega⟩)) v false) 8) = m_bringIn v s := rfl
          rw [E] at Y
          exact ret _ _ _ _ Y dM_bringIn_91
        · skip
          refine lv_iload_n hx hb dM_bringIn_38 rfl (lv_at hl 2 rfl) ?_
          refine lv_iload_n hx hb dM_bringIn_39 rfl (lv_at hl 1 rfl) ?_
          refine bn_eq (tgt := 52) hx hb dM_bringIn_40 (by decide) (by omega) (by omega) (fun h40 => ?_) (fun h40 => ?_)
          · skip
            refine lv_iconst (v := (nI (1))) hx hb dM_bringIn_52 (by decide) ?_
            refine lv_goto (tgt := 57) hx hb dM_bringIn_53 (by decide) ?_
            refine bn_top (y := (bI (true))) (by decide) ?_
            refine lv_istore_n (lv' := [(3, .int (bI (true))), (0, .ref (a 0)), (1, .int (nI (v))), (2, .int (nI (i32)))]) hx hb dM_bringIn_57 rfl hl (by decide) rfl (fun ls hl => ?_)
            refine lv_iload_n hx hb dM_bringIn_58 rfl (lv_at hl 0 rfl) ?_
            refine bb_eq (tgt := 85) hx hb dM_bringIn_59 (by decide) (fun q => by cases q) (fun _ => ?_)
            refine lv_aload_n hx hb dM_bringIn_62 rfl (lv_at hl 1 rfl) ?_
            refine rM_ST X Y dM_bringIn_63 ?_
            refine lv_iload_n hx hb dM_bringIn_66 rfl (lv_at hl 3 rfl) ?_
            refine lM_ST X Y (k := i32) (by omega) dM_bringIn_67 ?_
            have hq3 := (gM_ST σ32 i32).isLt
            refine lv_iconst (v := (nI (1))) hx hb dM_bringIn_68 (by decide) ?_
            refine bn_ne (tgt := 85) hx hb dM_bringIn_69 (by decide) (by omega) (by omega) (fun h69 => ?_) (fun h69 => ?_)
            · skip
              refine lv_iinc (v := (nI (i32 + 1))) (lv' := [(2, .int (nI (i32 + 1))), (3, .int (bI (true))), (0, .ref (a 0)), (1, .int (nI (v)))]) hx hb dM_bringIn_85 hl (k := 3) rfl (nI_1 _) (by decide) rfl (fun ls hl => ?_)
              refine lv_goto (tgt := 32) hx hb dM_bringIn_88 (by decide) ?_
              exact ih32 (i32 + 1) σ32 (by omega) (by omega) (by show m_bi1 v i32 (fldN (m_bi1 v) (uM_US (uM_ST (m_bi0 s) v (⟨1, by omega⟩)) v false) i32) = _; rw [eσ32]; unfold m_bi1; first | exact if_pos ⟨(by first | exact Or.inl h40 | exact Or.inr h49), h69, h77⟩ | exact if_neg (fun z => h69 z.2.1) | exact if_neg (fun z => h77 z.2.2) | exact if_neg (fun z => z.1.elim h40 (fun y => by rw [h49] at y; cases y))) _ _ _ Y (lv_sub hl [2, 3, 0] rfl)
            · skip
              refine lv_aload_n hx hb dM_bringIn_72 rfl (lv_at hl 1 rfl) ?_
              refine lv_iload_n hx hb dM_bringIn_73 rfl (lv_at hl 3 rfl) ?_
              refine cl_vi (na := 1) (rest := []) X hD Y (tM_counted l g a ha σ32 i32 (by omega)) gM_M_counted (by decide +kernel) rfl rfl rfl ⟨rfl, rfl⟩ ⟨Nat.le_of_ble_eq_true rfl, Nat.le_of_ble_eq_true rfl⟩ ⟨Nat.zero_le _, Nat.zero_le _⟩ hl.1 rfl (Nat.le_of_ble_eq_true rfl) dM_bringIn_74 (fun H locs Y => ?_)
              have hf4 := m_counted_le σ32 i32
              refine bz_ne (tgt := 85) hx hb dM_bringIn_77 (by decide) (by omega) (fun h77 => ?_) (fun h77 => ?_)
              · skip
                refine lv_iinc (v := (nI (i32 + 1))) (lv' := [(2, .int (nI (i32 + 1))), (3, .int (bI (true))), (0, .ref (a 0)), (1, .int (nI (v)))]) hx hb dM_bringIn_85 hl (k := 3) rfl (nI_1 _) (by decide) rfl (fun ls hl => ?_)
                refine lv_goto (tgt := 32) hx hb dM_bringIn_88 (by decide) ?_
                exact ih32 (i32 + 1) σ32 (by omega) (by omega) (by show m_bi1 v i32 (fldN (m_bi1 v) (uM_US (uM_ST (m_bi0 s) v (⟨1, by omega⟩)) v false) i32) = _; rw [eσ32]; unfold m_bi1; first | exact if_pos ⟨(by first | exact Or.inl h40 | exact Or.inr h49), h69, h77⟩ | exact if_neg (fun z => h69 z.2.1) | exact if_neg (fun z => h77 z.2.2) | exact if_neg (fun z => z.1.elim h40 (fun y => by rw [h49] at y; cases y))) _ _ _ Y (lv_sub hl [2, 3, 0] rfl)
              · skip
                refine lv_aload_n hx hb dM_bringIn_80 rfl (lv_at hl 1 rfl) ?_
                refine lv_iload_n hx hb dM_bringIn_81 rfl (lv_at hl 3 rfl) ?_
                refine cl_vv (na := 1) (rest := []) X hD Y (tM_unmark l g a ha σ32 i32 (by omega)) gM_M_unmark (by decide +kernel) rfl rfl rfl ⟨rfl, rfl⟩ ⟨Nat.le_of_ble_eq_true rfl, Nat.le_of_ble_eq_true rfl⟩ ⟨Nat.zero_le _, Nat.zero_le _⟩ hl.1 rfl (Nat.le_of_ble_eq_true rfl) dM_bringIn_82 (fun H locs Y => ?_)
                refine lv_iinc (v := (nI (i32 + 1))) (lv' := [(2, .int (nI (i32 + 1))), (3, .int (bI (true))), (0, .ref (a 0)), (1, .int (nI (v)))]) hx hb dM_bringIn_85 hl (k := 3) rfl (nI_1 _) (by decide) rfl (fun ls hl => ?_)
                refine lv_goto (tgt := 32) hx hb dM_bringIn_88 (by decide) ?_
                exact ih32 (i32 + 1) (m_unmark i32 σ32) (by omega) (by omega) (by show m_bi1 v i32 (fldN (m_bi1 v) (uM_US (uM_ST (m_bi0 s) v (⟨1, by omega⟩)) v false) i32) = _; rw [eσ32]; unfold m_bi1; first | exact if_pos ⟨(by first | exact Or.inl h40 | exact Or.inr h49), h69, h77⟩ | exact if_neg (fun z => h69 z.2.1) | exact if_neg (fun z => h77 z.2.2) | exact if_neg (fun z => z.1.elim h40 (fun y => by rw [h49] at y; cases y))) _ _ _ Y (lv_sub hl [2, 3, 0] rfl)
          · skip
            refine lv_aload_n hx hb dM_bringIn_43 rfl (lv_at hl 0 rfl) ?_
            refine lv_iload_n hx hb dM_bringIn_44 rfl (lv_at hl 1 rfl) ?_
            refine lv_iload_n hx hb dM_bringIn_45 rfl (lv_at hl 2 rfl) ?_
            refine cl_vi (na := 2) (rest := []) X hD Y (tM_refers l g a ha σ32 v i32 (by omega) (by omega)) gM_M_refers (by decide +kernel) rfl rfl rfl ⟨rfl, rfl⟩ ⟨Nat.le_of_ble_eq_true rfl, Nat.le_of_ble_eq_true rfl⟩ ⟨Nat.zero_le _, Nat.zero_le _⟩ hl.1 rfl (Nat.le_of_ble_eq_true rfl) dM_bringIn_46 (fun H locs Y => ?_)
            refine bb_eq (tgt := 56) hx hb dM_bringIn_49 (by decide) (fun h49 => ?_) (fun h49 => ?_)
            · skip
              refine lv_iconst (v := (nI (0))) hx hb dM_bringIn_56 (by decide) ?_
              refine bn_top (y := (bI (false))) (by decide) ?_
              refine lv_istore_n (lv' := [(3, .int (bI (false))), (0, .ref (a 0)), (1, .int (nI (v))), (2, .int (nI (i32)))]) hx hb dM_bringIn_57 rfl hl (by decide) rfl (fun ls hl => ?_)
              refine lv_iload_n hx hb dM_bringIn_58 rfl (lv_at hl 0 rfl) ?_
              refine bb_eq (tgt := 85) hx hb dM_bringIn_59 (by decide) (fun _ => ?_) (fun q => by cases q)
              refine lv_iinc (v := (nI (i32 + 1))) (lv' := [(2, .int (nI (i32 + 1))), (3, .int (bI (false))), (0, .ref (a 0)), (1, .int (nI (v)))]) hx hb dM_bringIn_85 hl (k := 3) rfl (nI_1 _) (by decide) rfl (fun ls hl => ?_)
              refine lv_goto (tgt := 32) hx hb dM_bringIn_88 (by decide) ?_
              exact ih32 (i32 + 1) σ32 (by omega) (by omega) (by show m_bi1 v i32 (fldN (m_bi1 v) (uM_US (uM_ST (m_bi0 s) v (⟨1, by omega⟩)) v false) i32) = _; rw [eσ32]; unfold m_bi1; first | exact if_pos ⟨(by first | exact Or.inl h40 | exact Or.inr h49), h69, h77⟩ | exact if_neg (fun z => h69 z.2.1) | exact if_neg (fun z => h77 z.2.2) | exact if_neg (fun z => z.1.elim h40 (fun y => by rw [h49] at y; cases y))) _ _ _ Y (lv_sub hl [2, 3, 0] rfl)
            · skip
              refine lv_iconst (v := (nI (1))) hx hb dM_bringIn_52 (by decide) ?_
              refine lv_goto (tgt := 57) hx hb dM_bringIn_53 (by decide) ?_
              refine bn_top (y := (bI (true))) (by decide) ?_
              refine lv_istore_n (lv' := [(3, .int (bI (true))), (0, .ref (a 0)), (1, .int (nI (v))), (2, .int (nI (i32)))]) hx hb dM_bringIn_57 rfl hl (by decide) rfl (fun ls hl => ?_)
              refine lv_iload_n hx hb dM_bringIn_58 rfl (lv_at hl 0 rfl) ?_
              refine bb_eq (tgt := 85) hx hb dM_bringIn_59 (by decide) (fun q => by cases q) (fun _ => ?_)
              refine lv_aload_n hx hb dM_bringIn_62 rfl (lv_at hl 1 rfl) ?_
              refine rM_ST X Y dM_bringIn_63 ?_
              refine lv_iload_n hx hb dM_bringIn_66 rfl (lv_at hl 3 rfl) ?_
              refine lM_ST X Y (k := i32) (by omega) dM_bringIn_67 ?_
              have hq7 := (gM_ST σ32 i32).isLt
              refine lv_iconst (v := (nI (1))) hx hb dM_bringIn_68 (by decide) ?_
              refine bn_ne (tgt := 85) hx hb dM_bringIn_69 (by decide) (by omega) (by omega) (fun h69 => ?_) (fun h69 => ?_)
              · skip
                refine lv_iinc (v := (nI (i32 + 1))) (lv' := [(2, .int (nI (i32 + 1))), (3, .int (bI (true))), (0, .ref (a 0)), (1, .int (nI (v)))]) hx hb dM_bringIn_85 hl (k := 3) rfl (nI_1 _) (by decide) rfl (fun ls hl => ?_)
                refine lv_goto (tgt := 32) hx hb dM_bringIn_88 (by decide) ?_
                exact ih32 (i32 + 1) σ32 (by omega) (by omega) (by show m_bi1 v i32 (fldN (m_bi1 v) (uM_US (uM_ST (m_bi0 s) v (⟨1, by omega⟩)) v false) i32) = _; rw [eσ32]; unfold m_bi1; first | exact if_pos ⟨(by first | exact Or.inl h40 | exact Or.inr h49), h69, h77⟩ | exact if_neg (fun z => h69 z.2.1) | exact if_neg (fun z => h77 z.2.2) | exact if_neg (fun z => z.1.elim h40 (fun y => by rw [h49] at y; cases y))) _ _ _ Y (lv_sub hl [2, 3, 0] rfl)
              · skip
                refine lv_aload_n hx hb dM_bringIn_72 rfl (lv_at hl 1 rfl) ?_
                refine lv_iload_n hx hb dM_bringIn_73 rfl (lv_at hl 3 rfl) ?_
                refine cl_vi (na := 1) (rest := []) X hD Y (tM_counted l g a ha σ32 i32 (by omega)) gM_M_counted (by decide +kernel) rfl rfl rfl ⟨rfl, rfl⟩ ⟨Nat.le_of_ble_eq_true rfl, Nat.le_of_ble_eq_true rfl⟩ ⟨Nat.zero_le _, Nat.zero_le _⟩ hl.1 rfl (Nat.le_of_ble_eq_true rfl) dM_bringIn_74 (fun H locs Y => ?_)
                have hf8 := m_counted_le σ32 i32
                refine bz_ne (tgt := 85) hx hb dM_bringIn_77 (by decide) (by omega) (fun h77 => ?_) (fun h77 => ?_)
                · skip
                  refine lv_iinc (v := (nI (i32 + 1))) (lv' := [(2, .int (nI (i32 + 1))), (3, .int (bI (true))), (0, .ref (a 0)), (1, .int (nI (v)))]) hx hb dM_bringIn_85 hl (k := 3) rfl (nI_1 _) (by decide) rfl (fun ls hl => ?_)
                  refine lv_goto (tgt := 32) hx hb dM_bringIn_88 (by decide) ?_
                  exact ih32 (i32 + 1) σ32 (by omega) (by omega) (by show m_bi1 v i32 (fldN (m_bi1 v) (uM_US (uM_ST (m_bi0 s) v (⟨1, by omega⟩)) v false) i32) = _; rw [eσ32]; unfold m_bi1; first | exact if_pos ⟨(by first | exact Or.inl h40 | exact Or.inr h49), h69, h77⟩ | exact if_neg (fun z => h69 z.2.1) | exact if_neg (fun z => h77 z.2.2) | exact if_neg (fun z => z.1.elim h40 (fun y => by rw [h49] at y; cases y))) _ _ _ Y (lv_sub hl [2, 3, 0] rfl)
                · skip
                  refine lv_aload_n hx hb dM_bringIn_80 rfl (lv_at hl 1 rfl) ?_
                  refine lv_iload_n hx hb dM_bringIn_81 rfl (lv_at hl 3 rfl) ?_
                  refine cl_vv (na := 1) (rest := []) X hD Y (tM_unmark l g a ha σ32 i32 (by omega)) gM_M_unmark (by decide +kernel) rfl rfl rfl ⟨rfl, rfl⟩ ⟨Nat.le_of_ble_eq_true rfl, Nat.le_of_ble_eq_true rfl⟩ ⟨Nat.zero_le _, Nat.zero_le _⟩ hl.1 rfl (Nat.le_of_ble_eq_true rfl) dM_bringIn_82 (fun H locs Y => ?_)
                  refine lv_iinc (v := (nI (i32 + 1))) (lv' := [(2, .int (nI (i32 + 1))), (3, .int (bI (true))), (0, .ref (a 0)), (1, .int (nI (v)))]) hx hb dM_bringIn_85 hl (k := 3) rfl (nI_1 _) (by decide) rfl (fun ls hl => ?_)
                  refine lv_goto (tgt := 32) hx hb dM_bringIn_88 (by decide) ?_
                  exact ih32 (i32 + 1) (m_unmark i32 σ32) (by omega) (by omega) (by show m_bi1 v i32 (fldN (m_bi1 v) (uM_US (uM_ST (m_bi0 s) v (⟨1, by omega⟩)) v false) i32) = _; rw [eσ32]; unfold m_bi1; first | exact if_pos ⟨(by first | exact Or.inl h40 | exact Or.inr h49), h69, h77⟩ | exact if_neg (fun z => h69 z.2.1) | exact if_neg (fun z => h77 z.2.2) | exact if_neg (fun z => z.1.elim h40 (fun y => by rw [h49] at y; cases y))) _ _ _ Y (lv_sub hl [2, 3, 0] rfl)
    exact loop32 (8 + 1) 0 ((uM_US (uM_ST (m_bi0 s) v (⟨1, by omega⟩)) v false)) (by omega) (by omega) (fldN_zero) _ _ _ Y (lv_sub hl [1, 2, 0] rfl)
  · skip
    have hst' := hst h8
    refine lv_aload_n hx hb dM_bringIn_11 rfl (lv_at hl 0 rfl) ?_
    refine lv_iconst (v := (-1)) hx hb dM_bringIn_12 (by decide) ?_
    refine cl_vv (na := 1) (rest := []) X hD Y (tM_putOutOne l g a ha s ((-1)) (by assumption)) gM_M_putOutOne (by decide +kernel) rfl rfl rfl ⟨rfl, rfl⟩ ⟨Nat.le_of_ble_eq_true rfl, Nat.le_of_ble_eq_true rfl⟩ ⟨Nat.zero_le _, Nat.zero_le _⟩ hl.1 rfl (Nat.le_of_ble_eq_true rfl) dM_bringIn_13 (fun H locs Y => ?_)
    have E0 : m_one ((-1)) s = m_bi0 s := by simp [m_bi0, h8]
    rw [E0] at Y
    refine lv_aload_n hx hb dM_bringIn_16 rfl (lv_at hl 0 rfl) ?_
    refine rM_ST X Y dM_bringIn_17 ?_
    refine lv_iload_n hx hb dM_bringIn_20 rfl (lv_at hl 1 rfl) ?_
    refine lv_iconst (v := (nI (1))) hx hb dM_bringIn_21 (by decide) ?_
    refine sM_ST X Y (k := v) (⟨1, by omega⟩) rfl (by omega) dM_bringIn_22 (fun H locs Y => ?_)
    refine lv_aload_n hx hb dM_bringIn_23 rfl (lv_at hl 0 rfl) ?_
    refine rM_US X Y dM_bringIn_24 ?_
    refine lv_iload_n hx hb dM_bringIn_27 rfl (lv_at hl 1 rfl) ?_
    refine lv_iconst (v := (nI (0))) hx hb dM_bringIn_28 (by decide) ?_
    refine sM_US X Y (k := v) false (by decide) (by omega) dM_bringIn_29 (fun H locs Y => ?_)
    refine lv_iconst (v := (nI (0))) hx hb dM_bringIn_30 (by decide) ?_
    refine lv_istore_n (lv' := [(2, .int (nI (0))), (0, .ref (a 0)), (1, .int (nI (v)))]) hx hb dM_bringIn_31 rfl hl (by decide) rfl (fun ls hl => ?_)
    have loop32 : ∀ (n32 i32 : Nat) (σ32 : MS), i32 ≤ 8 → 8 < i32 + n32 → (fldN (m_bi1 v) (uM_US (uM_ST (m_bi0 s) v (⟨1, by omega⟩)) v false) i32 = σ32) → ∀ (H : Heap) (locs : List Loc) (ls : Array Slot), Yw g (wldM g a) (adM a) S H locs σ32 → lv_has ls 4 [(0, .ref (a 0)), (1, .int (nI (v))), (2, .int (nI (i32)))] → W p l e ({ frames := 2, cells := 0, slots := 0, locals := 48 }) S m args below meth c H locs 0 0 Q (F0 m 32 ls []) := by
      intro n32
      induction n32 with
      | zero =>
        intro i32 σ32 b1 b2
        exact absurd b2 (by omega)
      | succ n32 ih32 =>
        intro i32 σ32 hi32 hn32 eσ32 H locs ls Y hl
        refine lv_iload_n hx hb dM_bringIn_32 rfl (lv_at hl 2 rfl) ?_
        refine lv_bipush (v := (nI (8))) hx hb dM_bringIn_33 (by decide) ?_
        refine bn_ge (tgt := 91) hx hb dM_bringIn_35 (by decide) (by omega) (by omega) (fun h35 => ?_) (fun h35 => ?_)
        · skip
          obtain rfl : i32 = 8 := by omega
          subst eσ32
          have E : (fldN (m_bi1 v) (uM_US (uM_ST (m_bi0 s) v (⟨1, by omega⟩)) v false) 8) = m_bringIn v s := rfl
          rw [E] at Y
          exact ret _ _ _ _ Y dM_bringIn_91
        · skip
          refine lv_iload_n hx hb dM_bringIn_38 rfl (lv_at hl 2 rfl) ?_
          refine lv_iload_n hx hb dM_bringIn_39 rfl (lv_at hl 1 rfl) ?_
          refine bn_eq (tgt := 52) hx hb dM_bringIn_40 (by decide) (by omega) (by omega) (fun h40 => ?_) (fun h40 => ?_)
          · skip
            refine lv_iconst (v := (nI (1))) hx hb dM_bringIn_52 (by decide) ?_
            refine lv_goto (tgt := 57) hx hb dM_bringIn_53 (by decide) ?_
            refine bn_top (y := (bI (true))) (by decide) ?_
            refine lv_istore_n (lv' := [(3, .int (bI (true))), (0, .ref (a 0)), (1, .int (nI (v))), (2, .int (nI (i32)))]) hx hb dM_bringIn_57 rfl hl (by decide) rfl (fun ls hl => ?_)
            refine lv_iload_n hx hb dM_bringIn_58 rfl (lv_at hl 0 rfl) ?_
            refine bb_eq (tgt := 85) hx hb dM_bringIn_59 (by decide) (fun q => by cases q) (fun _ => ?_)
            refine lv_aload_n hx hb dM_bringIn_62 rfl (lv_at hl 1 rfl) ?_
            refine rM_ST X Y dM_bringIn_63 ?_
            refine lv_iload_n hx hb dM_bringIn_66 rfl (lv_at hl 3 rfl) ?_
            refine lM_ST X Y (k := i32) (by omega) dM_bringIn_67 ?_
            have hq11 := (gM_ST σ32 i32).isLt
            refine lv_iconst (v := (nI (1))) hx hb dM_bringIn_68 (by decide) ?_
            refine bn_ne (tgt := 85) hx hb dM_bringIn_69 (by decide) (by omega) (by omega) (fun h69 => ?_) (fun h69 => ?_)
            · skip
              refine lv_iinc (v := (nI (i32 + 1))) (lv' := [(2, .int (nI (i32 + 1))), (3, .int (bI (true))), (0, .ref (a 0)), (1, .int (nI (v)))]) hx hb dM_bringIn_85 hl (k := 3) rfl (nI_1 _) (by decide) rfl (fun ls hl => ?_)
              refine lv_goto (tgt := 32) hx hb dM_bringIn_88 (by decide) ?_
              exact ih32 (i32 + 1) σ32 (by omega) (by omega) (by show m_bi1 v i32 (fldN (m_bi1 v) (uM_US (uM_ST (m_bi0 s) v (⟨1, by omega⟩)) v false) i32) = _; rw [eσ32]; unfold m_bi1; first | exact if_pos ⟨(by first | exact Or.inl h40 | exact Or.inr h49), h69, h77⟩ | exact if_neg (fun z => h69 z.2.1) | exact if_neg (fun z => h77 z.2.2) | exact if_neg (fun z => z.1.elim h40 (fun y => by rw [h49] at y; cases y))) _ _ _ Y (lv_sub hl [2, 3, 0] rfl)
            · skip
              refine lv_aload_n hx hb dM_bringIn_72 rfl (lv_at hl 1 rfl) ?_
              refine lv_iload_n hx hb dM_bringIn_73 rfl (lv_at hl 3 rfl) ?_
              refine cl_vi (na := 1) (rest := []) X hD Y (tM_counted l g a ha σ32 i32 (by omega)) gM_M_counted (by decide +kernel) rfl rfl rfl ⟨rfl, rfl⟩ ⟨Nat.le_of_ble_eq_true rfl, Nat.le_of_ble_eq_true rfl⟩ ⟨Nat.zero_le _, Nat.zero_le _⟩ hl.1 rfl (Nat.le_of_ble_eq_true rfl) dM_bringIn_74 (fun H locs Y => ?_)
              have hf12 := m_counted_le σ32 i32
              refine bz_ne (tgt := 85) hx hb dM_bringIn_77 (by decide) (by omega) (fun h77 => ?_) (fun h77 => ?_)
              · skip
                refine lv_iinc (v := (nI (i32 + 1))) (lv' := [(2, .int (nI (i32 + 1))), (3, .int (bI (true))), (0, .ref (a 0)), (1, .int (nI (v)))]) hx hb dM_bringIn_85 hl (k := 3) rfl (nI_1 _) (by decide) rfl (fun ls hl => ?_)
                refine lv_goto (tgt := 32) hx hb dM_bringIn_88 (by decide) ?_
                exact ih32 (i32 + 1) σ32 (by omega) (by omega) (by show m_bi1 v i32 (fldN (m_bi1 v) (uM_US (uM_ST (m_bi0 s) v (⟨1, by omega⟩)) v false) i32) = _; rw [eσ32]; unfold m_bi1; first | exact if_pos ⟨(by first | exact Or.inl h40 | exact Or.inr h49), h69, h77⟩ | exact if_neg (fun z => h69 z.2.1) | exact if_neg (fun z => h77 z.2.2) | exact if_neg (fun z => z.1.elim h40 (fun y => by rw [h49] at y; cases y))) _ _ _ Y (lv_sub hl [2, 3, 0] rfl)
              · skip
                refine lv_aload_n hx hb dM_bringIn_80 rfl (lv_at hl 1 rfl) ?_
                refine lv_iload_n hx hb dM_bringIn_81 rfl (lv_at hl 3 rfl) ?_
                refine cl_vv (na := 1) (rest := []) X hD Y (tM_unmark l g a ha σ32 i32 (by omega)) gM_M_unmark (by decide +kernel) rfl rfl rfl ⟨rfl, rfl⟩ ⟨Nat.le_of_ble_eq_true rfl, Nat.le_of_ble_eq_true rfl⟩ ⟨Nat.zero_le _, Nat.zero_le _⟩ hl.1 rfl (Nat.le_of_ble_eq_true rfl) dM_bringIn_82 (fun H locs Y => ?_)
                refine lv_iinc (v := (nI (i32 + 1))) (lv' := [(2, .int (nI (i32 + 1))), (3, .int (bI (true))), (0, .ref (a 0)), (1, .int (nI (v)))]) hx hb dM_bringIn_85 hl (k := 3) rfl (nI_1 _) (by decide) rfl (fun ls hl => ?_)
                refine lv_goto (tgt := 32) hx hb dM_bringIn_88 (by decide) ?_
                exact ih32 (i32 + 1) (m_unmark i32 σ32) (by omega) (by omega) (by show m_bi1 v i32 (fldN (m_bi1 v) (uM_US (uM_ST (m_bi0 s) v (⟨1, by omega⟩)) v false) i32) = _; rw [eσ32]; unfold m_bi1; first | exact if_pos ⟨(by first | exact Or.inl h40 | exact Or.inr h49), h69, h77⟩ | exact if_neg (fun z => h69 z.2.1) | exact if_neg (fun z => h77 z.2.2) | exact if_neg (fun z => z.1.elim h40 (fun y => by rw [h49] at y; cases y))) _ _ _ Y (lv_sub hl [2, 3, 0] rfl)
          · skip
            refine lv_aload_n hx hb dM_bringIn_43 rfl (lv_at hl 0 rfl) ?_
            refine lv_iload_n hx hb dM_bringIn_44 rfl (lv_at hl 1 rfl) ?_
            refine lv_iload_n hx hb dM_bringIn_45 rfl (lv_at hl 2 rfl) ?_
            refine cl_vi (na := 2) (rest := []) X hD Y (tM_refers l g a ha σ32 v i32 (by omega) (by omega)) gM_M_refers (by decide +kernel) rfl rfl rfl ⟨rfl, rfl⟩ ⟨Nat.le_of_ble_eq_true rfl, Nat.le_of_ble_eq_true rfl⟩ ⟨Nat.zero_le _, Nat.zero_le _⟩ hl.1 rfl (Nat.le_of_ble_eq_true rfl) dM_bringIn_46 (fun H locs Y => ?_)
            refine bb_eq (tgt := 56) hx hb dM_bringIn_49 (by decide) (fun h49 => ?_) (fun h49 => ?_)
            · skip
              refine lv_iconst (v := (nI (0))) hx hb dM_bringIn_56 (by decide) ?_
              refine bn_top (y := (bI (false))) (by decide) ?_
              refine lv_istore_n (lv' := [(3, .int (bI (false))), (0, .ref (a 0)), (1, .int (nI (v))), (2, .int (nI (i32)))]) hx hb dM_bringIn_57 rfl hl (by decide) rfl (fun ls hl => ?_)
              refine lv_iload_n hx hb dM_bringIn_58 rfl (lv_at hl 0 rfl) ?_
              refine bb_eq (tgt := 85) hx hb dM_bringIn_59 (by decide) (fun _ => ?_) (fun q => by cases q)
              refine lv_iinc (v := (nI (i32 + 1))) (lv' := [(2, .int (nI (i32 + 1))), (3, .int (bI (false))), (0, .ref (a 0)), (1, .int (nI (v)))]) hx hb dM_bringIn_85 hl (k := 3) rfl (nI_1 _) (by decide) rfl (fun ls hl => ?_)
              refine lv_goto (tgt := 32) hx hb dM_bringIn_88 (by decide) ?_
              exact ih32 (i32 + 1) σ32 (by omega) (by omega) (by show m_bi1 v i32 (fldN (m_bi1 v) (uM_US (uM_ST (m_bi0 s) v (⟨1, by omega⟩)) v false) i32) = _; rw [eσ32]; unfold m_bi1; first | exact if_pos ⟨(by first | exact Or.inl h40 | exact Or.inr h49), h69, h77⟩ | exact if_neg (fun z => h69 z.2.1) | exact if_neg (fun z => h77 z.2.2) | exact if_neg (fun z => z.1.elim h40 (fun y => by rw [h49] at y; cases y))) _ _ _ Y (lv_sub hl [2, 3, 0] rfl)
            · skip
              refine lv_iconst (v := (nI (1))) hx hb dM_bringIn_52 (by decide) ?_
              refine lv_goto (tgt := 57) hx hb dM_bringIn_53 (by decide) ?_
              refine bn_top (y := (bI (true))) (by decide) ?_
              refine lv_istore_n (lv' := [(3, .int (bI (true))), (0, .ref (a 0)), (1, .int (nI (v))), (2, .int (nI (i32)))]) hx hb dM_bringIn_57 rfl hl (by decide) rfl (fun ls hl => ?_)
              refine lv_iload_n hx hb dM_bringIn_58 rfl (lv_at hl 0 rfl) ?_
              refine bb_eq (tgt := 85) hx hb dM_bringIn_59 (by decide) (fun q => by cases q) (fun _ => ?_)
              refine lv_aload_n hx hb dM_bringIn_62 rfl (lv_at hl 1 rfl) ?_
              refine rM_ST X Y dM_bringIn_63 ?_
              refine lv_iload_n hx hb dM_bringIn_66 rfl (lv_at hl 3 rfl) ?_
              refine lM_ST X Y (k := i32) (by omega) dM_bringIn_67 ?_
              have hq15 := (gM_ST σ32 i32).isLt
              refine lv_iconst (v := (nI (1))) hx hb dM_bringIn_68 (by decide) ?_
              refine bn_ne (tgt := 85) hx hb dM_bringIn_69 (by decide) (by omega) (by omega) (fun h69 => ?_) (fun h69 => ?_)
              · skip
                refine lv_iinc (v := (nI (i32 + 1))) (lv' := [(2, .int (nI (i32 + 1))), (3, .int (bI (true))), (0, .ref (a 0)), (1, .int (nI (v)))]) hx hb dM_bringIn_85 hl (k := 3) rfl (nI_1 _) (by decide) rfl (fun ls hl => ?_)
                refine lv_goto (tgt := 32) hx hb dM_bringIn_88 (by decide) ?_
                exact ih32 (i32 + 1) σ32 (by omega) (by omega) (by show m_bi1 v i32 (fldN (m_bi1 v) (uM_US (uM_ST (m_bi0 s) v (⟨1, by omega⟩)) v false) i32) = _; rw [eσ32]; unfold m_bi1; first | exact if_pos ⟨(by first | exact Or.inl h40 | exact Or.inr h49), h69, h77⟩ | exact if_neg (fun z => h69 z.2.1) | exact if_neg (fun z => h77 z.2.2) | exact if_neg (fun z => z.1.elim h40 (fun y => by rw [h49] at y; cases y))) _ _ _ Y (lv_sub hl [2, 3, 0] rfl)
              · skip
                refine lv_aload_n hx hb dM_bringIn_72 rfl (lv_at hl 1 rfl) ?_
                refine lv_iload_n hx hb dM_bringIn_73 rfl (lv_at hl 3 rfl) ?_
                refine cl_vi (na := 1) (rest := []) X hD Y (tM_counted l g a ha σ32 i32 (by omega)) gM_M_counted (by decide +kernel) rfl rfl rfl ⟨rfl, rfl⟩ ⟨Nat.le_of_ble_eq_true rfl, Nat.le_of_ble_eq_true rfl⟩ ⟨Nat.zero_le _, Nat.zero_le _⟩ hl.1 rfl (Nat.le_of_ble_eq_true rfl) dM_bringIn_74 (fun H locs Y => ?_)
                have hf16 := m_counted_le σ32 i32
                refine bz_ne (tgt := 85) hx hb dM_bringIn_77 (by decide) (by omega) (fun h77 => ?_) (fun h77 => ?_)
                · skip
                  refine lv_iinc (v := (nI (i32 + 1))) (lv' := [(2, .int (nI (i32 + 1))), (3, .int (bI (true))), (0, .ref (a 0)), (1, .int (nI (v)))]) hx hb dM_bringIn_85 hl (k := 3) rfl (nI_1 _) (by decide) rfl (fun ls hl => ?_)
                  refine lv_goto (tgt := 32) hx hb dM_bringIn_88 (by decide) ?_
                  exact ih32 (i32 + 1) σ32 (by omega) (by omega) (by show m_bi1 v i32 (fldN (m_bi1 v) (uM_US (uM_ST (m_bi0 s) v (⟨1, by omega⟩)) v false) i32) = _; rw [eσ32]; unfold m_bi1; first | exact if_pos ⟨(by first | exact Or.inl h40 | exact Or.inr h49), h69, h77⟩ | exact if_neg (fun z => h69 z.2.1) | exact if_neg (fun z => h77 z.2.2) | exact if_neg (fun z => z.1.elim h40 (fun y => by rw [h49] at y; cases y))) _ _ _ Y (lv_sub hl [2, 3, 0] rfl)
                · skip
                  refine lv_aload_n hx hb dM_bringIn_80 rfl (lv_at hl 1 rfl) ?_
                  refine lv_iload_n hx hb dM_bringIn_81 rfl (lv_at hl 3 rfl) ?_
                  refine cl_vv (na := 1) (rest := []) X hD Y (tM_unmark l g a ha σ32 i32 (by omega)) gM_M_unmark (by decide +kernel) rfl rfl rfl ⟨rfl, rfl⟩ ⟨Nat.le_of_ble_eq_true rfl, Nat.le_of_ble_eq_true rfl⟩ ⟨Nat.zero_le _, Nat.zero_le _⟩ hl.1 rfl (Nat.le_of_ble_eq_true rfl) dM_bringIn_82 (fun H locs Y => ?_)
                  refine lv_iinc (v := (nI (i32 + 1))) (lv' := [(2, .int (nI (i32 + 1))), (3, .int (bI (true))), (0, .ref (a 0)), (1, .int (nI (v)))]) hx hb dM_bringIn_85 hl (k := 3) rfl (nI_1 _) (by decide) rfl (fun ls hl => ?_)
                  refine lv_goto (tgt := 32) hx hb dM_bringIn_88 (by decide) ?_
                  exact ih32 (i32 + 1) (m_unmark i32 σ32) (by omega) (by omega) (by show m_bi1 v i32 (fldN (m_bi1 v) (uM_US (uM_ST (m_bi0 s) v (⟨1, by omega⟩)) v false) i32) = _; rw [eσ32]; unfold m_bi1; first | exact if_pos ⟨(by first | exact Or.inl h40 | exact Or.inr h49), h69, h77⟩ | exact if_neg (fun z => h69 z.2.1) | exact if_neg (fun z => h77 z.2.2) | exact if_neg (fun z => z.1.elim h40 (fun y => by rw [h49] at y; cases y))) _ _ _ Y (lv_sub hl [2, 3, 0] rfl)
    exact loop32 (8 + 1) 0 ((uM_US (uM_ST (m_bi0 s) v (⟨1, by omega⟩)) v false)) (by omega) (by omega) (fldN_zero) _ _ _ Y (lv_sub hl [1, 2, 0] rfl)
set_option maxHeartbeats 1000000 in
set_option maxRecDepth 100000 in
theorem tM_touch (l : Launch) (g : GG) (a : Nat → Nat) (ha : apM a) (s : MS) (v : Nat) (hv : v < 8) (hst : (gM_ST s v).val = 2 → m_in s = (gM_BU s).val → m_stops (m_fi s) (-1)) : Cv l g (wldM g a) (adM a) yM_touch kM_touch ({ frames := 3, cells := 0, slots := 0, locals := 71 }) [.ref (a 0), .int (nI (v))] s (m_touch v s) := by
  have hD := wldM_D (g := g) ha
  refine Cv.of (own := RM) (cc := cM_touch) (nL := 2) hD (by decide) rfl (Nat.le_of_ble_eq_true rfl) ?_
  intro p e S m args below meth c Q X ret H locs ls Y hl
  have hx := X.1
  have hb := X.2.1
  have hl : lv_has ls 2 [(0, .ref (a 0)), (1, .int (nI (v)))] := hl
  refine lv_aload_n hx hb dM_touch_0 rfl (lv_at hl 0 rfl) ?_
  refine rM_ST X Y dM_touch_1 ?_
  refine lv_iload_n hx hb dM_touch_4 rfl (lv_at hl 1 rfl) ?_
  refine lM_ST X Y (k := v) (by omega) dM_touch_5 ?_
  have hq1 := (gM_ST s v).isLt
  refine lv_iconst (v := (nI (2))) hx hb dM_touch_6 (by decide) ?_
  refine bn_ne (tgt := 25) hx hb dM_touch_7 (by decide) (by omega) (by omega) (fun h7 => ?_) (fun h7 => ?_)
  · skip
    refine lv_aload_n hx hb dM_touch_25 rfl (lv_at hl 0 rfl) ?_
    refine rM_US X Y dM_touch_26 ?_
    refine lv_iload_n hx hb dM_touch_29 rfl (lv_at hl 1 rfl) ?_
    refine lv_iconst (v := (nI (1))) hx hb dM_touch_30 (by decide) ?_
    refine sM_US X Y (k := v) true (by decide) (by omega) dM_touch_31 (fun H locs Y => ?_)
    have E : uM_US s v true = m_touch v s := by simp [m_touch, m_fi, h7]
    rw [E] at Y
    exact ret _ _ _ _ Y dM_touch_32
  · skip
    have hst' : m_in (uM_FA s (gM_FA s + nI 1)) = (gM_BU (uM_FA s (gM_FA s + nI 1))).val → m_stops (uM_FA s (gM_FA s + nI 1)) (-1) := hst h7
    refine lv_aload_n hx hb dM_touch_10 rfl (lv_at hl 0 rfl) ?_
    refine lv_dup hx hb dM_touch_11 rfl ?_
    refine rM_FA X Y dM_touch_12 ?_
    refine lv_iconst (v := (nI (1))) hx hb dM_touch_15 (by decide) ?_
    refine lv_iadd hx hb dM_touch_16 ?_
    refine pM_FA X Y (((gM_FA s) + (nI (1)))) rfl dM_touch_17 (fun H locs Y => ?_)
    refine lv_aload_n hx hb dM_touch_20 rfl (lv_at hl 0 rfl) ?_
    refine lv_iload_n hx hb dM_touch_21 rfl (lv_at hl 1 rfl) ?_
    refine cl_vv (na := 1) (rest := []) X hD Y (tM_bringIn l g a ha (uM_FA s (((gM_FA s) + (nI (1))))) v (by omega) (by assumption)) gM_M_bringIn (by decide +kernel) rfl rfl rfl ⟨rfl, rfl⟩ ⟨Nat.le_of_ble_eq_true rfl, Nat.le_of_ble_eq_true rfl⟩ ⟨Nat.zero_le _, Nat.zero_le _⟩ hl.1 rfl (Nat.le_of_ble_eq_true rfl) dM_touch_22 (fun H locs Y => ?_)
    refine lv_aload_n hx hb dM_touch_25 rfl (lv_at hl 0 rfl) ?_
    refine rM_US X Y dM_touch_26 ?_
    refine lv_iload_n hx hb dM_touch_29 rfl (lv_at hl 1 rfl) ?_
    refine lv_iconst (v := (nI (1))) hx hb dM_touch_30 (by decide) ?_
    refine sM_US X Y (k := v) true (by decide) (by omega) dM_touch_31 (fun H locs Y => ?_)
    have E : uM_US (m_bringIn v (uM_FA s (((gM_FA s) + (nI (1)))))) v true = m_touch v s := by simp [m_touch, m_fi, h7]
    rw [E] at Y
    exact ret _ _ _ _ Y dM_touch_32
set_option maxHeartbeats 1000000 in
set_option maxRecDepth 100000 in
theorem tM_shrink (l : Launch) (g : GG) (a : Nat → Nat) (ha : apM a) (s : MS) (sp : Int32) (hsh : m_shr sp s) : Ci l g (wldM g a) (adM a) yM_shrink kM_shrink ({ frames := 2, cells := 0, slots := 0, locals := 45 }) [.ref (a 0), .int (sp)] s (nI (m_byn s)) (m_shrink sp s) := by
  have hD := wldM_D (g := g) ha
  refine Ci.of (own := RM) (cc := cM_shrink) (nL := 3) hD (by decide) rfl (Nat.le_of_ble_eq_true rfl) ?_
  intro p e S m args below meth c Q X ret H locs ls Y hl
  have hx := X.1
  have hb := X.2.1
  have hl : lv_has ls 3 [(0, .ref (a 0)), (1, .int (sp))] := hl
  refine lv_iconst (v := (nI (0))) hx hb dM_shrink_0 (by decide) ?_
  refine lv_istore_n (lv' := [(2, .int (nI (0))), (0, .ref (a 0)), (1, .int (sp))]) hx hb dM_shrink_1 rfl hl (by decide) rfl (fun ls hl => ?_)
  have loop2 : ∀ (n2 i2 : Nat) (σ2 : MS), i2 ≤ m_byn s → m_byn s < i2 + n2 → (fldN (m_by1 sp) s i2 = σ2) → ∀ (H : Heap) (locs : List Loc) (ls : Array Slot), Yw g (wldM g a) (adM a) S H locs σ2 → lv_has ls 3 [(0, .ref (a 0)), (1, .int (sp)), (2, .int (nI (i2)))] → W p l e ({ frames := 2, cells := 0, slots := 0, locals := 45 }) S m args below meth c H locs 0 0 Q (F0 m 2 ls []) := by
    intro n2
    induction n2 with
    | zero =>
      intro i2 σ2 b1 b2
      exact absurd b2 (by omega)
    | succ n2 ih2 =>
      intro i2 σ2 hi2 hn2 eσ2 H locs ls Y hl
      have hsi := hsh i2 hi2
      rw [eσ2] at hsi
      obtain ⟨hs1, hs2, hs3⟩ := hsi
      have hby : m_byn s = m_in s - (gM_BU s).val := rfl
      refine lv_aload_n hx hb dM_shrink_2 rfl (lv_at hl 0 rfl) ?_
      refine cl_vi (na := 0) (rest := []) X hD Y (tM_pagesIn l g a ha σ2  ) gM_M_pagesIn (by decide +kernel) rfl rfl rfl ⟨rfl, rfl⟩ ⟨Nat.le_of_ble_eq_true rfl, Nat.le_of_ble_eq_true rfl⟩ ⟨Nat.zero_le _, Nat.zero_le _⟩ hl.1 rfl (Nat.le_of_ble_eq_true rfl) dM_shrink_3 (fun H locs Y => ?_)
      have hf1 := m_in_le σ2
      refine lv_aload_n hx hb dM_shrink_6 rfl (lv_at hl 0 rfl) ?_
      refine rM_BU X Y dM_shrink_7 ?_
      have hq2 := (gM_BU σ2).isLt
      refine bn_le (tgt := 24) hx hb dM_shrink_10 (by decide) (by omega) (by omega) (fun h10 => ?_) (fun h10 => ?_)
      · skip
        obtain rfl : i2 = m_byn s := by omega
        subst eσ2
        refine lv_iload_n hx hb dM_shrink_24 rfl (lv_at hl 2 rfl) ?_
        have E : (fldN (m_by1 sp) s (m_byn s)) = m_shrink sp s := rfl
        rw [E] at Y
        exact ret _ _ _ _ _ Y (rfl) dM_shrink_25
      · skip
        have hs4 := hs3 (by omega)
        refine lv_aload_n hx hb dM_shrink_13 rfl (lv_at hl 0 rfl) ?_
        refine lv_iload_n hx hb dM_shrink_14 rfl (lv_at hl 1 rfl) ?_
        refine cl_vv (na := 1) (rest := []) X hD Y (tM_putOutOne l g a ha σ2 ((sp)) (by assumption)) gM_M_putOutOne (by decide +kernel) rfl rfl rfl ⟨rfl, rfl⟩ ⟨Nat.le_of_ble_eq_true rfl, Nat.le_of_ble_eq_true rfl⟩ ⟨Nat.zero_le _, Nat.zero_le _⟩ hl.1 rfl (Nat.le_of_ble_eq_true rfl) dM_shrink_15 (fun H locs Y => ?_)
        refine lv_iinc (v := (nI (i2 + 1))) (lv' := [(2, .int (nI (i2 + 1))), (0, .ref (a 0)), (1, .int (sp))]) hx hb dM_shrink_18 hl (k := 2) rfl (nI_1 _) (by decide) rfl (fun ls hl => ?_)
        refine lv_goto (tgt := 2) hx hb dM_shrink_21 (by decide) ?_
        exact ih2 (i2 + 1) (m_one ((sp)) σ2) (by omega) (by omega) (by show m_by1 sp i2 (fldN (m_by1 sp) s i2) = _; rw [eσ2]; simp [m_by1, h10]) _ _ _ Y (lv_sub hl [1, 2, 0] rfl)
  exact loop2 ((m_byn s) + 1) 0 s (by omega) (by omega) (fldN_zero) _ _ _ Y (lv_sub hl [1, 2, 0] rfl)
set_option maxHeartbeats 1000000 in
set_option maxRecDepth 100000 in
theorem tM_held (l : Launch) (g : GG) (a : Nat → Nat) (ha : apM a) (s : MS) (q : Nat) (hq : q < 32) : Ci l g (wldM g a) (adM a) yM_held kM_held ({ frames := 0, cells := 0, slots := 0, locals := 0 }) [.ref (a 0), .int (nI (q))] s (bI (m_held s q)) s := by
  have hD := wldM_D (g := g) ha
  refine Ci.ofZ (own := RM) (cc := cM_held) (nL := 4) hD (by decide) rfl (Nat.le_of_ble_eq_true rfl) ?_
  intro p e S m args below meth c Q X ret H locs ls Y hl
  have hx := X.1
  have hb := X.2.1
  have hl : lv_has ls 4 [(0, .ref (a 0)), (1, .int (nI (q)))] := hl
  refine lv_aload_n hx hb dM_held_0 rfl (lv_at hl 0 rfl) ?_
  refine rM_MK X Y dM_held_1 ?_
  refine lv_iload_n hx hb dM_held_4 rfl (lv_at hl 1 rfl) ?_
  refine lM_MK X Y (k := q) (by omega) dM_held_5 ?_
  refine lv_istore_n (lv' := [(2, .int (bI (gM_MK s q))), (0, .ref (a 0)), (1, .int (nI (q)))]) hx hb dM_held_6 rfl hl (by decide) rfl (fun ls hl => ?_)
  refine lv_iconst (v := (nI (0))) hx hb dM_held_7 (by decide) ?_
  refine lv_istore_n (lv' := [(3, .int (nI (0))), (2, .int (bI (gM_MK s q))), (0, .ref (a 0)), (1, .int (nI (q)))]) hx hb dM_held_8 rfl hl (by decide) rfl (fun ls hl => ?_)
  have loop9 : ∀ (n9 i9 : Nat) (b9 : Bool), i9 ≤ 4 → 4 < i9 + n9 → ((gM_MK s q || anyN (m_h1 s q) i9) = b9) → ∀ (H : Heap) (locs : List Loc) (ls : Array Slot), Yw g (wldM g a) (adM a) S H locs s → lv_has ls 4 [(0, .ref (a 0)), (1, .int (nI (q))), (2, .int (bI (b9))), (3, .int (nI (i9)))] → W p l e ({ frames := 0, cells := 0, slots := 0, locals := 0 }) S m args below meth c H locs 0 0 Q (F0 m 9 ls []) := by
    intro n9
    induction n9 with
    | zero =>
      intro i9 b9 b1 b2
      exact absurd b2 (by omega)
    | succ n9 ih9 =>
      intro i9 b9 hi9 hn9 eb9 H locs ls Y hl
      refine lv_iload_n hx hb dM_held_9 rfl (lv_at hl 3 rfl) ?_
      refine lv_iconst (v := (nI (4))) hx hb dM_held_10 (by decide) ?_
      refine bn_ge (tgt := 40) hx hb dM_held_11 (by decide) (by omega) (by omega) (fun h11 => ?_) (fun h11 => ?_)
      · skip
        obtain rfl : i9 = 4 := by omega
        subst eb9
        refine lv_iconst (v := (nI (0))) hx hb dM_held_40 (by decide) ?_
        refine lv_istore_n (lv' := [(3, .int (nI (0))), (0, .ref (a 0)), (1, .int (nI (q))), (2, .int (bI ((gM_MK s q || anyN (m_h1 s q) 4))))]) hx hb dM_held_41 rfl hl (by decide) rfl (fun ls hl => ?_)
        have loop42 : ∀ (n42 i42 : Nat) (b42 : Bool), i42 ≤ 64 → 64 < i42 + n42 → (((gM_MK s q || anyN (m_h1 s q) 4) || anyN (m_h2 s q) i42) = b42) → ∀ (H : Heap) (locs : List Loc) (ls : Array Slot), Yw g (wldM g a) (adM a) S H locs s → lv_has ls 4 [(0, .ref (a 0)), (1, .int (nI (q))), (2, .int (bI (b42))), (3, .int (nI (i42)))] → W p l e ({ frames := 0, cells := 0, slots := 0, locals := 0 }) S m args below meth c H locs 0 0 Q (F0 m 42 ls []) := by
          intro n42
          induction n42 with
          | zero =>
            intro i42 b42 b1 b2
            exact absurd b2 (by omega)
          | succ n42 ih42 =>
            intro i42 b42 hi42 hn42 eb42 H locs ls Y hl
            refine lv_iload_n hx hb dM_held_42 rfl (lv_at hl 3 rfl) ?_
            refine lv_bipush (v := (nI (64))) hx hb dM_held_43 (by decide) ?_
            refine bn_ge (tgt := 85) hx hb dM_held_45 (by decide) (by omega) (by omega) (fun h45 => ?_) (fun h45 => ?_)
            · skip
              obtain rfl : i42 = 64 := by omega
              subst eb42
              refine lv_iload_n hx hb dM_held_85 rfl (lv_at hl 2 rfl) ?_
              exact ret _ _ _ _ _ Y (rfl) dM_held_86
            · skip
              refine lv_iload_n hx hb dM_held_48 rfl (lv_at hl 2 rfl) ?_
              refine bb_ne (tgt := 73) hx hb dM_held_49 (by decide) (fun h49 => ?_) (fun h49 => ?_)
              · skip
                refine lv_iconst (v := (nI (1))) hx hb dM_held_73 (by decide) ?_
                refine lv_goto (tgt := 78) hx hb dM_held_74 (by decide) ?_
                refine bn_top (y := (bI (true))) (by decide) ?_
                refine lv_istore_n (lv' := [(2, .int (bI (true))), (0, .ref (a 0)), (1, .int (nI (q))), (3, .int (nI (i42)))]) hx hb dM_held_78 rfl hl (by decide) rfl (fun ls hl => ?_)
                refine lv_iinc (v := (nI (i42 + 1))) (lv' := [(3, .int (nI (i42 + 1))), (2, .int (bI (true))), (0, .ref (a 0)), (1, .int (nI (q)))]) hx hb dM_held_79 hl (k := 3) rfl (nI_1 _) (by decide) rfl (fun ls hl => ?_)
                refine lv_goto (tgt := 42) hx hb dM_held_82 (by decide) ?_
                exact ih42 (i42 + 1) true (by omega) (by omega) (by show ((gM_MK s q || anyN (m_h1 s q) 4) || (anyN (m_h2 s q) i42 || m_h2 s q i42)) = _; rw [← Bool.or_assoc, eb42]; simp [m_h2, h11, h45, h49]) _ _ _ Y (lv_sub hl [2, 3, 1, 0] rfl)
              · skip
                refine lv_aload_n hx hb dM_held_52 rfl (lv_at hl 0 rfl) ?_
                refine rM_KP X Y dM_held_53 ?_
                refine lv_iload_n hx hb dM_held_56 rfl (lv_at hl 3 rfl) ?_
                refine lv_iconst (v := (nI (2))) hx hb dM_held_57 (by decide) ?_
                refine bn_div hx hb dM_held_58 (by omega) (by omega) (by omega) ?_
                refine lM_KP X Y (k := i42 / 2) (by omega) dM_held_59 ?_
                refine bb_eq (tgt := 77) hx hb dM_held_60 (by decide) (fun h60 => ?_) (fun h60 => ?_)
                · skip
                  refine lv_iconst (v := (nI (0))) hx hb dM_held_77 (by decide) ?_
                  refine bn_top (y := (bI (false))) (by decide) ?_
                  refine lv_istore_n (lv' := [(2, .int (bI (false))), (0, .ref (a 0)), (1, .int (nI (q))), (3, .int (nI (i42)))]) hx hb dM_held_78 rfl hl (by decide) rfl (fun ls hl => ?_)
                  refine lv_iinc (v := (nI (i42 + 1))) (lv' := [(3, .int (nI (i42 + 1))), (2, .int (bI (false))), (0, .ref (a 0)), (1, .int (nI (q)))]) hx hb dM_held_79 hl (k := 3) rfl (nI_1 _) (by decide) rfl (fun ls hl => ?_)
                  refine lv_goto (tgt := 42) hx hb dM_held_82 (by decide) ?_
                  exact ih42 (i42 + 1) false (by omega) (by omega) (by show ((gM_MK s q || anyN (m_h1 s q) 4) || (anyN (m_h2 s q) i42 || m_h2 s q i42)) = _; rw [← Bool.or_assoc, eb42]; simp [m_h2, h11, h45, h49, h60]) _ _ _ Y (lv_sub hl [2, 3, 1, 0] rfl)
                · skip
                  refine lv_aload_n hx hb dM_held_63 rfl (lv_at hl 0 rfl) ?_
                  refine rM_FD X Y dM_held_64 ?_
                  refine lv_iload_n hx hb dM_held_67 rfl (lv_at hl 3 rfl) ?_
                  refine lM_FD X Y (k := i42) (by omega) dM_held_68 ?_
                  refine lv_iload_n hx hb dM_held_69 rfl (lv_at hl 1 rfl) ?_
                  refine lv_icmp_ne (tgt := 77) hx hb dM_held_70 (by decide) (fun h70 => ?_) (fun h70 => ?_)
                  · skip
                    refine lv_iconst (v := (nI (0))) hx hb dM_held_77 (by decide) ?_
                    refine bn_top (y := (bI (false))) (by decide) ?_
                    refine lv_istore_n (lv' := [(2, .int (bI (false))), (0, .ref (a 0)), (1, .int (nI (q))), (3, .int (nI (i42)))]) hx hb dM_held_78 rfl hl (by decide) rfl (fun ls hl => ?_)
                    refine lv_iinc (v := (nI (i42 + 1))) (lv' := [(3, .int (nI (i42 + 1))), (2, .int (bI (false))), (0, .ref (a 0)), (1, .int (nI (q)))]) hx hb dM_held_79 hl (k := 3) rfl (nI_1 _) (by decide) rfl (fun ls hl => ?_)
                    refine lv_goto (tgt := 42) hx hb dM_held_82 (by decide) ?_
                    exact ih42 (i42 + 1) false (by omega) (by omega) (by show ((gM_MK s q || anyN (m_h1 s q) 4) || (anyN (m_h2 s q) i42 || m_h2 s q i42)) = _; rw [← Bool.or_assoc, eb42]; simp [m_h2, h11, h45, h49, h60, h70]) _ _ _ Y (lv_sub hl [2, 3, 1, 0] rfl)
                  · skip
                    refine lv_iconst (v := (nI (1))) hx hb dM_held_73 (by decide) ?_
                    refine lv_goto (tgt := 78) hx hb dM_held_74 (by decide) ?_
                    refine bn_top (y := (bI (true))) (by decide) ?_
                    refine lv_istore_n (lv' := [(2, .int (bI (true))), (0, .ref (a 0)), (1, .int (nI (q))), (3, .int (nI (i42)))]) hx hb dM_held_78 rfl hl (by decide) rfl (fun ls hl => ?_)
                    refine lv_iinc (v := (nI (i42 + 1))) (lv' := [(3, .int (nI (i42 + 1))), (2, .int (bI (true))), (0, .ref (a 0)), (1, .int (nI (q)))]) hx hb dM_held_79 hl (k := 3) rfl (nI_1 _) (by decide) rfl (fun ls hl => ?_)
                    refine lv_goto (tgt := 42) hx hb dM_held_82 (by decide) ?_
                    exact ih42 (i42 + 1) true (by omega) (by omega) (by show ((gM_MK s q || anyN (m_h1 s q) 4) || (anyN (m_h2 s q) i42 || m_h2 s q i42)) = _; rw [← Bool.or_assoc, eb42]; simp [m_h2, h11, h45, h49, h60, h70]) _ _ _ Y (lv_sub hl [2, 3, 1, 0] rfl)
        exact loop42 (64 + 1) 0 (gM_MK s q || anyN (m_h1 s q) 4) (by omega) (by omega) (by simp [anyN]) _ _ _ Y (lv_sub hl [1, 2, 3, 0] rfl)
      · skip
        refine lv_iload_n hx hb dM_held_14 rfl (lv_at hl 2 rfl) ?_
        refine bb_ne (tgt := 28) hx hb dM_held_15 (by decide) (fun h15 => ?_) (fun h15 => ?_)
        · skip
          refine lv_iconst (v := (nI (1))) hx hb dM_held_28 (by decide) ?_
          refine lv_goto (tgt := 33) hx hb dM_held_29 (by decide) ?_
          refine bn_top (y := (bI (true))) (by decide) ?_
          refine lv_istore_n (lv' := [(2, .int (bI (true))), (0, .ref (a 0)), (1, .int (nI (q))), (3, .int (nI (i9)))]) hx hb dM_held_33 rfl hl (by decide) rfl (fun ls hl => ?_)
          refine lv_iinc (v := (nI (i9 + 1))) (lv' := [(3, .int (nI (i9 + 1))), (2, .int (bI (true))), (0, .ref (a 0)), (1, .int (nI (q)))]) hx hb dM_held_34 hl (k := 3) rfl (nI_1 _) (by decide) rfl (fun ls hl => ?_)
          refine lv_goto (tgt := 9) hx hb dM_held_37 (by decide) ?_
          exact ih9 (i9 + 1) true (by omega) (by omega) (by show (gM_MK s q || (anyN (m_h1 s q) i9 || m_h1 s q i9)) = _; rw [← Bool.or_assoc, eb9]; simp [m_h1, h11, h15]) _ _ _ Y (lv_sub hl [2, 3, 1, 0] rfl)
        · skip
          refine lv_aload_n hx hb dM_held_18 rfl (lv_at hl 0 rfl) ?_
          refine rM_RG X Y dM_held_19 ?_
          refine lv_iload_n hx hb dM_held_22 rfl (lv_at hl 3 rfl) ?_
          refine lM_RG X Y (k := i9) (by omega) dM_held_23 ?_
          refine lv_iload_n hx hb dM_held_24 rfl (lv_at hl 1 rfl) ?_
          refine lv_icmp_ne (tgt := 32) hx hb dM_held_25 (by decide) (fun h25 => ?_) (fun h25 => ?_)
          · skip
            refine lv_iconst (v := (nI (0))) hx hb dM_held_32 (by decide) ?_
            refine bn_top (y := (bI (false))) (by decide) ?_
            refine lv_istore_n (lv' := [(2, .int (bI (false))), (0, .ref (a 0)), (1, .int (nI (q))), (3, .int (nI (i9)))]) hx hb dM_held_33 rfl hl (by decide) rfl (fun ls hl => ?_)
            refine lv_iinc (v := (nI (i9 + 1))) (lv' := [(3, .int (nI (i9 + 1))), (2, .int (bI (false))), (0, .ref (a 0)), (1, .int (nI (q)))]) hx hb dM_held_34 hl (k := 3) rfl (nI_1 _) (by decide) rfl (fun ls hl => ?_)
            refine lv_goto (tgt := 9) hx hb dM_held_37 (by decide) ?_
            exact ih9 (i9 + 1) false (by omega) (by omega) (by show (gM_MK s q || (anyN (m_h1 s q) i9 || m_h1 s q i9)) = _; rw [← Bool.or_assoc, eb9]; simp [m_h1, h11, h15, h25]) _ _ _ Y (lv_sub hl [2, 3, 1, 0] rfl)
          · skip
            refine lv_iconst (v := (nI (1))) hx hb dM_held_28 (by decide) ?_
            refine lv_goto (tgt := 33) hx hb dM_held_29 (by decide) ?_
            refine bn_top (y := (bI (true))) (by decide) ?_
            refine lv_istore_n (lv' := [(2, .int (bI (true))), (0, .ref (a 0)), (1, .int (nI (q))), (3, .int (nI (i9)))]) hx hb dM_held_33 rfl hl (by decide) rfl (fun ls hl => ?_)
            refine lv_iinc (v := (nI (i9 + 1))) (lv' := [(3, .int (nI (i9 + 1))), (2, .int (bI (true))), (0, .ref (a 0)), (1, .int (nI (q)))]) hx hb dM_held_34 hl (k := 3) rfl (nI_1 _) (by decide) rfl (fun ls hl => ?_)
            refine lv_goto (tgt := 9) hx hb dM_held_37 (by decide) ?_
            exact ih9 (i9 + 1) true (by omega) (by omega) (by show (gM_MK s q || (anyN (m_h1 s q) i9 || m_h1 s q i9)) = _; rw [← Bool.or_assoc, eb9]; simp [m_h1, h11, h15, h25]) _ _ _ Y (lv_sub hl [2, 3, 1, 0] rfl)
  exact loop9 (4 + 1) 0 (gM_MK s q) (by omega) (by omega) (by simp [anyN]) _ _ _ Y (lv_sub hl [2, 3, 1, 0] rfl)
