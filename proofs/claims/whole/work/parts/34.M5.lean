/-! written by wip/whole/specM.py -/
set_option maxHeartbeats 1000000 in
set_option maxRecDepth 100000 in
theorem tM_thrown (l : Launch) (g : GG) (a : Nat → Nat) (ha : apM a) (s : MS)  : Ci l g (wldM g a) (adM a) yM_thrown kM_thrown ({ frames := 0, cells := 0, slots := 0, locals := 0 }) [.ref (a 0)] s (gM_TR s) s := by
  have hD := wldM_D (g := g) ha
  refine Ci.of (own := RM) (cc := cM_thrown) (nL := 1) hD (by decide) rfl (Nat.le_of_ble_eq_true rfl) ?_
  intro p e S m args below meth c Q X ret H locs ls Y hl
  have hx := X.1
  have hb := X.2.1
  have hl : lv_has ls 1 [(0, .ref (a 0))] := hl
  refine lv_aload_n hx hb dM_thrown_0 rfl (lv_at hl 0 rfl) ?_
  refine rM_TR X Y dM_thrown_1 ?_
  exact ret _ _ _ _ _ Y (rfl) dM_thrown_4
set_option maxHeartbeats 1000000 in
set_option maxRecDepth 100000 in
theorem tM_collect (l : Launch) (g : GG) (a : Nat → Nat) (ha : apM a) (s : MS)  : Ci l g (wldM g a) (adM a) yM_collect kM_collect ({ frames := 2, cells := 0, slots := 0, locals := 48 }) [.ref (a 0)] s (nI (m_gone (m_t0 s))) (m_within (m_t0 s)) := by
  have hD := wldM_D (g := g) ha
  refine Ci.of (own := RM) (cc := cM_collect) (nL := 1) hD (by decide) rfl (Nat.le_of_ble_eq_true rfl) ?_
  intro p e S m args below meth c Q X ret H locs ls Y hl
  have hx := X.1
  have hb := X.2.1
  have hl : lv_has ls 1 [(0, .ref (a 0))] := hl
  refine lv_aload_n hx hb dM_collect_0 rfl (lv_at hl 0 rfl) ?_
  refine lv_iconst (v := (nI (0))) hx hb dM_collect_1 (by decide) ?_
  refine pM_TR X Y ((nI (0))) rfl dM_collect_2 (fun H locs Y => ?_)
  refine lv_aload_n hx hb dM_collect_5 rfl (lv_at hl 0 rfl) ?_
  refine cl_vi (na := 0) (rest := []) X hD Y (tM_within l g a ha (uM_TR s ((nI (0))))  ) gM_M_within (by decide +kernel) rfl rfl rfl ⟨rfl, rfl⟩ ⟨Nat.le_of_ble_eq_true rfl, Nat.le_of_ble_eq_true rfl⟩ ⟨Nat.zero_le _, Nat.zero_le _⟩ hl.1 rfl (Nat.le_of_ble_eq_true rfl) dM_collect_6 (fun H locs Y => ?_)
  have E : m_within (uM_TR s ((nI (0)))) = m_within (m_t0 s) := rfl
  rw [E] at Y
  exact ret _ _ _ _ _ Y (rfl) dM_collect_9
set_option maxHeartbeats 1000000 in
set_option maxRecDepth 100000 in
theorem tM_thorough (l : Launch) (g : GG) (a : Nat → Nat) (ha : apM a) (s : MS) (hsh : m_shr (-1) (m_all (m_t0 s))) : Ci l g (wldM g a) (adM a) yM_thorough kM_thorough ({ frames := 3, cells := 0, slots := 0, locals := 69 }) [.ref (a 0)] s (nI (m_gone (m_all0 (m_t0 s)))) (m_shrink (-1) (m_all (m_t0 s))) := by
  have hD := wldM_D (g := g) ha
  refine Ci.of (own := RM) (cc := cM_thorough) (nL := 2) hD (by decide) rfl (Nat.le_of_ble_eq_true rfl) ?_
  intro p e S m args below meth c Q X ret H locs ls Y hl
  have hx := X.1
  have hb := X.2.1
  have hl : lv_has ls 2 [(0, .ref (a 0))] := hl
  refine lv_aload_n hx hb dM_thorough_0 rfl (lv_at hl 0 rfl) ?_
  refine lv_iconst (v := (nI (0))) hx hb dM_thorough_1 (by decide) ?_
  refine pM_TR X Y ((nI (0))) rfl dM_thorough_2 (fun H locs Y => ?_)
  refine lv_aload_n hx hb dM_thorough_5 rfl (lv_at hl 0 rfl) ?_
  refine cl_vi (na := 0) (rest := []) X hD Y (tM_all l g a ha (uM_TR s ((nI (0))))  ) gM_M_all (by decide +kernel) rfl rfl rfl ⟨rfl, rfl⟩ ⟨Nat.le_of_ble_eq_true rfl, Nat.le_of_ble_eq_true rfl⟩ ⟨Nat.zero_le _, Nat.zero_le _⟩ hl.1 rfl (Nat.le_of_ble_eq_true rfl) dM_thorough_6 (fun H locs Y => ?_)
  refine lv_istore_n (lv' := [(1, .int (nI (m_gone (m_all0 (uM_TR s ((nI (0)))))))), (0, .ref (a 0))]) hx hb dM_thorough_9 rfl hl (by decide) rfl (fun ls hl => ?_)
  refine lv_aload_n hx hb dM_thorough_10 rfl (lv_at hl 1 rfl) ?_
  refine lv_iconst (v := (-1)) hx hb dM_thorough_11 (by decide) ?_
  refine cl_vi (na := 1) (rest := []) X hD Y (tM_shrink l g a ha (m_all (uM_TR s ((nI (0))))) ((-1)) (by assumption)) gM_M_shrink (by decide +kernel) rfl rfl rfl ⟨rfl, rfl⟩ ⟨Nat.le_of_ble_eq_true rfl, Nat.le_of_ble_eq_true rfl⟩ ⟨Nat.zero_le _, Nat.zero_le _⟩ hl.1 rfl (Nat.le_of_ble_eq_true rfl) dM_thorough_12 (fun H locs Y => ?_)
  refine lv_pop hx hb dM_thorough_15 rfl ?_
  refine lv_iload_n hx hb dM_thorough_16 rfl (lv_at hl 0 rfl) ?_
  have E : m_shrink ((-1)) (m_all (uM_TR s ((nI (0))))) = m_shrink (-1) (m_all (m_t0 s)) := rfl
  rw [E] at Y
  exact ret _ _ _ _ _ Y (rfl) dM_thorough_17
set_option maxHeartbeats 1000000 in
set_option maxRecDepth 100000 in
theorem tM_faults (l : Launch) (g : GG) (a : Nat → Nat) (ha : apM a) (s : MS)  : Ci l g (wldM g a) (adM a) yM_faults kM_faults ({ frames := 0, cells := 0, slots := 0, locals := 0 }) [.ref (a 0)] s (gM_FA s) (m_t0 s) := by
  have hD := wldM_D (g := g) ha
  refine Ci.of (own := RM) (cc := cM_faults) (nL := 1) hD (by decide) rfl (Nat.le_of_ble_eq_true rfl) ?_
  intro p e S m args below meth c Q X ret H locs ls Y hl
  have hx := X.1
  have hb := X.2.1
  have hl : lv_has ls 1 [(0, .ref (a 0))] := hl
  refine lv_aload_n hx hb dM_faults_0 rfl (lv_at hl 0 rfl) ?_
  refine lv_iconst (v := (nI (0))) hx hb dM_faults_1 (by decide) ?_
  refine pM_TR X Y ((nI (0))) rfl dM_faults_2 (fun H locs Y => ?_)
  refine lv_aload_n hx hb dM_faults_5 rfl (lv_at hl 0 rfl) ?_
  refine rM_FA X Y dM_faults_6 ?_
  have E : uM_TR s ((nI (0))) = m_t0 s := rfl
  rw [E] at Y
  exact ret _ _ _ _ _ Y (rfl) dM_faults_9
set_option maxHeartbeats 1000000 in
set_option maxRecDepth 100000 in
theorem tM_hand (l : Launch) (g : GG) (a : Nat → Nat) (ha : apM a) (s : MS)  : Ci l g (wldM g a) (adM a) yM_hand kM_hand ({ frames := 0, cells := 0, slots := 0, locals := 0 }) [.ref (a 0)] s (nI ((gM_HA s).val)) (m_t0 s) := by
  have hD := wldM_D (g := g) ha
  refine Ci.of (own := RM) (cc := cM_hand) (nL := 1) hD (by decide) rfl (Nat.le_of_ble_eq_true rfl) ?_
  intro p e S m args below meth c Q X ret H locs ls Y hl
  have hx := X.1
  have hb := X.2.1
  have hl : lv_has ls 1 [(0, .ref (a 0))] := hl
  refine lv_aload_n hx hb dM_hand_0 rfl (lv_at hl 0 rfl) ?_
  refine lv_iconst (v := (nI (0))) hx hb dM_hand_1 (by decide) ?_
  refine pM_TR X Y ((nI (0))) rfl dM_hand_2 (fun H locs Y => ?_)
  refine lv_aload_n hx hb dM_hand_5 rfl (lv_at hl 0 rfl) ?_
  refine rM_HA X Y dM_hand_6 ?_
  have hq1 := (gM_HA (uM_TR s ((nI (0))))).isLt
  have E : uM_TR s ((nI (0))) = m_t0 s := rfl
  rw [E] at Y
  exact ret _ _ _ _ _ Y (rfl) dM_hand_9
set_option maxHeartbeats 1000000 in
set_option maxRecDepth 100000 in
theorem tM_objects (l : Launch) (g : GG) (a : Nat → Nat) (ha : apM a) (s : MS)  : Ci l g (wldM g a) (adM a) yM_objects kM_objects ({ frames := 0, cells := 0, slots := 0, locals := 0 }) [.ref (a 0)] s (nI (m_objects s)) (m_t0 s) := by
  have hD := wldM_D (g := g) ha
  refine Ci.of (own := RM) (cc := cM_objects) (nL := 3) hD (by decide) rfl (Nat.le_of_ble_eq_true rfl) ?_
  intro p e S m args below meth c Q X ret H locs ls Y hl
  have hx := X.1
  have hb := X.2.1
  have hl : lv_has ls 3 [(0, .ref (a 0))] := hl
  refine lv_aload_n hx hb dM_objects_0 rfl (lv_at hl 0 rfl) ?_
  refine lv_iconst (v := (nI (0))) hx hb dM_objects_1 (by decide) ?_
  refine pM_TR X Y ((nI (0))) rfl dM_objects_2 (fun H locs Y => ?_)
  refine lv_iconst (v := (nI (0))) hx hb dM_objects_5 (by decide) ?_
  refine lv_istore_n (lv' := [(1, .int (nI (0))), (0, .ref (a 0))]) hx hb dM_objects_6 rfl hl (by decide) rfl (fun ls hl => ?_)
  refine lv_iconst (v := (nI (0))) hx hb dM_objects_7 (by decide) ?_
  refine lv_istore_n (lv' := [(2, .int (nI (0))), (1, .int (nI (0))), (0, .ref (a 0))]) hx hb dM_objects_8 rfl hl (by decide) rfl (fun ls hl => ?_)
  have loop9 : ∀ (n9 i9 : Nat) (k9 : Nat), i9 ≤ 32 → 32 < i9 + n9 → (cntN (gM_TH s) i9 = k9) → (k9 ≤ i9) → ∀ (H : Heap) (locs : List Loc) (ls : Array Slot), Yw g (wldM g a) (adM a) S H locs (uM_TR s ((nI (0)))) → lv_has ls 3 [(0, .ref (a 0)), (1, .int (nI (k9))), (2, .int (nI (i9)))] → W p l e ({ frames := 0, cells := 0, slots := 0, locals := 0 }) S m args below meth c H locs 0 0 Q (F0 m 9 ls []) := by
    intro n9
    induction n9 with
    | zero =>
      intro i9 k9 b1 b2
      exact absurd b2 (by omega)
    | succ n9 ih9 =>
      intro i9 k9 hi9 hn9 ek9 hk9 H locs ls Y hl
      refine lv_iload_n hx hb dM_objects_9 rfl (lv_at hl 2 rfl) ?_
      refine lv_bipush (v := (nI (32))) hx hb dM_objects_10 (by decide) ?_
      refine bn_ge (tgt := 38) hx hb dM_objects_12 (by decide) (by omega) (by omega) (fun h12 => ?_) (fun h12 => ?_)
      · skip
        obtain rfl : i9 = 32 := by omega
        subst ek9
        refine lv_iload_n hx hb dM_objects_38 rfl (lv_at hl 1 rfl) ?_
        have E : uM_TR s ((nI (0))) = m_t0 s := rfl
        rw [E] at Y
        exact ret _ _ _ _ _ Y (rfl) dM_objects_39
      · skip
        refine lv_aload_n hx hb dM_objects_15 rfl (lv_at hl 0 rfl) ?_
        refine rM_TH X Y dM_objects_16 ?_
        refine lv_iload_n hx hb dM_objects_19 rfl (lv_at hl 2 rfl) ?_
        refine lM_TH X Y (k := i9) (by omega) dM_objects_20 ?_
        refine bb_eq (tgt := 30) hx hb dM_objects_21 (by decide) (fun h21 => ?_) (fun h21 => ?_)
        · skip
          refine lv_iload_n hx hb dM_objects_30 rfl (lv_at hl 1 rfl) ?_
          refine lv_istore_n (lv' := [(1, .int (nI (k9))), (0, .ref (a 0)), (2, .int (nI (i9)))]) hx hb dM_objects_31 rfl hl (by decide) rfl (fun ls hl => ?_)
          refine lv_iinc (v := (nI (i9 + 1))) (lv' := [(2, .int (nI (i9 + 1))), (1, .int (nI (k9))), (0, .ref (a 0))]) hx hb dM_objects_32 hl (k := 2) rfl (nI_1 _) (by decide) rfl (fun ls hl => ?_)
          refine lv_goto (tgt := 9) hx hb dM_objects_35 (by decide) ?_
          exact ih9 (i9 + 1) k9 (by omega) (by omega) (by show cntN (gM_TH s) i9 + _ = _; rw [ek9]; have hz : gM_TH s i9 = gM_TH (uM_TR s (nI 0)) i9 := rfl; simp [hz, h12, h21]) (by omega) _ _ _ Y (lv_sub hl [2, 1, 0] rfl)
        · skip
          refine lv_iload_n hx hb dM_objects_24 rfl (lv_at hl 1 rfl) ?_
          refine lv_iconst (v := (nI (1))) hx hb dM_objects_25 (by decide) ?_
          refine bn_add hx hb dM_objects_26 ?_
          refine lv_goto (tgt := 31) hx hb dM_objects_27 (by decide) ?_
          refine lv_istore_n (lv' := [(1, .int (nI (k9 + 1))), (0, .ref (a 0)), (2, .int (nI (i9)))]) hx hb dM_objects_31 rfl hl (by decide) rfl (fun ls hl => ?_)
          refine lv_iinc (v := (nI (i9 + 1))) (lv' := [(2, .int (nI (i9 + 1))), (1, .int (nI (k9 + 1))), (0, .ref (a 0))]) hx hb dM_objects_32 hl (k := 2) rfl (nI_1 _) (by decide) rfl (fun ls hl => ?_)
          refine lv_goto (tgt := 9) hx hb dM_objects_35 (by decide) ?_
          exact ih9 (i9 + 1) (k9 + 1) (by omega) (by omega) (by show cntN (gM_TH s) i9 + _ = _; rw [ek9]; have hz : gM_TH s i9 = gM_TH (uM_TR s (nI 0)) i9 := rfl; simp [hz, h12, h21]) (by omega) _ _ _ Y (lv_sub hl [2, 1, 0] rfl)
  exact loop9 (32 + 1) 0 0 (by omega) (by omega) (rfl) (Nat.le_refl 0) _ _ _ Y (lv_sub hl [2, 1, 0] rfl)
