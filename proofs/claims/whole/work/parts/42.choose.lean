/-! the hand: both sides choose the same page; it stops -/
theorem Rel.passes {h : HS} {m : MS} (R : Rel h m) (sp : Int32) : h_passes h sp = m_pass m sp := by
  obtain ⟨r1, r2, r3, r4, r5, r6, r7, r8, r9, r10, r11⟩ := R
  unfold h_passes m_pass
  rw [r4, r5, r8]
theorem m_counted_congr {m m' : MS} (h1 : gM_TH m' = gM_TH m) (h2 : gM_FD m' = gM_FD m) (h3 : gM_ST m' = gM_ST m) (w : Nat) : m_counted m' w = m_counted m w := by
  unfold m_counted
  refine cntN_congr (fun j _ => ?_)
  unfold m_ctb
  rw [m_refers_congr h1 h2, h3]
theorem m_cs1_eq (sp : Int32) (m : MS) (h5 : ∀ v, gM_US m v = true → (gM_ST m v).val = 1) : m_cs1 sp m = m_mv (if nI (gM_HA m).val = sp then m else uM_US m (gM_HA m).val false) := by
  unfold m_cs1
  by_cases q : (gM_ST m (gM_HA m).val).val = 1
  · rw [if_pos q]
  · rw [if_neg q]
    have e : uM_US m (gM_HA m).val false = m := by
      have e1 : va_up (gM_US m) (gM_HA m).val false = gM_US m := by
        funext j
        unfold va_up
        by_cases z : j = (gM_HA m).val
        · rw [if_pos z]
          cases y : gM_US m j with
          | false => rfl
          | true => rw [z] at y; exact absurd (h5 _ y) q
        · rw [if_neg z]
      show (m.1, m.2.1, m.2.2.1, m.2.2.2.1, m.2.2.2.2.1, m.2.2.2.2.2.1, va_up (gM_US m) (gM_HA m).val false, m.2.2.2.2.2.2.2) = m
      rw [e1]; rfl
    rw [e]
    split <;> rfl
theorem Rel.cs1 {h : HS} {m : MS} (R : Rel h m) (I : Inv m) (sp : Int32) : Rel (h_cs1 sp h) (m_cs1 sp m) ∧ Inv (m_cs1 sp m) := by
  obtain ⟨r1, r2, r3, r4, r5, r6, r7, r8, r9, r10, r11⟩ := R
  obtain ⟨j0, j0s, j1, j2, j3, j4, j5, j6, j6b, j7, j8⟩ := I
  rw [m_cs1_eq sp m j5]
  unfold h_cs1 h_mv m_mv
  rw [r8]
  by_cases q : nI (gM_HA m).val = sp
  · rw [if_pos q, if_pos q]
    refine ⟨⟨r1, r2, r3, r4, r5, r6, r7, ?_, r9, r10, r11⟩, j0, j0s, j1, j2, j3, j4, j5, j6, j6b, j7, j8⟩
    show (⟨((gH_HA h).val + 1) % 8, _⟩ : Fin 8) = ⟨((gM_HA m).val + 1) % 8, _⟩
    congr 3 <;> rw [r8]
  · rw [if_neg q, if_neg q]
    refine ⟨⟨r1, r2, r3, r4, ?_, r6, r7, ?_, r9, r10, r11⟩, j0, j0s, j1, j2, j3, j4, ?_, j6, j6b, j7, j8⟩
    · show va_up (gH_US h) (gM_HA m).val false = va_up (gM_US m) (gM_HA m).val false
      rw [r5]
    · show (⟨((gH_HA h).val + 1) % 8, _⟩ : Fin 8) = ⟨((gM_HA m).val + 1) % 8, _⟩
      congr 3 <;> rw [r8]
    · intro v hv
      have hv : va_up (gM_US m) (gM_HA m).val false v = true := hv
      by_cases z : v = (gM_HA m).val
      · rw [z, up_s] at hv; cases hv
      · rw [up_n z] at hv; exact j5 v hv
theorem Rel.chs (sp : Int32) : ∀ (n : Nat) {h : HS} {m : MS}, Rel h m → Inv m → Rel (h_chs sp n h) (m_chs sp n m) ∧ Inv (m_chs sp n m)
  | 0, _, _, R, I => ⟨R, I⟩
  | n + 1, h, m, R, I => by
    unfold h_chs m_chs
    rw [R.passes sp]
    by_cases q : m_pass m sp = true
    · rw [if_pos q, if_pos q]
      obtain ⟨R', I'⟩ := R.cs1 I sp
      exact Rel.chs sp n R' I'
    · rw [if_neg q, if_neg q]; exact ⟨R, I⟩
/-- what the hand leaves as it is -/
def m_fx1 (m m' : MS) : Prop := gM_TH m' = gM_TH m ∧ gM_VA m' = gM_VA m ∧ gM_FD m' = gM_FD m ∧ gM_MK m' = gM_MK m ∧ gM_ST m' = gM_ST m ∧ gM_RG m' = gM_RG m ∧ gM_BU m' = gM_BU m ∧ gM_FA m' = gM_FA m ∧ gM_TR m' = gM_TR m
theorem m_fx1.rf (m : MS) : m_fx1 m m := ⟨rfl, rfl, rfl, rfl, rfl, rfl, rfl, rfl, rfl⟩
theorem m_fx1.tr {a b c : MS} (h : m_fx1 a b) (h2 : m_fx1 b c) : m_fx1 a c := by
  obtain ⟨a1, a2, a3, a4, a5, a6, a7, a8, a9⟩ := h
  obtain ⟨b1, b2, b3, b4, b5, b6, b7, b8, b9⟩ := h2
  exact ⟨b1.trans a1, b2.trans a2, b3.trans a3, b4.trans a4, b5.trans a5, b6.trans a6, b7.trans a7, b8.trans a8, b9.trans a9⟩
theorem m_cs1_fx (sp : Int32) (m : MS) : m_fx1 m (m_cs1 sp m) := by
  unfold m_cs1
  split
  · split
    · exact m_fx1.rf m
    · exact m_fx1.rf m
  · exact m_fx1.rf m
theorem m_chs_fx (sp : Int32) : ∀ (n : Nat) (m : MS), m_fx1 m (m_chs sp n m)
  | 0, m => m_fx1.rf m
  | n + 1, m => by
    unfold m_chs
    split
    · exact (m_cs1_fx sp m).tr (m_chs_fx sp n _)
    · exact m_fx1.rf m
def m_it (sp : Int32) : Nat → MS → MS
  | 0, s => s
  | n + 1, s => m_it sp n (m_cs1 sp s)
theorem m_it_add (sp : Int32) : ∀ (a b : Nat) (s : MS), m_it sp (a + b) s = m_it sp b (m_it sp a s)
  | 0, b, s => by rw [Nat.zero_add]; rfl
  | a + 1, b, s => by
    rw [show a + 1 + b = (a + b) + 1 by omega]
    exact m_it_add sp a b (m_cs1 sp s)
theorem m_cs1_ha (sp : Int32) (m : MS) : (gM_HA (m_cs1 sp m)).val = ((gM_HA m).val + 1) % 8 := by
  unfold m_cs1
  show ((gM_HA (if (gM_ST m (gM_HA m).val).val = 1 then (if nI (gM_HA m).val = sp then m else uM_US m (gM_HA m).val false) else m)).val + 1) % 8 = _
  split
  · split <;> rfl
  · rfl
theorem m_it_ha (sp : Int32) : ∀ (k : Nat) (s : MS), (gM_HA (m_it sp k s)).val = ((gM_HA s).val + k) % 8
  | 0, s => by
    have := (gM_HA s).isLt
    show (gM_HA s).val = _
    omega
  | k + 1, s => by
    show (gM_HA (m_it sp k (m_cs1 sp s))).val = _
    rw [m_it_ha sp k, m_cs1_ha]
    omega
theorem m_it_st (sp : Int32) : ∀ (k : Nat) (s : MS), gM_ST (m_it sp k s) = gM_ST s
  | 0, _ => rfl
  | k + 1, s => by
    show gM_ST (m_it sp k (m_cs1 sp s)) = _
    rw [m_it_st sp k]
    exact (m_cs1_fx sp s).2.2.2.2.1
theorem m_cs1_us (sp : Int32) (s : MS) (u : Nat) (h : gM_US (m_cs1 sp s) u = true) : gM_US s u = true := by
  unfold m_cs1 at h
  have h : gM_US (if (gM_ST s (gM_HA s).val).val = 1 then (if nI (gM_HA s).val = sp then s else uM_US s (gM_HA s).val false) else s) u = true := h
  split at h
  · split at h
    · exact h
    · have h : va_up (gM_US s) (gM_HA s).val false u = true := h
      by_cases z : u = (gM_HA s).val
      · rw [z, up_s] at h; cases h
      · rw [up_n z] at h; exact h
  · exact h
theorem m_it_us (sp : Int32) : ∀ (k : Nat) (s : MS) (u : Nat), gM_US (m_it sp k s) u = true → gM_US s u = true
  | 0, _, _, h => h
  | k + 1, s, u, h => m_cs1_us sp s u (m_it_us sp k (m_cs1 sp s) u h)
theorem m_it_pass (sp : Int32) : ∀ (n : Nat) (s : MS), m_pass (m_chs sp n s) sp = true → ∀ k, k ≤ n → m_pass (m_it sp k s) sp = true
  | 0, s, h, k, hk => by
    have e : k = 0 := by omega
    rw [e]; exact h
  | n + 1, s, h, k, hk => by
    unfold m_chs at h
    by_cases q : m_pass s sp = true
    · rw [if_pos q] at h
      cases k with
      | zero => exact q
      | succ k => exact m_it_pass sp n (m_cs1 sp s) h k (by omega)
    · rw [if_neg q] at h
      exact absurd h q
theorem m_stops_of {m : MS} {sp : Int32} {u : Nat} (hu : u < 8) (hs : (gM_ST m u).val = 1) (hsp : nI u ≠ sp) : m_stops m sp := by
  show m_pass (m_chs sp 16 m) sp = false
  cases hb : m_pass (m_chs sp 16 m) sp with
  | false => rfl
  | true =>
    exfalso
    have hp := m_it_pass sp 16 m hb
    have h0 := (gM_HA m).isLt
    obtain ⟨j, hj, hj2⟩ : ∃ j, j < 8 ∧ ((gM_HA m).val + j) % 8 = u := ⟨(u + 8 - (gM_HA m).val) % 8, by omega, by omega⟩
    have e1 : (gM_HA (m_it sp j m)).val = u := by rw [m_it_ha]; exact hj2
    have c1 : gM_US (m_it sp (j + 1) m) u = false := by
      rw [m_it_add sp j 1 m]
      show gM_US (m_cs1 sp (m_it sp j m)) u = false
      unfold m_cs1
      rw [e1, m_it_st, if_pos hs, if_neg hsp]
      show va_up (gM_US (m_it sp j m)) u false u = false
      rw [up_s]
    have c2 : gM_US (m_it sp (j + 8) m) u = false := by
      cases y : gM_US (m_it sp (j + 8) m) u with
      | false => rfl
      | true =>
        rw [show j + 8 = (j + 1) + 7 by omega, m_it_add] at y
        rw [m_it_us sp 7 _ u y] at c1
        cases c1
    have e2 : (gM_HA (m_it sp (j + 8) m)).val = u := by rw [m_it_ha]; omega
    have h9 := hp (j + 8) (by omega)
    unfold m_pass at h9
    rw [e2, m_it_st, c2] at h9
    simp [hs, hsp] at h9
/-- where it stops: a page that is in, not spared -/
theorem m_chp_st {m : MS} {sp : Int32} (h : m_stops m sp) : (gM_ST m (m_chp m sp)).val = 1 ∧ nI (m_chp m sp) ≠ sp := by
  have h : m_pass (m_cst m sp) sp = false := h
  have e : gM_ST (m_cst m sp) = gM_ST m := (m_chs_fx sp 16 m).2.2.2.2.1
  unfold m_pass at h
  rw [e] at h
  have h1 : (gM_ST m (gM_HA (m_cst m sp)).val).val = 1 := by
    by_cases q : (gM_ST m (gM_HA (m_cst m sp)).val).val = 1
    · exact q
    · simp [q] at h
  refine ⟨h1, fun z => ?_⟩
  have z : nI (gM_HA (m_cst m sp)).val = sp := z
  simp [z] at h
theorem Rel.one {h : HS} {m : MS} (R : Rel h m) (I : Inv m) {sp : Int32} (hs : m_stops m sp) : Rel (h_putOut (h_chp h sp) (h_cho h sp)) (m_one sp m) ∧ Inv (m_one sp m) := by
  obtain ⟨R1, I1⟩ := R.chs sp 16 I
  have ep : h_chp h sp = m_chp m sp := by
    show (gH_HA (h_chs sp 16 h)).val = (gM_HA (m_chs sp 16 m)).val
    rw [R1.2.2.2.2.2.2.2.1]
  have R2 : Rel (h_cho h sp) (m_cho m sp) ∧ Inv (m_cho m sp) := by
    obtain ⟨r1, r2, r3, r4, r5, r6, r7, r8, r9, r10, r11⟩ := R1
    obtain ⟨j0, j0s, j1, j2, j3, j4, j5, j6, j6b, j7, j8⟩ := I1
    refine ⟨⟨r1, r2, r3, r4, r5, r6, r7, ?_, r9, r10, r11⟩, j0, j0s, j1, j2, j3, j4, j5, j6, j6b, j7, j8⟩
    show (⟨((gH_HA (h_chs sp 16 h)).val + 1) % 8, _⟩ : Fin 8) = ⟨((gM_HA (m_chs sp 16 m)).val + 1) % 8, _⟩
    congr 3 <;> rw [r8]
  have e : gM_ST (m_cho m sp) = gM_ST m := (m_chs_fx sp 16 m).2.2.2.2.1
  rw [ep]
  exact R2.1.putOut R2.2 (by rw [e]; exact (m_chp_st hs).1)
theorem m_putOut_st (v : Nat) (m : MS) : gM_ST (m_putOut v m) = va_up (gM_ST m) v ⟨2, by decide⟩ := by
  show va_up (gM_ST (fldN (m_po1 v) m 4)) v _ = _
  rw [fldN_keep gM_ST (fun i s => by
    show gM_ST (fldN (m_po2 v i) (uM_MK s (4 * v + i) (gM_TH s (4 * v + i))) 2) = gM_ST s
    rw [fldN_keep gM_ST (fun j s => by
      unfold m_po2
      split
      · split <;> rfl
      · rfl)]; rfl)]
theorem m_putOut_bu (v : Nat) (m : MS) : gM_BU (m_putOut v m) = gM_BU m := by
  show gM_BU (fldN (m_po1 v) m 4) = _
  rw [fldN_keep gM_BU (fun i s => by
    show gM_BU (fldN (m_po2 v i) (uM_MK s (4 * v + i) (gM_TH s (4 * v + i))) 2) = gM_BU s
    rw [fldN_keep gM_BU (fun j s => by
      unfold m_po2
      split
      · split <;> rfl
      · rfl)]; rfl)]
theorem m_one_st (sp : Int32) (m : MS) : gM_ST (m_one sp m) = va_up (gM_ST m) (m_chp m sp) ⟨2, by decide⟩ := by
  unfold m_one
  rw [m_putOut_st]
  have e : gM_ST (m_cho m sp) = gM_ST m := (m_chs_fx sp 16 m).2.2.2.2.1
  rw [e]
theorem m_one_bu (sp : Int32) (m : MS) : gM_BU (m_one sp m) = gM_BU m := by
  unfold m_one
  rw [m_putOut_bu]
  exact (m_chs_fx sp 16 m).2.2.2.2.2.2.1
theorem m_one_in {sp : Int32} {m : MS} (h : m_stops m sp) : m_in m = m_in (m_one sp m) + 1 := by
  unfold m_in
  refine cntN_more (v := m_chp m sp) (m_chp_lt m sp) ?_ ?_ (fun j hj => ?_)
  · unfold m_inb; rw [m_one_st, up_s]; rfl
  · unfold m_inb; rw [(m_chp_st h).1]; rfl
  · unfold m_inb; rw [m_one_st, up_n hj]
theorem Rel.inn {h : HS} {m : MS} (R : Rel h m) : h_in h = m_in m := by
  unfold h_in m_in
  refine cntN_congr (fun j _ => ?_)
  unfold h_inb m_inb
  rw [R.2.2.2.1]
