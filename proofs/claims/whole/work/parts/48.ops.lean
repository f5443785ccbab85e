/-! room, touching, putting out beyond the budget: both sides -/
theorem cntN_two {f : Nat → Bool} (t : Nat) : ∀ {n : Nat}, (∀ u, u < n → f u = true → u = t) → cntN f n ≤ (if t < n then 1 else 0)
  | 0, _ => Nat.zero_le _
  | n + 1, h => by
    have ih := cntN_two t (n := n) (fun u hu => h u (by omega))
    show cntN f n + (if f n = true then 1 else 0) ≤ _
    by_cases q : f n = true
    · have e := h n (by omega) q
      rw [if_pos q, if_pos (by omega)]
      rw [if_neg (by omega)] at ih
      omega
    · rw [if_neg q]
      by_cases z : t < n
      · rw [if_pos z] at ih
        rw [if_pos (by omega)]
        omega
      · rw [if_neg z] at ih
        omega
theorem m_in_two {m : MS} (h : 2 ≤ m_in m) (sp : Int32) : ∃ u, u < 8 ∧ (gM_ST m u).val = 1 ∧ nI u ≠ sp := by
  have h : 2 ≤ cntN (m_inb m) 8 := h
  by_cases e : ∃ t, t < 8 ∧ nI t = sp
  · obtain ⟨t, ht, et⟩ := e
    by_cases q : ∃ u, u < 8 ∧ m_inb m u = true ∧ u ≠ t
    · obtain ⟨u, h1, h2, h3⟩ := q
      unfold m_inb at h2
      rw [decide_eq_true_iff] at h2
      exact ⟨u, h1, h2, fun z => h3 ((nI_eq (by omega) (by omega)).mp (z.trans et.symm))⟩
    · have := cntN_two (f := m_inb m) t (n := 8) (fun u h1 h2 => Classical.byContradiction fun z => q ⟨u, h1, h2, z⟩)
      rw [if_pos ht] at this
      omega
  · obtain ⟨u, h1, h2⟩ := cntN_ex (f := m_inb m) (n := 8) (by omega)
    unfold m_inb at h2
    rw [decide_eq_true_iff] at h2
    exact ⟨u, h1, h2, fun z => e ⟨u, h1, z⟩⟩
theorem m_stops2 {m : MS} (h : 2 ≤ m_in m) (sp : Int32) : m_stops m sp := by
  obtain ⟨u, a, b, c⟩ := m_in_two h sp
  exact m_stops_of a b c
theorem Inv.bu {m : MS} (I : Inv m) : 2 ≤ (gM_BU m).val := I.2.2.2.2.2.2.2.2.2.2.1
/-- what stays, but for page states, used bits, marks and the hand -/
def keep6 (m m' : MS) : Prop := gM_TH m' = gM_TH m ∧ gM_VA m' = gM_VA m ∧ gM_FD m' = gM_FD m ∧ gM_RG m' = gM_RG m ∧ gM_BU m' = gM_BU m ∧ gM_FA m' = gM_FA m ∧ gM_TR m' = gM_TR m
theorem keep6.rf (m : MS) : keep6 m m := ⟨rfl, rfl, rfl, rfl, rfl, rfl, rfl⟩
theorem keep6.tr {a b c : MS} (h : keep6 a b) (h2 : keep6 b c) : keep6 a c := by
  obtain ⟨a1, a2, a3, a4, a5, a6, a7⟩ := h
  obtain ⟨b1, b2, b3, b4, b5, b6, b7⟩ := h2
  exact ⟨b1.trans a1, b2.trans a2, b3.trans a3, b4.trans a4, b5.trans a5, b6.trans a6, b7.trans a7⟩
theorem m_one_k6 (sp : Int32) {m : MS} (I : Inv m) : keep6 m (m_one sp m) := by
  obtain ⟨j0, j0s, j1, j2, j3, j4, j5, j6, j6b, j7, j8⟩ := I
  obtain ⟨a1, a2, a3, a4, a5, a6, a7, a8, a9⟩ := m_chs_fx sp 16 m
  have e : keep6 m (m_cho m sp) := ⟨a1, a2, a3, a6, a7, a8, a9⟩
  refine e.tr ?_
  unfold m_one
  obtain ⟨f, ef, -⟩ := m_putOut_eq (m_chp m sp) (m_cho m sp) (by
    show ∀ i k, gM_TH (m_cst m sp) (i / 2) = true → gM_FD (m_cst m sp) i = some k → gM_TH (m_cst m sp) k.val = true
    rw [show gM_TH (m_cst m sp) = gM_TH m from a1, show gM_FD (m_cst m sp) = gM_FD m from a3]; exact j2) (by
    show ∀ p, gM_MK (m_cst m sp) p = true → gM_TH (m_cst m sp) p = true
    rw [show gM_TH (m_cst m sp) = gM_TH m from a1, show gM_MK (m_cst m sp) = gM_MK m from a4]; exact j3)
  rw [ef]
  exact keep6.rf _
theorem m_bc_k6 (v : Nat) (m : MS) : keep6 m (m_bc v m) := by
  rw [m_bc_eq]
  exact keep6.rf m
theorem m_bc_st (v : Nat) (m : MS) : gM_ST (m_bc v m) = va_up (gM_ST m) v ⟨1, by decide⟩ := by
  rw [m_bc_eq]; rfl
theorem m_bc_in {v : Nat} {m : MS} (hv : v < 8) (h : (gM_ST m v).val = 2) : m_in (m_bc v m) = m_in m + 1 := by
  unfold m_in
  refine cntN_more (v := v) hv ?_ ?_ (fun j hj => ?_)
  · unfold m_inb; rw [h]; rfl
  · unfold m_inb; rw [m_bc_st, up_s]; rfl
  · unfold m_inb; rw [m_bc_st, up_n hj]
theorem Rel.room {h : HS} {m : MS} (R : Rel h m) (I : Inv m) (hin : m_in m ≤ (gM_BU m).val) : (Rel (h_room h) (m_bi0 m) ∧ Inv (m_bi0 m)) ∧ m_in (m_bi0 m) + 1 ≤ (gM_BU m).val ∧ keep6 m (m_bi0 m) ∧ ∀ v, (gM_ST m v).val ≠ 1 → gM_ST (m_bi0 m) v = gM_ST m v := by
  have hb := I.bu
  unfold h_room m_bi0
  rw [R.inn, R.2.2.2.2.2.1]
  by_cases q : m_in m < (gM_BU m).val
  · rw [if_pos q, if_neg (by omega)]
    exact ⟨⟨R, I⟩, by omega, keep6.rf m, fun _ _ => rfl⟩
  · have e : m_in m = (gM_BU m).val := by omega
    rw [if_neg q, if_pos e]
    have st : m_stops m (-1) := m_stops2 (by omega) _
    refine ⟨R.one I st, ?_, m_one_k6 _ I, fun v hv => ?_⟩
    · have := m_one_in st
      omega
    · rw [m_one_st]
      refine up_n (fun z => hv ?_)
      rw [z]; exact (m_chp_st st).1
theorem m_fi_in (m : MS) : m_in (m_fi m) = m_in m := rfl
theorem Rel.touch {h : HS} {m : MS} (R : Rel h m) (I : Inv m) (hin : m_in m ≤ (gM_BU m).val) {v : Nat} (hv : (gM_ST m v).val ≠ 0) : (Rel (h_touch v h) (m_touch v m) ∧ Inv (m_touch v m)) ∧ m_in (m_touch v m) ≤ (gM_BU m).val ∧ (gM_TH (m_touch v m) = gM_TH m ∧ gM_VA (m_touch v m) = gM_VA m ∧ gM_FD (m_touch v m) = gM_FD m ∧ gM_RG (m_touch v m) = gM_RG m ∧ gM_BU (m_touch v m) = gM_BU m ∧ gM_TR (m_touch v m) = gM_TR m) ∧ (gM_ST (m_touch v m) v).val = 1 ∧ m_tok v m := by
  have hb := I.bu
  have hv8 : v < 8 := I.2.1 v hv
  -- the state before the used bit
  have core : ∃ (h' : HS) (m' : MS), (if (gH_ST h v).val = 2 then h_bringIn v (h_room (h_fi h)) else h) = h' ∧ (if (gM_ST m v).val = 2 then m_bringIn v (m_fi m) else m) = m' ∧ Rel h' m' ∧ Inv m' ∧ m_in m' ≤ (gM_BU m).val ∧ (gM_TH m' = gM_TH m ∧ gM_VA m' = gM_VA m ∧ gM_FD m' = gM_FD m ∧ gM_RG m' = gM_RG m ∧ gM_BU m' = gM_BU m ∧ gM_TR m' = gM_TR m) ∧ (gM_ST m' v).val = 1 := by
    rw [R.2.2.2.1]
    by_cases q : (gM_ST m v).val = 2
    · rw [if_pos q, if_pos q]
      obtain ⟨R1, I1⟩ := R.fi I
      obtain ⟨⟨R2, I2⟩, b2, ⟨k1, k2, k3, k4, k5, k6, k7⟩, s2⟩ := R1.room I1 (by rw [m_fi_in]; exact hin)
      have sv : (gM_ST (m_bi0 (m_fi m)) v).val = 2 := by
        rw [s2 v (by show (gM_ST m v).val ≠ 1; omega)]; exact q
      obtain ⟨R3, I3⟩ := R2.bringIn I2 sv
      obtain ⟨c1, c2, c3, c4, c5, c6, c7⟩ := m_bc_k6 v (m_bi0 (m_fi m))
      refine ⟨_, _, rfl, rfl, R3, I3, ?_, ⟨c1.trans k1, c2.trans k2, c3.trans k3, c4.trans k4, c5.trans k5, c7.trans k7⟩, ?_⟩
      · have a := m_bc_in hv8 sv
        have b2 : m_in (m_bi0 (m_fi m)) + 1 ≤ (gM_BU m).val := b2
        show m_in (m_bc v (m_bi0 (m_fi m))) ≤ _
        omega
      · show (gM_ST (m_bc v (m_bi0 (m_fi m))) v).val = 1
        rw [m_bc_st, up_s]
    · rw [if_neg q, if_neg q]
      have hl := (gM_ST m v).isLt
      exact ⟨_, _, rfl, rfl, R, I, hin, ⟨rfl, rfl, rfl, rfl, rfl, rfl⟩, by omega⟩
  obtain ⟨h', m', e1, e2, R', I', b', k', s'⟩ := core
  unfold h_touch m_touch
  rw [e1, e2]
  obtain ⟨r1, r2, r3, r4, r5, r6, r7, r8, r9, r10, r11⟩ := R'
  obtain ⟨j0, j0s, j1, j2, j3, j4, j5, j6, j6b, j7, j8⟩ := I'
  refine ⟨⟨⟨r1, r2, r3, r4, ?_, r6, r7, r8, r9, r10, r11⟩, j0, j0s, j1, j2, j3, j4, fun u hu => ?_, j6, j6b, j7, j8⟩, b', k', s', fun _ e => m_stops2 (by rw [m_fi_in]; omega) _⟩
  · show va_up (gH_US h') v true = va_up (gM_US m') v true
    rw [r5]
  · have hu : va_up (gM_US m') v true u = true := hu
    show (gM_ST m' u).val = 1
    by_cases z : u = v
    · rw [z]; exact s'
    · rw [up_n z] at hu; exact j5 u hu
/-- beyond the budget -/
theorem Rel.by1 {h : HS} {m : MS} (sp : Int32) (R : Rel h m) (I : Inv m) : ∀ i, i ≤ m_byn m → (Rel (fldN (h_by1 sp) h i) (fldN (m_by1 sp) m i) ∧ Inv (fldN (m_by1 sp) m i)) ∧ m_in (fldN (m_by1 sp) m i) = m_in m - i ∧ keep6 m (fldN (m_by1 sp) m i)
  | 0, _ => ⟨⟨R, I⟩, rfl, keep6.rf m⟩
  | i + 1, hi => by
    obtain ⟨⟨R1, I1⟩, a2, a3⟩ := Rel.by1 sp R I i (by omega)
    have hb := I.bu
    have hby : m_byn m = m_in m - (gM_BU m).val := rfl
    show (Rel (h_by1 sp i (fldN (h_by1 sp) h i)) (m_by1 sp i (fldN (m_by1 sp) m i)) ∧ Inv (m_by1 sp i (fldN (m_by1 sp) m i))) ∧ m_in (m_by1 sp i (fldN (m_by1 sp) m i)) = m_in m - (i + 1) ∧ keep6 m (m_by1 sp i (fldN (m_by1 sp) m i))
    generalize fldN (h_by1 sp) h i = h' at R1 ⊢
    generalize fldN (m_by1 sp) m i = m' at R1 I1 a2 a3 ⊢
    have st : m_stops m' sp := m_stops2 (by omega) _
    refine ⟨R1.one I1 st, ?_, a3.tr (m_one_k6 sp I1)⟩
    have := m_one_in st
    show m_in (m_one sp m') = _
    omega
theorem Rel.shr {h : HS} {m : MS} (sp : Int32) (R : Rel h m) (I : Inv m) : m_shr sp m := by
  intro i hi
  obtain ⟨-, a2, a3⟩ := Rel.by1 sp R I i hi
  have hb := I.bu
  have hby : m_byn m = m_in m - (gM_BU m).val := rfl
  refine ⟨a2, by rw [a3.2.2.2.2.1], fun h2 => m_stops2 (by omega) _⟩
theorem Rel.beyond {h : HS} {m : MS} (sp : Int32) (R : Rel h m) (I : Inv m) : (Rel (h_beyond sp h) (m_shrink sp m) ∧ Inv (m_shrink sp m)) ∧ m_in (m_shrink sp m) ≤ (gM_BU m).val ∧ keep6 m (m_shrink sp m) ∧ h_byn h = m_byn m := by
  have e : h_byn h = m_byn m := by
    unfold h_byn m_byn
    rw [R.inn, R.2.2.2.2.2.1]
  obtain ⟨a1, a2, a3⟩ := Rel.by1 sp R I (m_byn m) (Nat.le_refl _)
  have hby : m_byn m = m_in m - (gM_BU m).val := rfl
  unfold h_beyond m_shrink
  rw [e]
  exact ⟨a1, by omega, a3, rfl⟩
