/-! a place for a new object: both sides -/
theorem toP_inv {x : Option Nat} {k : Fin 32} (h : toP x = some k) : x = some k.val := by
  unfold toP at h
  cases x with
  | none => cases h
  | some j =>
    by_cases q : j < 32
    · have h : (if hh : j < 32 then some (⟨j, hh⟩ : Fin 32) else none) = some k := h
      rw [dif_pos q] at h
      have e := Option.some.inj h
      rw [← e]
    · have h : (if hh : j < 32 then some (⟨j, hh⟩ : Fin 32) else none) = some k := h
      rw [dif_neg q] at h; cases h
theorem m_in_st {m m' : MS} (h : gM_ST m' = gM_ST m) : m_in m' = m_in m := by
  unfold m_in
  refine cntN_congr (fun j _ => ?_)
  unfold m_inb
  rw [h]
theorem m_free_of {m : MS} {k : Fin 32} (h : m_free m = some k) : gM_TH m k.val = false ∧ (gM_ST m (k.val / 4)).val = 1 := by
  have h2 := fstN_some (toP_inv h)
  have h3 := h2.2
  unfold m_frb at h3
  simpa using h3
theorem m_place_st (k : Nat) (v : Int32) (m : MS) : gM_ST (m_place k v m) = gM_ST m := rfl
theorem Rel.take {h : HS} {m : MS} (b : Bool) (R : Rel h m) (I : Inv m) (hin : b = true → m_in m ≤ (gM_BU m).val) (val : Int32) : (m_fp m = none → h_tks b h = h ∧ m_fs b m = m) ∧ ∀ k, m_fp m = some k → (Rel (uH_VA (h_tks b h) k.val val) (m_place k.val val (m_fs b m)) ∧ Inv (m_place k.val val (m_fs b m))) ∧ (gM_BU (m_place k.val val (m_fs b m)) = gM_BU m ∧ gM_TR (m_place k.val val (m_fs b m)) = gM_TR m ∧ gM_TH (m_place k.val val (m_fs b m)) k.val = true) ∧ (b = true → m_in (m_place k.val val (m_fs b m)) ≤ (gM_BU m).val) := by
  obtain ⟨e1, e2⟩ := R.free
  cases hf : m_free m with
  | some k0 =>
    have efp : m_fp m = some k0 := by unfold m_fp; rw [hf]
    refine ⟨fun h => (by rw [efp] at h; cases h), fun k hk => ?_⟩
    rw [efp] at hk
    cases hk
    obtain ⟨t0, s1⟩ := m_free_of hf
    have eH : h_tks b h = h_occupy k0.val h := by unfold h_tks; rw [e1, hf]
    have eM : m_fs b m = uM_US (uM_ST m (k0.val / 4) ⟨1, by decide⟩) (k0.val / 4) true := by
      unfold m_fs m_fs1
      rw [efp, hf, uM_ST_id s1]
    rw [eH, eM]
    refine ⟨R.occ I k0.isLt t0 (by omega) val, ⟨rfl, rfl, ?_⟩, fun hb => ?_⟩
    · show va_up (gM_TH m) k0.val true k0.val = true
      rw [up_s]
    · rw [uM_ST_id s1]
      have e : m_in (m_place k0.val val (uM_US m (k0.val / 4) true)) = m_in m := m_in_st rfl
      rw [e]; exact hin hb
  | none =>
    cases he : fstN (m_emb m) 8 with
    | none =>
      have efp : m_fp m = none := by unfold m_fp m_fpe; rw [hf, he]
      refine ⟨fun _ => ⟨?_, ?_⟩, fun k hk => by rw [efp] at hk; cases hk⟩
      · unfold h_tks h_empty
        rw [e1, hf, e2, he]
      · unfold m_fs m_fs1
        rw [efp, hf, he]
    | some v =>
      obtain ⟨hv8, hv0⟩ := fstN_some he
      unfold m_emb at hv0
      rw [decide_eq_true_iff] at hv0
      have efp : m_fp m = some ⟨4 * v, by omega⟩ := by
        unfold m_fp m_fpe
        rw [hf, he]
        exact toP_some (by omega)
      refine ⟨fun h => (by rw [efp] at h; cases h), fun k hk => ?_⟩
      rw [efp] at hk
      cases hk
      have eH : h_tks b h = h_occupy (4 * v) (if b = true then h_room h else h) := by
        unfold h_tks h_empty
        rw [e1, hf, e2, he]
        show (match toP (some (4 * v)) with | some k => h_occupy k.val (if b = true then h_room h else h) | none => h) = _
        rw [toP_some (show 4 * v < 32 by omega)]
      have e4 : 4 * v / 4 = v := by omega
      have eM : m_fs b m = uM_US (uM_ST (if b = true then m_bi0 m else m) (4 * v / 4) ⟨1, by decide⟩) (4 * v / 4) true := by
        unfold m_fs m_fs1
        rw [efp, hf, he]
        show uM_US (m_fd1 b v m) (4 * v / 4) true = _
        unfold m_fd1 m_bi0
        rw [e4]
        cases b with
        | false => simp
        | true => simp
      show (Rel (uH_VA (h_tks b h) (4 * v) val) (m_place (4 * v) val (m_fs b m)) ∧ Inv (m_place (4 * v) val (m_fs b m))) ∧ (gM_BU (m_place (4 * v) val (m_fs b m)) = gM_BU m ∧ gM_TR (m_place (4 * v) val (m_fs b m)) = gM_TR m ∧ gM_TH (m_place (4 * v) val (m_fs b m)) (4 * v) = true) ∧ (b = true → m_in (m_place (4 * v) val (m_fs b m)) ≤ (gM_BU m).val)
      rw [eH, eM]
      -- the state in which the page is taken
      have core : ∃ (h0 : HS) (m0 : MS), (if b = true then h_room h else h) = h0 ∧ (if b = true then m_bi0 m else m) = m0 ∧ Rel h0 m0 ∧ Inv m0 ∧ (b = true → m_in m0 + 1 ≤ (gM_BU m).val) ∧ gM_TH m0 = gM_TH m ∧ gM_BU m0 = gM_BU m ∧ gM_TR m0 = gM_TR m ∧ gM_ST m0 v = gM_ST m v := by
        by_cases q : b = true
        · rw [if_pos q, if_pos q]
          obtain ⟨⟨R1, I1⟩, a1, a2, a3⟩ := R.room I (hin q)
          exact ⟨_, _, rfl, rfl, R1, I1, fun _ => a1, a2.1, a2.2.2.2.2.1, a2.2.2.2.2.2.2, a3 v (by omega)⟩
        · rw [if_neg q, if_neg q]
          exact ⟨_, _, rfl, rfl, R, I, fun z => absurd z q, rfl, rfl, rfl, rfl⟩
      obtain ⟨h0, m0, eh0, em0, R0, I0, b0, t0, bu0, tr0, s0⟩ := core
      rw [eh0, em0]
      have tk : gM_TH m0 (4 * v) = false := by
        rw [t0]
        cases z : gM_TH m (4 * v) with
        | false => rfl
        | true =>
          have := I.2.2.2.2.2.1 (4 * v) z
          rw [e4] at this
          exact absurd hv0 this
      have hs0 : (gM_ST m0 (4 * v / 4)).val = 0 := by rw [e4, s0]; exact hv0
      refine ⟨R0.occ I0 (by omega) tk (by omega) val, ⟨bu0, tr0, ?_⟩, fun hb => ?_⟩
      · show va_up (gM_TH m0) (4 * v) true (4 * v) = true
        rw [up_s]
      · have := b0 hb
        have e : m_in (m_place (4 * v) val (uM_US (uM_ST m0 (4 * v / 4) ⟨1, by decide⟩) (4 * v / 4) true)) = m_in m0 + 1 := by
          unfold m_in
          refine cntN_more (v := v) hv8 ?_ ?_ (fun j hj => ?_)
          · unfold m_inb; rw [s0, hv0]; rfl
          · unfold m_inb
            show decide ((va_up (gM_ST m0) (4 * v / 4) (⟨1, by decide⟩ : Fin 3) v).val = 1) = true
            rw [e4, up_s]; rfl
          · unfold m_inb
            show decide ((va_up (gM_ST m0) (4 * v / 4) (⟨1, by decide⟩ : Fin 3) j).val = 1) = _
            rw [e4, up_n hj]
        rw [e]; exact this
