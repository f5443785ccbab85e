/-! make: both sides -/
def wVA (h : HS) (z : Nat → Int32) : HS := (h.1, h.2.1, z, h.2.2.2)
theorem va_bk1 (z : Nat → Int32) (v i : Nat) (h : HS) : h_bk1 v i (wVA h z) = wVA (h_bk1 v i h) z := by
  unfold h_bk1
  show (if gH_TK h (4 * v + i) = true then wVA (uH_BM h (4 * v + i) true) z else wVA h z) = _
  split <;> rfl
theorem va_bk2 (z : Nat → Int32) (v i : Nat) (h : HS) : h_bk2 v i (wVA h z) = wVA (h_bk2 v i h) z := by
  unfold h_bk2
  show (match gH_FD h (2 * (4 * v) + i) with | none => wVA h z | some k => wVA (uH_BM h k.val true) z) = _
  cases gH_FD h (2 * (4 * v) + i) <;> rfl
theorem va_cinc (z : Nat → Int32) (v i : Nat) (h : HS) : h_cinc v i (wVA h z) = wVA (h_cinc v i h) z := by
  unfold h_cinc
  show (if h_refers h v i = true then wVA (uH_CT h i (gH_CT h i + nI 1)) z else wVA h z) = _
  split <;> rfl
theorem va_putOut (z : Nat → Int32) (v : Nat) (h : HS) : h_putOut v (wVA h z) = wVA (h_putOut v h) z := by
  unfold h_putOut h_bkall
  rw [fld_lift (fun h => wVA h z) (va_bk1 z v) h 4, fld_lift (fun h => wVA h z) (va_bk2 z v) _ 8, fld_lift (fun h => wVA h z) (va_cinc z v) _ 8]
  rfl
theorem va_cs1 (z : Nat → Int32) (sp : Int32) (h : HS) : h_cs1 sp (wVA h z) = wVA (h_cs1 sp h) z := by
  unfold h_cs1
  show h_mv (if nI (gH_HA h).val = sp then wVA h z else wVA (uH_US h (gH_HA h).val false) z) = _
  split <;> rfl
theorem va_chs (z : Nat → Int32) (sp : Int32) : ∀ (n : Nat) (h : HS), h_chs sp n (wVA h z) = wVA (h_chs sp n h) z
  | 0, _ => rfl
  | n + 1, h => by
    unfold h_chs
    show (if h_passes h sp = true then h_chs sp n (h_cs1 sp (wVA h z)) else wVA h z) = _
    split
    · rw [va_cs1, va_chs z sp n]
    · rfl
theorem va_by1 (z : Nat → Int32) (sp : Int32) (i : Nat) (h : HS) : h_by1 sp i (wVA h z) = wVA (h_by1 sp i h) z := by
  unfold h_by1
  have e1 : h_cst (wVA h z) sp = wVA (h_cst h sp) z := va_chs z sp 16 h
  have e2 : h_chp (wVA h z) sp = h_chp h sp := by
    unfold h_chp
    rw [e1]; rfl
  have e3 : h_cho (wVA h z) sp = wVA (h_cho h sp) z := by
    unfold h_cho
    rw [e1]; rfl
  rw [e2, e3, va_putOut]
theorem va_beyond (z : Nat → Int32) (sp : Int32) (h : HS) : h_beyond sp (wVA h z) = wVA (h_beyond sp h) z := by
  unfold h_beyond
  have e : h_byn (wVA h z) = h_byn h := rfl
  rw [e]
  exact fld_lift (fun h => wVA h z) (va_by1 z sp) h (h_byn h)
theorem uVA_beyond (sp : Int32) (h : HS) (k : Nat) (v : Int32) : uH_VA (h_beyond sp h) k v = h_beyond sp (uH_VA h k v) := by
  have e0 : gH_VA (h_beyond sp h) = gH_VA h := by
    have a := va_beyond (gH_VA h) sp h
    have a0 : wVA h (gH_VA h) = h := rfl
    rw [a0] at a
    rw [a]; rfl
  have e1 : uH_VA h k v = wVA h (va_up (gH_VA h) k v) := rfl
  rw [e1, va_beyond]
  show wVA (h_beyond sp h) (va_up (gH_VA (h_beyond sp h)) k v) = _
  rw [e0]
/-- the class's make, when the register is one -/
def h_nA (h : HS) : HS := h_collect (h_tks true h)
def h_nB (h : HS) : HS := h_tks true (h_nA h)
def h_nwp (h : HS) : Option (Fin 32) := match h_tkp h with
  | some k => some k
  | none => match h_tkp (h_nA h) with
    | some k => some k
    | none => h_ttp (h_nB h)
def h_nws (h : HS) : HS := match h_tkp h with
  | some _ => h_tks true h
  | none => match h_tkp (h_nA h) with
    | some _ => h_nB h
    | none => h_tts (h_nB h)
def h_nw (r : Nat) (v : Int32) (h : HS) : HS := match h_nwp h with
  | some k => uH_RG (uH_VA (h_nws h) k.val v) r (some k)
  | none => h_nws h
/-- between calls -/
def OKs (h : HS) (m : MS) : Prop := Rel h m ∧ Inv m ∧ m_in m ≤ (gM_BU m).val
theorem OKs.t0 {h : HS} {m : MS} (o : OKs h m) (x : Int32) : OKs h (uM_TR m x) := o
theorem tr_wMK (s : MS) (f : Nat → Bool) : gM_TR (wMK s f) = gM_TR s ∧ gM_BU (wMK s f) = gM_BU s := ⟨rfl, rfl⟩
theorem of_RG (s : MS) (r : Nat) (x : Option (Fin 32)) : m_in (uM_RG s r x) = m_in s ∧ gM_BU (uM_RG s r x) = gM_BU s ∧ gM_TR (uM_RG s r x) = gM_TR s := ⟨rfl, rfl, rfl⟩
theorem of_TR (s : MS) (x : Int32) : m_in (uM_TR s x) = m_in s ∧ gM_BU (uM_TR s x) = gM_BU s ∧ gM_TR (uM_TR s x) = x := ⟨rfl, rfl, rfl⟩
theorem m_al1_tr (m : MS) : ∀ n, gM_TR (fldN m_al1 m n) = gM_TR m := fun n => fldN_keep gM_TR (fun i s => by
  unfold m_al1
  split <;> rfl) m n
theorem m_al1_bu (m : MS) : ∀ n, gM_BU (fldN m_al1 m n) = gM_BU m := fun n => fldN_keep gM_BU (fun i s => by
  unfold m_al1
  split <;> rfl) m n
theorem m_all0_tr (m : MS) : gM_TR (m_all0 m) = gM_TR m ∧ gM_BU (m_all0 m) = gM_BU m := by
  unfold m_all0
  rw [m_al2_fld, (tr_wMK _ _).1, (tr_wMK _ _).2]
  exact ⟨m_al1_tr m 8, m_al1_bu m 8⟩
theorem m_mks_1 {r : Nat} {v : Int32} {s : MS} {k : Fin 32} (h : m_fp s = some k) : m_mks r v s = uM_RG (m_place k.val v (m_fs true s)) r (some k) := by
  unfold m_mks m_put
  rw [h]
theorem m_mks_2 {r : Nat} {v : Int32} {s : MS} {k : Fin 32} (h : m_fp s = none) (h2 : m_fp (m_mkA s) = some k) : m_mks r v s = uM_RG (m_place k.val v (m_fs true (m_mkA s))) r (some k) := by
  unfold m_mks m_put
  rw [h, h2]
theorem m_mks_3 {r : Nat} {v : Int32} {s : MS} {k : Fin 32} (h : m_fp s = none) (h2 : m_fp (m_mkA s) = none) (h3 : m_fp (m_mkB s) = some k) : m_mks r v s = uM_RG (m_shrink (nI (k.val / 4)) (m_place k.val v (m_fs false (m_mkB s)))) r (some k) := by
  unfold m_mks m_put
  rw [h, h2, h3]
theorem m_mks_4 {r : Nat} {v : Int32} {s : MS} (h : m_fp s = none) (h2 : m_fp (m_mkA s) = none) (h3 : m_fp (m_mkB s) = none) : m_mks r v s = uM_TR (m_shrink (-1) (m_fs false (m_mkB s))) (nI 2) := by
  unfold m_mks m_put
  rw [h, h2, h3]
theorem m_mkv_1 {s : MS} {k : Fin 32} (h : m_fp s = some k) : m_mkv s = nI k.val := by
  unfold m_mkv
  rw [h]
theorem m_mkv_2 {s : MS} {k : Fin 32} (h : m_fp s = none) (h2 : m_fp (m_mkA s) = some k) : m_mkv s = nI k.val := by
  unfold m_mkv
  rw [h, h2]
theorem m_mkv_3 {s : MS} {k : Fin 32} (h : m_fp s = none) (h2 : m_fp (m_mkA s) = none) (h3 : m_fp (m_mkB s) = some k) : m_mkv s = nI k.val := by
  unfold m_mkv
  rw [h, h2, h3]
theorem m_mkv_4 {s : MS} (h : m_fp s = none) (h2 : m_fp (m_mkA s) = none) (h3 : m_fp (m_mkB s) = none) : m_mkv s = nI 0 := by
  unfold m_mkv
  rw [h, h2, h3]
theorem h_nw_1 {h : HS} {k : Fin 32} (e : h_tkp h = some k) : h_nwp h = some k ∧ h_nws h = h_tks true h := by
  unfold h_nwp h_nws
  rw [e]
  exact ⟨rfl, rfl⟩
theorem h_nw_2 {h : HS} {k : Fin 32} (e : h_tkp h = none) (e2 : h_tkp (h_nA h) = some k) : h_nwp h = some k ∧ h_nws h = h_nB h := by
  unfold h_nwp h_nws
  rw [e, e2]
  exact ⟨rfl, rfl⟩
theorem h_nw_3 {h : HS} (e : h_tkp h = none) (e2 : h_tkp (h_nA h) = none) : h_nwp h = h_ttp (h_nB h) ∧ h_nws h = h_tts (h_nB h) := by
  unfold h_nwp h_nws
  rw [e, e2]
  exact ⟨rfl, rfl⟩
theorem h_nw_s {r : Nat} {v : Int32} {h : HS} {k : Fin 32} (e : h_nwp h = some k) : h_nw r v h = uH_RG (uH_VA (h_nws h) k.val v) r (some k) := by
  unfold h_nw
  rw [e]
theorem h_nw_n {r : Nat} {v : Int32} {h : HS} (e : h_nwp h = none) : h_nw r v h = h_nws h := by
  unfold h_nw
  rw [e]
theorem h_tts_s {h : HS} {k : Fin 32} (e : h_tkp (h_tt0 h) = some k) : h_tts h = h_beyond (nI (k.val / 4)) (h_tks false (h_tt0 h)) := by
  unfold h_tts
  rw [e]
  rfl
theorem h_tts_n {h : HS} (e : h_tkp (h_tt0 h) = none) : h_tts h = h_beyond (-1) (h_tks false (h_tt0 h)) := by
  unfold h_tts
  rw [e]
  rfl
/-- all pages in, then a collection -/
theorem Rel.thor {h : HS} {m : MS} (R : Rel h m) (I : Inv m) : (Rel (h_collect (h_bringAll h)) (m_all m) ∧ Inv (m_all m)) ∧ h_gone (h_bringAll h) = m_gone (m_all0 m) ∧ gM_BU (m_all m) = gM_BU m ∧ gM_TR (m_all m) = gM_TR m := by
  obtain ⟨R1, I1⟩ := R.all I
  obtain ⟨c1, c2, -, c4, c5⟩ := R1.collect I1
  obtain ⟨t1, t2⟩ := m_all0_tr m
  exact ⟨c1, c2, c4.trans t2, c5.trans t1⟩
theorem Rel.tr {h : HS} {m : MS} (R : Rel h m) (x : Int32) : Rel h (uM_TR m x) := R
theorem Inv.tr {m : MS} (I : Inv m) (x : Int32) : Inv (uM_TR m x) := I
theorem OKs.make {h : HS} {m : MS} (o : OKs h m) {r : Nat} (hr : r < 4) (v : Int32) : m_mok v m ∧ OKs (h_nw r v h) (m_mks r v m) ∧ (∀ k, h_nwp h = some k → m_mkv m = nI k.val ∧ gM_TR (m_mks r v m) = gM_TR m) ∧ (h_nwp h = none → gM_TR (m_mks r v m) = nI 2) := by
  obtain ⟨R, I, hin⟩ := o
  have hb := I.bu
  obtain ⟨n1, s1⟩ := R.take true I (fun _ => hin) v
  have ok1 : m_fok true m := fun _ e => m_stops2 (by omega) _
  have tk1 := R.tkp
  cases e1 : m_fp m with
  | some k =>
    rw [e1] at tk1
    obtain ⟨⟨R1, I1⟩, ⟨b1, t1, th1⟩, in1⟩ := s1 k e1
    obtain ⟨eP, eS⟩ := h_nw_1 tk1
    rw [h_nw_s eP, eS, m_mks_1 e1]
    obtain ⟨R2, I2⟩ := R1.setRG I1 hr (some k) (fun q hq => by cases hq; exact th1)
    obtain ⟨o1, o2, o3⟩ := of_RG (m_place k.val v (m_fs true m)) r (some k)
    refine ⟨⟨ok1, fun z => (by rw [e1] at z; cases z)⟩, ⟨R2, I2, ?_⟩, fun q hq => ?_, fun hq => (by rw [eP] at hq; cases hq)⟩
    · rw [o1, o2, b1]; exact in1 rfl
    · rw [eP] at hq
      cases hq
      exact ⟨m_mkv_1 e1, o3.trans t1⟩
  | none =>
    rw [e1] at tk1
    obtain ⟨a1, a2⟩ := n1 e1
    obtain ⟨⟨RA, IA⟩, -, inA, buA, trA⟩ := R.collect I
    have eA : h_nA h = h_collect h := by unfold h_nA; rw [a1]
    have eAm : m_mkA m = m_within m := by unfold m_mkA; rw [a2]
    rw [← eA] at RA
    rw [← eAm] at RA IA inA buA trA
    have hinA : m_in (m_mkA m) ≤ (gM_BU (m_mkA m)).val := by rw [buA]; omega
    have hbA := IA.bu
    have ok2 : m_fok true (m_mkA m) := fun _ e => m_stops2 (by omega) _
    obtain ⟨n2, s2⟩ := RA.take true IA (fun _ => hinA) v
    have tk2 := RA.tkp
    cases e2 : m_fp (m_mkA m) with
    | some k =>
      rw [e2] at tk2
      obtain ⟨⟨R1, I1⟩, ⟨b1, t1, th1⟩, in1⟩ := s2 k e2
      obtain ⟨eP, eS⟩ := h_nw_2 tk1 tk2
      have eS2 : h_nws h = h_tks true (h_nA h) := eS
      rw [h_nw_s eP, eS2, m_mks_2 e1 e2]
      obtain ⟨R2, I2⟩ := R1.setRG I1 hr (some k) (fun q hq => by cases hq; exact th1)
      obtain ⟨o1, o2, o3⟩ := of_RG (m_place k.val v (m_fs true (m_mkA m))) r (some k)
      refine ⟨⟨ok1, fun _ => ⟨ok2, fun z => (by rw [e2] at z; cases z)⟩⟩, ⟨R2, I2, ?_⟩, fun q hq => ?_, fun hq => (by rw [eP] at hq; cases hq)⟩
      · rw [o1, o2, b1]; exact in1 rfl
      · rw [eP] at hq
        cases hq
        exact ⟨m_mkv_2 e1 e2, (o3.trans t1).trans trA⟩
    | none =>
      rw [e2] at tk2
      obtain ⟨a3, a4⟩ := n2 e2
      obtain ⟨⟨RB, IB⟩, -, buB, trB⟩ := RA.thor IA
      have eB : h_tt0 (h_nB h) = h_collect (h_bringAll (h_nA h)) := by unfold h_tt0 h_nB; rw [a3]
      have eBm : m_mkB m = m_all (m_mkA m) := by unfold m_mkB; rw [a4]
      rw [← eB] at RB
      rw [← eBm] at RB IB buB trB
      obtain ⟨n3, s3⟩ := RB.take false IB (fun z => by cases z) v
      have tk3 := RB.tkp
      obtain ⟨eP0, eS0⟩ := h_nw_3 tk1 tk2
      cases e3 : m_fp (m_mkB m) with
      | some k =>
        rw [e3] at tk3
        obtain ⟨⟨R1, I1⟩, ⟨b1, t1, th1⟩, -⟩ := s3 k e3
        have eP : h_nwp h = some k := eP0.trans tk3
        obtain ⟨⟨R4, I4⟩, in4, k4, -⟩ := R1.beyond (nI (k.val / 4)) I1
        rw [h_nw_s eP, eS0, h_tts_s tk3, uVA_beyond, m_mks_3 e1 e2 e3]
        obtain ⟨R5, I5⟩ := R4.setRG I4 hr (some k) (fun q hq => by cases hq; rw [k4.1]; exact th1)
        obtain ⟨o1, o2, o3⟩ := of_RG (m_shrink (nI (k.val / 4)) (m_place k.val v (m_fs false (m_mkB m)))) r (some k)
        refine ⟨⟨ok1, fun _ => ⟨ok2, fun _ => ⟨fun q hq => ?_, fun z => (by rw [e3] at z; cases z)⟩⟩⟩, ⟨R5, I5, ?_⟩, fun q hq => ?_, fun hq => (by rw [eP] at hq; cases hq)⟩
        · rw [e3] at hq
          cases hq
          exact R1.shr _ I1
        · rw [o1, o2, k4.2.2.2.2.1]; exact in4
        · rw [eP] at hq
          cases hq
          exact ⟨m_mkv_3 e1 e2 e3, (o3.trans (k4.2.2.2.2.2.2.trans t1)).trans (trB.trans trA)⟩
      | none =>
        rw [e3] at tk3
        obtain ⟨a5, a6⟩ := n3 e3
        have eP : h_nwp h = none := eP0.trans tk3
        obtain ⟨⟨R4, I4⟩, in4, k4, -⟩ := RB.beyond (-1) IB
        rw [h_nw_n eP, eS0, h_tts_n tk3, a5, m_mks_4 e1 e2 e3, a6]
        obtain ⟨o1, o2, o3⟩ := of_TR (m_shrink (-1) (m_mkB m)) (nI 2)
        refine ⟨⟨ok1, fun _ => ⟨ok2, fun _ => ⟨fun q hq => (by rw [e3] at hq; cases hq), fun _ => ?_⟩⟩⟩, ⟨R4.tr _, I4.tr _, ?_⟩, fun q hq => (by rw [eP] at hq; cases hq), fun _ => o3⟩
        · rw [a6]; exact RB.shr _ IB
        · rw [o1, o2, k4.2.2.2.2.1]; exact in4
