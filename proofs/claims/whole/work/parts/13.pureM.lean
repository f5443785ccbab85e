/-! what the methods of the reference do, in the words of its state -/
def m_reg (q : Int32) : Bool := !(decide (q < 0)) && !(decide (nI 4 ≤ q))
def m_rfb (s : MS) (v w i j : Nat) : Bool := gM_TH s (4 * v + i) && (match gM_FD s (2 * (4 * v + i) + j) with
  | none => false
  | some k => decide (k.val / 4 = w))
def m_rf1 (s : MS) (v w i : Nat) : Bool := anyN (m_rfb s v w i) 2
def m_refers (s : MS) (v w : Nat) : Bool := anyN (m_rf1 s v w) 4 && !(decide (v = w))
def m_ctb (s : MS) (w v : Nat) : Bool := decide ((gM_ST s v).val = 2) && m_refers s v w
def m_counted (s : MS) (w : Nat) : Nat := cntN (m_ctb s w) 8
theorem m_counted_le (s : MS) (w : Nat) : m_counted s w ≤ 8 := cntN_le _ 8
def m_inb (s : MS) (p : Nat) : Bool := decide ((gM_ST s p).val = 1)
def m_in (s : MS) : Nat := cntN (m_inb s) 8
theorem m_in_le (s : MS) : m_in s ≤ 8 := cntN_le _ 8
def m_un1 (w i : Nat) (s : MS) : MS := uM_MK s (4 * w + i) false
def m_unmark (w : Nat) (s : MS) : MS := fldN (m_un1 w) s 4
def m_po2 (v i j : Nat) (s : MS) : MS := if gM_TH s (4 * v + i) = true then (match gM_FD s (2 * (4 * v + i) + j) with
  | none => s
  | some k => uM_MK s k.val true) else s
def m_po1 (v i : Nat) (s : MS) : MS := fldN (m_po2 v i) (uM_MK s (4 * v + i) (gM_TH s (4 * v + i))) 2
def m_putOut (v : Nat) (s : MS) : MS := uM_US (uM_ST (fldN (m_po1 v) s 4) v ⟨2, by decide⟩) v false
def m_mv (s : MS) : MS := uM_HA s ⟨((gM_HA s).val + 1) % 8, Nat.mod_lt _ (by decide)⟩
def m_pass (s : MS) (sp : Int32) : Bool := decide (¬ (gM_ST s (gM_HA s).val).val = 1) || decide (nI (gM_HA s).val = sp) || gM_US s (gM_HA s).val
def m_cs1 (sp : Int32) (s : MS) : MS := m_mv (if (gM_ST s (gM_HA s).val).val = 1 then (if nI (gM_HA s).val = sp then s else uM_US s (gM_HA s).val false) else s)
def m_chs (sp : Int32) : Nat → MS → MS
  | 0, s => s
  | n + 1, s => if m_pass s sp = true then m_chs sp n (m_cs1 sp s) else s
/-- the hand stops within two rounds -/
def m_stops (s : MS) (sp : Int32) : Prop := m_pass (m_chs sp 16 s) sp = false
theorem m_lt16 {sp : Int32} {s σ : MS} {i : Nat} (hst : m_stops s sp) (e : m_chs sp (16 - i) σ = m_chs sp 16 s) (hp : m_pass σ sp = true) (hi : i ≤ 16) : i < 16 := by
  rcases Nat.lt_or_ge i 16 with q | q
  · exact q
  · exfalso
    rw [show 16 - i = 0 by omega] at e
    have e2 : σ = m_chs sp 16 s := e
    unfold m_stops at hst
    rw [← e2, hp] at hst
    cases hst
def m_cst (s : MS) (sp : Int32) : MS := m_chs sp 16 s
theorem m_cst_of {sp : Int32} {s σ : MS} {i : Nat} (e : m_chs sp (16 - i) σ = m_chs sp 16 s) (hp : m_pass σ sp = false) : σ = m_cst s sp := by
  show σ = m_chs sp 16 s
  rw [← e]
  cases 16 - i with
  | zero => rfl
  | succ n => simp [m_chs, hp]
def m_chp (s : MS) (sp : Int32) : Nat := (gM_HA (m_cst s sp)).val
def m_cho (s : MS) (sp : Int32) : MS := m_mv (m_cst s sp)
theorem m_chp_lt (s : MS) (sp : Int32) : m_chp s sp < 8 := (gM_HA (m_cst s sp)).isLt
def m_one (sp : Int32) (s : MS) : MS := m_putOut (m_chp s sp) (m_cho s sp)
def m_bi1 (v w : Nat) (s : MS) : MS := if (w = v ∨ m_refers s v w = true) ∧ (gM_ST s w).val = 1 ∧ m_counted s w = 0 then m_unmark w s else s
def m_bi0 (s : MS) : MS := if m_in s = (gM_BU s).val then m_one (-1) s else s
def m_bringIn (v : Nat) (s : MS) : MS := fldN (m_bi1 v) (uM_US (uM_ST (m_bi0 s) v ⟨1, by decide⟩) v false) 8
def m_fi (s : MS) : MS := uM_FA s (gM_FA s + nI 1)
def m_touch (v : Nat) (s : MS) : MS := uM_US (if (gM_ST s v).val = 2 then m_bringIn v (m_fi s) else s) v true
def m_by1 (sp : Int32) (_ : Nat) (s : MS) : MS := m_one sp s
def m_byn (s : MS) : Nat := m_in s - (gM_BU s).val
def m_shrink (sp : Int32) (s : MS) : MS := fldN (m_by1 sp) s (m_byn s)
/-- what shrink needs: each time the hand stops, and one page goes -/
def m_shr (sp : Int32) (s : MS) : Prop := ∀ i, i ≤ m_byn s → m_in (fldN (m_by1 sp) s i) = m_in s - i ∧ (gM_BU (fldN (m_by1 sp) s i)).val = (gM_BU s).val ∧ (i < m_byn s → m_stops (fldN (m_by1 sp) s i) sp)
def m_h1 (s : MS) (p r : Nat) : Bool := decide (oI (gM_RG s r) = nI p)
def m_h2 (s : MS) (p f : Nat) : Bool := gM_KP s (f / 2) && decide (oI (gM_FD s f) = nI p)
def m_held (s : MS) (p : Nat) : Bool := (gM_MK s p || anyN (m_h1 s p) 4) || anyN (m_h2 s p) 64
def m_k0 (i : Nat) (s : MS) : MS := uM_KP s i false
def m_swb (s : MS) (p : Nat) : Bool := !(gM_KP s p) && gM_TH s p && decide ((gM_ST s (p / 4)).val = 1) && m_held s p
def m_sw (p : Nat) (x : Bool × MS) : Bool × MS := if m_swb x.2 p = true then (true, uM_KP x.2 p true) else x
def m_sweep (s : MS) : Bool × MS := fldN m_sw (false, s) 32
def m_fx : Nat → MS → MS
  | 0, s => s
  | n + 1, s => if (m_sweep s).1 = true then m_fx n (m_sweep s).2 else (m_sweep s).2
def m_kc (s : MS) : Nat := cntN (gM_KP s) 32
theorem m_sw_cnt (s : MS) : ∀ n, n ≤ 32 → m_kc s + (if (fldN m_sw (false, s) n).1 = true then 1 else 0) ≤ m_kc (fldN m_sw (false, s) n).2
  | 0, _ => Nat.le_refl _
  | n + 1, hn => by
    have ih := m_sw_cnt s n (by omega)
    show m_kc s + (if (m_sw n (fldN m_sw (false, s) n)).1 = true then 1 else 0) ≤ m_kc (m_sw n (fldN m_sw (false, s) n)).2
    generalize fldN m_sw (false, s) n = x at ih ⊢
    unfold m_sw
    by_cases q : m_swb x.2 n = true
    · rw [if_pos q]
      have q2 : gM_KP x.2 n = false := by
        unfold m_swb at q
        cases z : gM_KP x.2 n with
        | false => rfl
        | true => rw [z] at q; simp at q
      have e : m_kc (uM_KP x.2 n true) = m_kc x.2 + 1 := by
        show cntN (va_up (gM_KP x.2) n true) 32 = cntN (gM_KP x.2) 32 + 1
        rw [cntN_up q2, if_pos (by omega)]
      show m_kc s + (if true = true then 1 else 0) ≤ m_kc (uM_KP x.2 n true)
      rw [e, if_pos rfl]
      have h0 : 0 ≤ (if x.1 = true then 1 else 0) := Nat.zero_le _
      omega
    · rw [if_neg q]; exact ih
theorem m_kc_le (s : MS) : m_kc s ≤ 32 := cntN_le _ 32
def m_wi0 (s : MS) : MS := m_fx 33 (fldN m_k0 s 32)
theorem m_fx_t {s σ τ : MS} {b : Bool} {i : Nat} (ht : i ≤ m_kc σ ∧ m_fx (33 - i) σ = m_wi0 s) (e : fldN m_sw (false, σ) 32 = (b, τ)) : b = true → i + 1 ≤ m_kc τ ∧ m_fx (33 - (i + 1)) τ = m_wi0 s := by
  intro hb
  subst hb
  have h1 := m_sw_cnt σ 32 (Nat.le_refl _)
  rw [e] at h1
  have hk := m_kc_le σ
  have h2 : m_kc σ + 1 ≤ m_kc τ := by simpa using h1
  refine ⟨by omega, ?_⟩
  have e2 : m_sweep σ = (true, τ) := e
  rw [← ht.2, show 33 - i = (33 - (i + 1)) + 1 by omega]
  simp [m_fx, e2]
theorem m_fx_f {s σ τ : MS} {b : Bool} {i : Nat} (ht : i ≤ m_kc σ ∧ m_fx (33 - i) σ = m_wi0 s) (e : fldN m_sw (false, σ) 32 = (b, τ)) : b = false → τ = m_wi0 s := by
  intro hb
  subst hb
  have hk := m_kc_le σ
  have e2 : m_sweep σ = (false, τ) := e
  rw [← ht.2, show 33 - i = (32 - i) + 1 by omega]
  simp [m_fx, e2]
def m_gob (s : MS) (p : Nat) : Bool := gM_TH s p && decide ((gM_ST s (p / 4)).val = 1) && !(gM_KP s p)
def m_co1 (p : Nat) (x : Nat × MS) : Nat × MS := if m_gob x.2 p = true then (x.1 + 1, uM_MK (uM_TH x.2 p false) p false) else x
def m_cog (s : MS) : Nat × MS := fldN m_co1 (0, m_wi0 s) 32
def m_bab (s : MS) (v i : Nat) : Bool := gM_TH s (4 * v + i)
def m_co2 (v : Nat) (s : MS) : MS := if (gM_ST s v).val = 1 ∧ anyN (m_bab s v) 4 = false then uM_US (uM_ST s v ⟨0, by decide⟩) v false else s
def m_gone (s : MS) : Nat := (m_cog s).1
def m_within (s : MS) : MS := fldN m_co2 (m_cog s).2 8
def m_al1 (v : Nat) (s : MS) : MS := if (gM_ST s v).val = 2 then m_fi (uM_ST s v ⟨1, by decide⟩) else s
def m_al2 (p : Nat) (s : MS) : MS := uM_MK s p false
def m_all0 (s : MS) : MS := fldN m_al2 (fldN m_al1 s 8) 32
def m_all (s : MS) : MS := m_within (m_all0 s)
def m_frb (s : MS) (p : Nat) : Bool := !(gM_TH s p) && decide ((gM_ST s (p / 4)).val = 1)
def m_free (s : MS) : Option (Fin 32) := toP (fstN (m_frb s) 32)
def m_emb (s : MS) (v : Nat) : Bool := decide ((gM_ST s v).val = 0)
/-- the state behind find's loop: the empty page v is taken -/
def m_fd1 (b : Bool) (v : Nat) (s : MS) : MS := uM_ST (if b = true ∧ m_in s = (gM_BU s).val then m_one (-1) s else s) v ⟨1, by decide⟩
def m_fpe (s : MS) : Option (Fin 32) := match fstN (m_emb s) 8 with
  | none => none
  | some v => toP (some (4 * v))
def m_fp (s : MS) : Option (Fin 32) := match m_free s with
  | some k => some k
  | none => m_fpe s
def m_fs1 (b : Bool) (s : MS) : MS := match m_free s with
  | some _ => s
  | none => match fstN (m_emb s) 8 with
    | none => s
    | some v => m_fd1 b v s
def m_fs (b : Bool) (s : MS) : MS := match m_fp s with
  | none => m_fs1 b s
  | some k => uM_US (m_fs1 b s) (k.val / 4) true
theorem m_fp_1 {s : MS} {k : Fin 32} (h : m_free s = some k) : m_fp s = some k := by
  unfold m_fp
  rw [h]
theorem m_fp_2 {s : MS} (h : m_free s = none) : m_fp s = m_fpe s := by
  unfold m_fp
  rw [h]
theorem m_fpe_1 {s : MS} {v : Nat} (h : fstN (m_emb s) 8 = some v) : m_fpe s = toP (some (4 * v)) := by
  unfold m_fpe
  rw [h]
theorem m_fpe_2 {s : MS} (h : fstN (m_emb s) 8 = none) : m_fpe s = none := by
  unfold m_fpe
  rw [h]
theorem m_fs1_1 {b : Bool} {s : MS} {k : Fin 32} (h : m_free s = some k) : m_fs1 b s = s := by
  unfold m_fs1
  rw [h]
theorem m_fs1_2 {b : Bool} {s : MS} {v : Nat} (h : m_free s = none) (h2 : fstN (m_emb s) 8 = some v) : m_fs1 b s = m_fd1 b v s := by
  unfold m_fs1
  rw [h, h2]
theorem m_fs1_3 {b : Bool} {s : MS} (h : m_free s = none) (h2 : fstN (m_emb s) 8 = none) : m_fs1 b s = s := by
  unfold m_fs1
  rw [h, h2]
theorem m_fs_1 {b : Bool} {s : MS} {k : Fin 32} (h : m_fp s = some k) : m_fs b s = uM_US (m_fs1 b s) (k.val / 4) true := by
  unfold m_fs
  rw [h]
theorem m_fs_2 {b : Bool} {s : MS} (h : m_fp s = none) : m_fs b s = m_fs1 b s := by
  unfold m_fs
  rw [h]
theorem m_fd1_pos {b : Bool} {v : Nat} {s : MS} (h1 : b = true) (h2 : m_in s = (gM_BU s).val) : m_fd1 b v s = uM_ST (m_one (-1) s) v ⟨1, by decide⟩ := by
  unfold m_fd1
  rw [if_pos ⟨h1, h2⟩]
theorem m_fd1_neg {b : Bool} {v : Nat} {s : MS} (h : ¬ (b = true ∧ m_in s = (gM_BU s).val)) : m_fd1 b v s = uM_ST s v ⟨1, by decide⟩ := by
  unfold m_fd1
  rw [if_neg h]
def m_place (q : Nat) (v : Int32) (s : MS) : MS := uM_MK (uM_FD (uM_FD (uM_VA (uM_TH s q true) q v) (2 * q) none) (2 * q + 1) none) q false
theorem m_reg_of {q : Int32} (h : m_reg q = true) : ∃ j : Nat, j < 4 ∧ q = nI j := by
  unfold m_reg at h
  rcases pk_ix q (n := 4) (by decide) with h1 | h1 | h1
  · simp [h1] at h
  · simp [h1] at h
  · exact h1
def m_t0 (s : MS) : MS := uM_TR s (nI 0)
def m_mkA (s : MS) : MS := m_within (m_fs true s)
def m_mkB (s : MS) : MS := m_all (m_fs true (m_mkA s))
def m_put (r : Nat) (k : Fin 32) (s : MS) : MS := uM_RG s r (some k)
/-- make, when the register is one: what it answers, and the state -/
def m_mkv (s : MS) : Int32 := match m_fp s with
  | some k => nI k.val
  | none => match m_fp (m_mkA s) with
    | some k => nI k.val
    | none => match m_fp (m_mkB s) with
      | some k => nI k.val
      | none => nI 0
def m_mks (r : Nat) (v : Int32) (s : MS) : MS := match m_fp s with
  | some k => m_put r k (m_place k.val v (m_fs true s))
  | none => match m_fp (m_mkA s) with
    | some k => m_put r k (m_place k.val v (m_fs true (m_mkA s)))
    | none => match m_fp (m_mkB s) with
      | some k => m_put r k (m_shrink (nI (k.val / 4)) (m_place k.val v (m_fs false (m_mkB s))))
      | none => uM_TR (m_shrink (-1) (m_fs false (m_mkB s))) (nI 2)
/-- find's own need: the hand stops where a page must go -/
def m_fok (b : Bool) (s : MS) : Prop := b = true → m_in s = (gM_BU s).val → m_stops s (-1)
theorem m_fok_f (s : MS) : m_fok false s := fun h => by cases h
/-- what make needs -/
def m_mok (v : Int32) (s : MS) : Prop := m_fok true s ∧ (m_fp s = none → m_fok true (m_mkA s) ∧ (m_fp (m_mkA s) = none → (∀ k, m_fp (m_mkB s) = some k → m_shr (nI (k.val / 4)) (m_place k.val v (m_fs false (m_mkB s)))) ∧ (m_fp (m_mkB s) = none → m_shr (-1) (m_fs false (m_mkB s)))))
def m_tok (v : Nat) (s : MS) : Prop := (gM_ST s v).val = 2 → m_in s = (gM_BU s).val → m_stops (m_fi s) (-1)
theorem m_rg_un (w i : Nat) (s : MS) : gM_RG (m_un1 w i s) = gM_RG s := rfl
theorem m_rg_po2 (v i j : Nat) (s : MS) : gM_RG (m_po2 v i j s) = gM_RG s := by
  unfold m_po2
  split
  · split <;> rfl
  · rfl
theorem m_rg_po1 (v i : Nat) (s : MS) : gM_RG (m_po1 v i s) = gM_RG s := by
  unfold m_po1
  rw [fldN_keep gM_RG (m_rg_po2 v i)]; rfl
theorem m_rg_putOut (v : Nat) (s : MS) : gM_RG (m_putOut v s) = gM_RG s := by
  show gM_RG (fldN (m_po1 v) s 4) = gM_RG s
  rw [fldN_keep gM_RG (m_rg_po1 v)]
theorem m_rg_cs1 (sp : Int32) (s : MS) : gM_RG (m_cs1 sp s) = gM_RG s := by
  unfold m_cs1
  show gM_RG (if (gM_ST s (gM_HA s).val).val = 1 then (if nI (gM_HA s).val = sp then s else uM_US s (gM_HA s).val false) else s) = gM_RG s
  split
  · split <;> rfl
  · rfl
theorem m_rg_chs (sp : Int32) : ∀ (n : Nat) (s : MS), gM_RG (m_chs sp n s) = gM_RG s
  | 0, _ => rfl
  | n + 1, s => by
    unfold m_chs
    split
    · rw [m_rg_chs sp n, m_rg_cs1]
    · rfl
theorem m_rg_one (sp : Int32) (s : MS) : gM_RG (m_one sp s) = gM_RG s := by
  unfold m_one
  rw [m_rg_putOut]
  show gM_RG (m_chs sp 16 s) = gM_RG s
  exact m_rg_chs sp 16 s
theorem m_rg_bi1 (v w : Nat) (s : MS) : gM_RG (m_bi1 v w s) = gM_RG s := by
  unfold m_bi1
  split
  · unfold m_unmark
    rw [fldN_keep gM_RG (m_rg_un w)]
  · rfl
theorem m_rg_bringIn (v : Nat) (s : MS) : gM_RG (m_bringIn v s) = gM_RG s := by
  unfold m_bringIn
  rw [fldN_keep gM_RG (m_rg_bi1 v)]
  show gM_RG (m_bi0 s) = gM_RG s
  unfold m_bi0
  split
  · exact m_rg_one _ _
  · rfl
theorem m_rg_touch (v : Nat) (s : MS) : gM_RG (m_touch v s) = gM_RG s := by
  show gM_RG (if (gM_ST s v).val = 2 then m_bringIn v (m_fi s) else s) = gM_RG s
  split
  · rw [m_rg_bringIn]; rfl
  · rfl
def m_page (s : MS) (q : Int32) : Int32 := if h_pg q = true then (if (gM_ST s q.toNatClampNeg).val = 0 then nI 0 else if (gM_ST s q.toNatClampNeg).val = 2 then nI 3 else if gM_US s q.toNatClampNeg = true then nI 2 else nI 1) else -1
def m_count (s : MS) (q : Int32) : Int32 := if h_pg q = true then nI (m_counted s q.toNatClampNeg) else -1
def m_pl0 (s : MS) (v i n : Nat) : Nat := 2 * n + (if gM_TH s (4 * v + (3 - i)) = true then 1 else 0)
def m_pl1 (s : MS) (v k n : Nat) : Nat := if gM_TH s (4 * v + k) = true ∧ gM_MK s (4 * v + k) = true then n + 16 * 2 ^ k else n
def m_places (s : MS) (q : Int32) : Int32 := if h_pg q = true then nI (fldN (m_pl1 s q.toNatClampNeg) (fldN (m_pl0 s q.toNatClampNeg) 0 4) 4) else -1
def m_objects (s : MS) : Nat := cntN (gM_TH s) 32
/-- store, load, value, copy, drop, budget: refused by 1, by 2, or done -/
def m_fld (f : Int32) : Bool := !(decide (f < 0)) && !(decide (nI 1 < f))
theorem m_fld_of {q : Int32} (h : m_fld q = true) : ∃ j : Nat, j < 2 ∧ q = nI j := by
  unfold m_fld at h
  rcases pk_ix q (n := 2) (by decide) with h1 | h1 | h1
  · simp [h1] at h
  · exfalso
    have h2 : nI 1 < q := Int32.lt_of_lt_of_le (by decide) h1
    simp [h2] at h
  · exact h1
