/-! what the methods of the class do, in the words of its state -/
def toP (x : Option Nat) : Option (Fin 32) := match x with
  | none => none
  | some k => if h : k < 32 then some ⟨k, h⟩ else none
theorem toP_some {k : Nat} (h : k < 32) : toP (some k) = some ⟨k, h⟩ := dif_pos h
def h_inb (s : HS) (p : Nat) : Bool := decide ((gH_ST s p).val = 1)
def h_in (s : HS) : Nat := cntN (h_inb s) 8
theorem h_in_le (s : HS) : h_in s ≤ 8 := cntN_le _ 8
def h_rfb (s : HS) (v w i : Nat) : Bool := match gH_FD s (2 * (4 * v) + i) with
  | none => false
  | some k => decide (k.val / 4 = w)
def h_refers (s : HS) (v w : Nat) : Bool := !(decide (v = w)) && anyN (h_rfb s v w) 8
def h_pg (p : Int32) : Bool := !(decide (p < 0)) && !(decide (nI 8 ≤ p))
def h_mv (s : HS) : HS := uH_HA s ⟨((gH_HA s).val + 1) % 8, Nat.mod_lt _ (by decide)⟩
def h_passes (s : HS) (sp : Int32) : Bool := decide (¬ (gH_ST s (gH_HA s).val).val = 1) || decide (nI (gH_HA s).val = sp) || gH_US s (gH_HA s).val
def h_cs1 (sp : Int32) (s : HS) : HS := h_mv (if nI (gH_HA s).val = sp then s else uH_US s (gH_HA s).val false)
def h_chs (sp : Int32) : Nat → HS → HS
  | 0, s => s
  | n + 1, s => if h_passes s sp = true then h_chs sp n (h_cs1 sp s) else s
def h_cst (s : HS) (sp : Int32) : HS := h_chs sp 16 s
def h_chp (s : HS) (sp : Int32) : Nat := (gH_HA (h_cst s sp)).val
def h_cho (s : HS) (sp : Int32) : HS := h_mv (h_cst s sp)
theorem h_chp_lt (s : HS) (sp : Int32) : h_chp s sp < 8 := (gH_HA (h_cst s sp)).isLt
def h_bk1 (v i : Nat) (s : HS) : HS := if gH_TK s (4 * v + i) = true then uH_BM s (4 * v + i) true else s
def h_bk2 (v i : Nat) (s : HS) : HS := match gH_FD s (2 * (4 * v) + i) with
  | none => s
  | some k => uH_BM s k.val true
def h_bkall (v : Nat) (s : HS) : HS := fldN (h_bk2 v) (fldN (h_bk1 v) s 4) 8
def h_cinc (v w : Nat) (s : HS) : HS := if h_refers s v w = true then uH_CT s w (gH_CT s w + nI 1) else s
def h_putOut (v : Nat) (s : HS) : HS := uH_US (uH_ST (fldN (h_cinc v) (h_bkall v s) 8) v ⟨2, by decide⟩) v false
def h_fg1 (w i : Nat) (s : HS) : HS := uH_BM s (4 * w + i) false
def h_forget (w : Nat) (s : HS) : HS := if (gH_ST s w).val = 1 then (if gH_CT s w = 0 then fldN (h_fg1 w) s 4 else s) else s
def h_bi1 (v w : Nat) (s : HS) : HS := if h_refers s v w = true then h_forget w (uH_CT s w (gH_CT s w - nI 1)) else s
def h_bringIn (v : Nat) (s : HS) : HS := h_forget v (fldN (h_bi1 v) (uH_US (uH_ST s v ⟨1, by decide⟩) v false) 8)
def h_fi (s : HS) : HS := uH_FA s (gH_FA s + nI 1)
def h_ba1 (v : Nat) (s : HS) : HS := if (gH_ST s v).val = 2 then h_bringIn v (h_fi s) else s
def h_bringAll (s : HS) : HS := fldN h_ba1 s 8
def h_room (s : HS) : HS := if h_in s < (gH_BU s).val then s else h_putOut (h_chp s (-1)) (h_cho s (-1))
def h_touch (v : Nat) (s : HS) : HS := uH_US (if (gH_ST s v).val = 2 then h_bringIn v (h_room (h_fi s)) else s) v true
def h_by1 (sp : Int32) (_ : Nat) (s : HS) : HS := h_putOut (h_chp s sp) (h_cho s sp)
def h_byn (s : HS) : Nat := h_in s - (gH_BU s).val
def h_beyond (sp : Int32) (s : HS) : HS := fldN (h_by1 sp) s (h_byn s)
def h_keep (x : Option (Fin 32)) (s : HS) : HS := match x with
  | none => s
  | some k => if gH_KP s k.val = true then s else if (gH_ST s (k.val / 4)).val = 1 then uH_KS (uH_KL (uH_KP s k.val true) (gH_KS s) k) (gH_KS s + 1) else s
def h_k0 (i : Nat) (s : HS) : HS := uH_KP s i false
def h_kr (r : Nat) (s : HS) : HS := h_keep (gH_RG s r) s
def h_kb (p : Nat) (s : HS) : HS := if gH_BM s p = true then h_keep (toP (some p)) s else s
def h_wk (i f : Nat) (s : HS) : HS := h_keep (gH_FD s (2 * (gH_KL s i).val + f)) s
def h_wl : Nat → Nat → HS → HS
  | 0, _, s => s
  | n + 1, i, s => if i < gH_KS s then h_wl n (i + 1) (fldN (h_wk i) s 2) else s
theorem h_wl_stop {n i : Nat} {s : HS} (h : gH_KS s ≤ i) : h_wl n i s = s := by
  cases n with
  | zero => rfl
  | succ n => unfold h_wl; rw [if_neg (Nat.not_lt_of_le h)]
theorem h_wl_end {i : Nat} {s : HS} (h : 32 ≤ i) : h_wl (32 - i) i s = s := by
  rw [show 32 - i = 0 by omega]; rfl
def h_mk0 (s : HS) : HS := uH_KS (fldN h_k0 s 32) 0
def h_mk1 (s : HS) : HS := fldN h_kb (fldN h_kr (h_mk0 s) 4) 32
def h_mark (s : HS) : HS := h_wl 32 0 (h_mk1 s)
def h_rm1 (p f : Nat) (s : HS) : HS := uH_FD s (2 * p + f) none
def h_remove (p : Nat) (s : HS) : HS := fldN (h_rm1 p) (uH_TK s p false) 2
def h_gob (s : HS) (p : Nat) : Bool := gH_TK s p && decide ((gH_ST s (p / 4)).val = 1) && !(gH_KP s p)
def h_co1 (p : Nat) (x : Nat × HS) : Nat × HS := if h_gob x.2 p = true then (x.1 + 1, h_remove p x.2) else x
def h_bab (s : HS) (v i : Nat) : Bool := gH_TK s (4 * v + i)
def h_bare (s : HS) (v : Nat) : Bool := !(anyN (h_bab s v) 4)
def h_co2 (v : Nat) (s : HS) : HS := if (gH_ST s v).val = 1 ∧ h_bare s v = true then uH_US (uH_ST s v ⟨0, by decide⟩) v false else s
def h_cog (s : HS) : Nat × HS := fldN h_co1 (0, h_mark s) 32
def h_gone (s : HS) : Nat := (h_cog s).1
def h_collect (s : HS) : HS := fldN h_co2 (h_cog s).2 8
def h_frb (s : HS) (p : Nat) : Bool := !(gH_TK s p) && decide ((gH_ST s (p / 4)).val = 1)
def h_free (s : HS) : Option (Fin 32) := toP (fstN (h_frb s) 32)
def h_emb (s : HS) (v : Nat) : Bool := decide ((gH_ST s v).val = 0)
def h_empty (s : HS) : Option (Fin 32) := match fstN (h_emb s) 8 with
  | none => none
  | some v => toP (some (4 * v))
def h_oc1 (v : Nat) (s : HS) : HS := if (gH_ST s v).val = 0 then uH_CT (uH_ST s v ⟨1, by decide⟩) v (nI 0) else s
def h_occupy (p : Nat) (s : HS) : HS := uH_TK (uH_US (h_oc1 (p / 4) s) (p / 4) true) p true
def h_tkp (s : HS) : Option (Fin 32) := match h_free s with
  | some k => some k
  | none => h_empty s
def h_tks (b : Bool) (s : HS) : HS := match h_free s with
  | some k => h_occupy k.val s
  | none => match h_empty s with
    | some k => h_occupy k.val (if b = true then h_room s else s)
    | none => s
theorem h_tks_1 {b : Bool} {s : HS} {k : Fin 32} (h : h_free s = some k) : h_tks b s = h_occupy k.val s := by
  unfold h_tks
  rw [h]
theorem h_tks_2 {b : Bool} {s : HS} {k : Fin 32} (h : h_free s = none) (h2 : h_empty s = some k) : h_tks b s = h_occupy k.val (if b = true then h_room s else s) := by
  unfold h_tks
  rw [h, h2]
theorem h_tks_3 {b : Bool} {s : HS} (h : h_free s = none) (h2 : h_empty s = none) : h_tks b s = s := by
  unfold h_tks
  rw [h, h2]
theorem h_tkp_1 {s : HS} {k : Fin 32} (h : h_free s = some k) : h_tkp s = some k := by
  unfold h_tkp
  rw [h]
theorem h_tkp_2 {s : HS} (h : h_free s = none) : h_tkp s = h_empty s := by
  unfold h_tkp
  rw [h]
def h_spp (x : Option (Fin 32)) : Int32 := match x with
  | none => -1
  | some k => nI (k.val / 4)
def h_tt0 (s : HS) : HS := h_collect (h_bringAll s)
def h_tts (s : HS) : HS := h_beyond (h_spp (h_tkp (h_tt0 s))) (h_tks false (h_tt0 s))
def h_ttp (s : HS) : Option (Fin 32) := h_tkp (h_tt0 s)
def KI (s : HS) : Prop := gH_KS s = cntN (gH_KP s) 32
theorem cntN_up {f : Nat → Bool} {k : Nat} (h : f k = false) : ∀ {n : Nat}, cntN (va_up f k true) n = cntN f n + (if k < n then 1 else 0)
  | 0 => rfl
  | n + 1 => by
    show cntN (va_up f k true) n + (if va_up f k true n = true then 1 else 0) = cntN f n + (if f n = true then 1 else 0) + (if k < n + 1 then 1 else 0)
    rw [cntN_up h]
    by_cases q : n = k
    · have e : va_up f k true n = true := by rw [q]; exact if_pos rfl
      have e2 : f n = false := by rw [q]; exact h
      rw [e, e2, if_neg (show ¬ k < n by omega), if_pos (show k < n + 1 by omega)]; simp
    · rw [show va_up f k true n = f n from if_neg q]
      by_cases z : k < n
      · rw [if_pos z, if_pos (show k < n + 1 by omega)]; omega
      · rw [if_neg z, if_neg (show ¬ k < n + 1 by omega)]; omega
theorem cntN_lt {f : Nat → Bool} {k : Nat} (h : f k = false) : ∀ {n : Nat}, k < n → cntN f n < n
  | 0, hk => absurd hk (Nat.not_lt_zero k)
  | n + 1, hk => by
    show cntN f n + (if f n = true then 1 else 0) < n + 1
    have := cntN_le f n
    rcases Nat.lt_or_ge k n with q | q
    · have := cntN_lt h q
      split <;> omega
    · have e : k = n := by omega
      subst e
      rw [h]; simp; omega
theorem KI_lt {s : HS} (h : KI s) {k : Nat} (hk : k < 32) (h2 : gH_KP s k = false) : gH_KS s < 32 := by
  rw [h]
  exact cntN_lt h2 hk
theorem KI_keep {s : HS} (x : Option (Fin 32)) (h : KI s) : KI (h_keep x s) := by
  unfold h_keep
  cases x with
  | none => exact h
  | some k =>
    dsimp only
    by_cases q : gH_KP s k.val = true
    · rw [if_pos q]; exact h
    · rw [if_neg q]
      split
      · have q2 : gH_KP s k.val = false := by cases z : gH_KP s k.val with
          | false => rfl
          | true => exact absurd z q
        show gH_KS s + 1 = cntN (va_up (gH_KP s) k.val true) 32
        rw [cntN_up q2, if_pos k.isLt, h]
      · exact h
theorem k0_at (s : HS) : ∀ n j, gH_KP (fldN h_k0 s n) j = if j < n then false else gH_KP s j
  | 0, j => by rw [if_neg (Nat.not_lt_zero j)]; rfl
  | n + 1, j => by
    show va_up (gH_KP (fldN h_k0 s n)) n false j = _
    unfold va_up
    by_cases q : j = n
    · rw [if_pos q, if_pos (show j < n + 1 by omega)]
    · rw [if_neg q, k0_at s n j]
      by_cases q2 : j < n
      · rw [if_pos q2, if_pos (show j < n + 1 by omega)]
      · rw [if_neg q2, if_neg (show ¬ j < n + 1 by omega)]
theorem cntN_0 {f : Nat → Bool} : ∀ {n : Nat}, (∀ j, j < n → f j = false) → cntN f n = 0
  | 0, _ => rfl
  | n + 1, h => by
    show cntN f n + (if f n = true then 1 else 0) = 0
    rw [cntN_0 (fun j hj => h j (by omega)), h n (by omega)]; rfl
theorem k0_cnt (s : HS) (N : Nat) : cntN (gH_KP (fldN h_k0 s N)) N = 0 := cntN_0 (fun j hj => by rw [k0_at s N j, if_pos hj])
theorem KI_of (X : HS) (h : cntN (gH_KP X) 32 = 0) : KI (uH_KS X 0) := h.symm
theorem KI_0 (s : HS) : KI (h_mk0 s) := KI_of (fldN h_k0 s 32) (k0_cnt s 32)
theorem KI_kr {s : HS} (r : Nat) (h : KI s) : KI (h_kr r s) := KI_keep _ h
theorem KI_kb {s : HS} (p : Nat) (h : KI s) : KI (h_kb p s) := by
  unfold h_kb
  split
  · exact KI_keep _ h
  · exact h
theorem KI_wk {s : HS} (i f : Nat) (h : KI s) : KI (h_wk i f s) := KI_keep _ h
theorem KI_le {s : HS} (h : KI s) : gH_KS s ≤ 32 := by rw [h]; exact cntN_le _ 32
/-- the budget stays -/
theorem fldN_keep {α β : Type} {F : Nat → α → α} (G : α → β) (h : ∀ i s, G (F i s) = G s) (s : α) : ∀ n, G (fldN F s n) = G s
  | 0 => rfl
  | n + 1 => by
    show G (F n (fldN F s n)) = G s
    rw [h, fldN_keep G h s n]
theorem bu_bk1 (v i : Nat) (s : HS) : gH_BU (h_bk1 v i s) = gH_BU s := by unfold h_bk1; split <;> rfl
theorem bu_bk2 (v i : Nat) (s : HS) : gH_BU (h_bk2 v i s) = gH_BU s := by unfold h_bk2; split <;> rfl
theorem bu_cinc (v i : Nat) (s : HS) : gH_BU (h_cinc v i s) = gH_BU s := by unfold h_cinc; split <;> rfl
theorem bu_putOut (v : Nat) (s : HS) : gH_BU (h_putOut v s) = gH_BU s := by
  show gH_BU (fldN (h_cinc v) (h_bkall v s) 8) = gH_BU s
  rw [fldN_keep gH_BU (bu_cinc v)]
  unfold h_bkall
  rw [fldN_keep gH_BU (bu_bk2 v), fldN_keep gH_BU (bu_bk1 v)]
theorem bu_cs1 (sp : Int32) (s : HS) : gH_BU (h_cs1 sp s) = gH_BU s := by
  unfold h_cs1
  show gH_BU (if nI (gH_HA s).val = sp then s else uH_US s (gH_HA s).val false) = gH_BU s
  split <;> rfl
theorem bu_chs (sp : Int32) : ∀ (n : Nat) (s : HS), gH_BU (h_chs sp n s) = gH_BU s
  | 0, _ => rfl
  | n + 1, s => by
    unfold h_chs
    split
    · rw [bu_chs sp n, bu_cs1]
    · rfl
theorem bu_by1 (sp : Int32) (i : Nat) (s : HS) : gH_BU (h_by1 sp i s) = gH_BU s := by
  unfold h_by1
  rw [bu_putOut]
  show gH_BU (h_chs sp 16 s) = gH_BU s
  exact bu_chs sp 16 s
theorem h_pg_of {q : Int32} (h : h_pg q = true) : ∃ j : Nat, j < 8 ∧ q = nI j := by
  unfold h_pg at h
  rcases pk_ix q (n := 8) (by decide) with h1 | h1 | h1
  · simp [h1] at h
  · simp [h1] at h
  · exact h1
def h_page (s : HS) (q : Int32) : Int32 := if h_pg q = true then (if (gH_ST s q.toNatClampNeg).val = 0 then nI 0 else if (gH_ST s q.toNatClampNeg).val = 2 then nI 3 else if gH_US s q.toNatClampNeg = true then nI 2 else nI 1) else -1
def h_count (s : HS) (q : Int32) : Int32 := if h_pg q = true then gH_CT s q.toNatClampNeg else -1
def h_pl1 (s : HS) (v k n : Nat) : Nat := (n + (if gH_TK s (4 * v + k) = true then 1 * 2 ^ k else 0)) + (if gH_BM s (4 * v + k) = true then 16 * 2 ^ k else 0)
def h_places (s : HS) (q : Int32) : Int32 := if h_pg q = true then nI (fldN (h_pl1 s q.toNatClampNeg) 0 4) else -1
def h_objects (s : HS) : Nat := cntN (gH_TK s) 32
