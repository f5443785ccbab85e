/-! a page comes in: both sides -/
def m_bc (v : Nat) (m : MS) : MS := fldN (m_bi1 v) (uM_US (uM_ST m v ⟨1, by decide⟩) v false) 8
theorem m_bringIn_bc (v : Nat) (m : MS) : m_bringIn v m = m_bc v (m_bi0 m) := rfl
/-- a page's bits cleared -/
theorem fld_clr (w : Nat) (f : Nat → Bool) : ∀ n, n ≤ 4 → ∀ q, fldN (fun i f => va_up f (4 * w + i) false) f n q = if q / 4 = w ∧ q % 4 < n then false else f q
  | 0, _, q => by rw [if_neg (by omega)]; rfl
  | n + 1, hn, q => by
    show va_up (fldN (fun i f => va_up f (4 * w + i) false) f n) (4 * w + n) false q = _
    by_cases z : q = 4 * w + n
    · rw [z, up_s, if_pos (by omega)]
    · rw [up_n z, fld_clr w f n (by omega) q]
      by_cases y : q / 4 = w ∧ q % 4 < n
      · rw [if_pos y, if_pos (by omega)]
      · rw [if_neg y, if_neg (by omega)]
def clr (w : Nat) (f : Nat → Bool) : Nat → Bool := fun q => if q / 4 = w then false else f q
theorem fld_clr4 (w : Nat) (f : Nat → Bool) : fldN (fun i f => va_up f (4 * w + i) false) f 4 = clr w f := by
  funext q
  rw [fld_clr w f 4 (Nat.le_refl 4) q]
  unfold clr
  by_cases y : q / 4 = w
  · rw [if_pos ⟨y, by omega⟩, if_pos y]
  · rw [if_neg (fun z => y z.1), if_neg y]
theorem m_unmark_eq (w : Nat) (m : MS) : m_unmark w m = wMK m (clr w (gM_MK m)) := by
  unfold m_unmark
  have a := fld_lift (F := m_un1 w) (F' := fun i f => va_up f (4 * w + i) false) (wMK m) (fun i f => rfl) (gM_MK m) 4
  have a0 : wMK m (gM_MK m) = m := rfl
  rw [a0] at a
  rw [a, fld_clr4]
theorem h_forget_eq (w : Nat) (h : HS) : h_forget w h = wBM h (if (gH_ST h w).val = 1 ∧ gH_CT h w = 0 then clr w (gH_BM h) else gH_BM h) := by
  unfold h_forget
  by_cases q : (gH_ST h w).val = 1
  · rw [if_pos q]
    by_cases q2 : gH_CT h w = 0
    · rw [if_pos q2, if_pos ⟨q, q2⟩]
      have a := fld_lift (F := h_fg1 w) (F' := fun i f => va_up f (4 * w + i) false) (wBM h) (fun i f => rfl) (gH_BM h) 4
      have a0 : wBM h (gH_BM h) = h := rfl
      rw [a0] at a
      rw [a, fld_clr4]
    · rw [if_neg q2, if_neg (fun z => q2 z.2)]; rfl
  · rw [if_neg q, if_neg (fun z => q z.1)]; rfl
/-- the loop over the pages, on the bits alone -/
theorem fld_pages (c : Nat → Bool) (f : Nat → Bool) : ∀ n q, fldN (fun w f => if c w = true then clr w f else f) f n q = if q / 4 < n ∧ c (q / 4) = true then false else f q
  | 0, q => by rw [if_neg (by omega)]; rfl
  | n + 1, q => by
    show (if c n = true then clr n (fldN (fun w f => if c w = true then clr w f else f) f n) else fldN (fun w f => if c w = true then clr w f else f) f n) q = _
    by_cases hc : c n = true
    · rw [if_pos hc]
      unfold clr
      by_cases z : q / 4 = n
      · rw [if_pos z, if_pos ⟨by omega, by rw [z]; exact hc⟩]
      · rw [if_neg z]
        have ih := fld_pages c f n q
        unfold clr at ih
        rw [ih]
        by_cases y : q / 4 < n ∧ c (q / 4) = true
        · rw [if_pos y, if_pos ⟨by omega, y.2⟩]
        · rw [if_neg y, if_neg (fun x => y ⟨by omega, x.2⟩)]
    · rw [if_neg hc, fld_pages c f n q]
      by_cases y : q / 4 < n ∧ c (q / 4) = true
      · rw [if_pos y, if_pos ⟨by omega, y.2⟩]
      · rw [if_neg y, if_neg (fun x => y ⟨by
          rcases Nat.lt_or_ge (q / 4) n with a | a
          · exact a
          · have e : q / 4 = n := by omega
            rw [e] at x
            exact absurd x.2 hc, x.2⟩)]
/-- the state in which v is in, its used bit clear -/
def m_b1 (v : Nat) (m : MS) : MS := uM_US (uM_ST m v ⟨1, by decide⟩) v false
def m_bcc (v : Nat) (m1 : MS) (w : Nat) : Bool := decide ((w = v ∨ m_refers m1 v w = true) ∧ (gM_ST m1 w).val = 1 ∧ m_counted m1 w = 0)
theorem m_bc_eq (v : Nat) (m : MS) : m_bc v m = wMK (m_b1 v m) (fun q => if q / 4 < 8 ∧ m_bcc v (m_b1 v m) (q / 4) = true then false else gM_MK m q) := by
  unfold m_bc
  show fldN (m_bi1 v) (m_b1 v m) 8 = _
  generalize hm1 : m_b1 v m = m1
  have hmk : gM_MK m1 = gM_MK m := by rw [← hm1]; rfl
  have e : ∀ w f, m_bi1 v w (wMK m1 f) = wMK m1 (if m_bcc v m1 w = true then clr w f else f) := by
    intro w f
    unfold m_bi1
    have a1 : m_refers (wMK m1 f) v w = m_refers m1 v w := rfl
    have a2 : m_counted (wMK m1 f) w = m_counted m1 w := rfl
    have a3 : gM_ST (wMK m1 f) = gM_ST m1 := rfl
    rw [a1, a2, a3, m_unmark_eq]
    unfold m_bcc
    by_cases q : (w = v ∨ m_refers m1 v w = true) ∧ (gM_ST m1 w).val = 1 ∧ m_counted m1 w = 0
    · rw [if_pos q, if_pos (by simpa using q)]; rfl
    · rw [if_neg q, if_neg (by simpa using q)]
  have a := fld_lift (wMK m1) e (gM_MK m1) 8
  have a0 : wMK m1 (gM_MK m1) = m1 := rfl
  rw [a0] at a
  rw [a]
  congr 1
  funext q
  rw [fld_pages, hmk]
def h_b1 (v : Nat) (h : HS) : HS := uH_US (uH_ST h v ⟨1, by decide⟩) v false
def wBC (h : HS) (x : (Nat → Bool) × (Nat → Int32)) : HS := wCT (wBM h x.1) x.2
def h_bp (h h1 : HS) (v w : Nat) (x : (Nat → Bool) × (Nat → Int32)) : (Nat → Bool) × (Nat → Int32) := if h_refers h v w = true then ((if (gH_ST h1 w).val = 1 ∧ x.2 w - nI 1 = 0 then clr w x.1 else x.1), va_up x.2 w (x.2 w - nI 1)) else x
theorem h_bp_fld (h h1 : HS) (v : Nat) : ∀ n, (∀ w, (fldN (h_bp h h1 v) (gH_BM h, gH_CT h) n).2 w = if w < n ∧ h_refers h v w = true then gH_CT h w - nI 1 else gH_CT h w) ∧ ∀ q, (fldN (h_bp h h1 v) (gH_BM h, gH_CT h) n).1 q = if q / 4 < n ∧ h_refers h v (q / 4) = true ∧ (gH_ST h1 (q / 4)).val = 1 ∧ gH_CT h (q / 4) - nI 1 = 0 then false else gH_BM h q
  | 0 => ⟨fun w => by rw [if_neg (by omega)]; rfl, fun q => by rw [if_neg (by omega)]; rfl⟩
  | n + 1 => by
    obtain ⟨i1, i2⟩ := h_bp_fld h h1 v n
    show (∀ w, (h_bp h h1 v n (fldN (h_bp h h1 v) (gH_BM h, gH_CT h) n)).2 w = _) ∧ ∀ q, (h_bp h h1 v n (fldN (h_bp h h1 v) (gH_BM h, gH_CT h) n)).1 q = _
    generalize fldN (h_bp h h1 v) (gH_BM h, gH_CT h) n = y at i1 i2 ⊢
    unfold h_bp
    by_cases r : h_refers h v n = true
    · rw [if_pos r]
      have yn : y.2 n = gH_CT h n := by rw [i1 n, if_neg (by omega)]
      refine ⟨fun w => ?_, fun q => ?_⟩
      · show va_up y.2 n (y.2 n - nI 1) w = _
        by_cases z : w = n
        · rw [z, up_s, yn, if_pos ⟨by omega, r⟩]
        · rw [up_n z, i1 w]
          by_cases t : w < n ∧ h_refers h v w = true
          · rw [if_pos t, if_pos ⟨by omega, t.2⟩]
          · rw [if_neg t, if_neg (fun x => t ⟨by omega, x.2⟩)]
      · show (if (gH_ST h1 n).val = 1 ∧ y.2 n - nI 1 = 0 then clr n y.1 else y.1) q = _
        rw [yn]
        by_cases z : q / 4 = n
        · by_cases t : (gH_ST h1 n).val = 1 ∧ gH_CT h n - nI 1 = 0
          · rw [if_pos t, if_pos ⟨by omega, by rw [z]; exact r, by rw [z]; exact t.1, by rw [z]; exact t.2⟩]
            unfold clr
            rw [if_pos z]
          · rw [if_neg t, if_neg (fun x => t (by rw [z] at x; exact x.2.2)), i2 q, if_neg (by omega)]
        · have e : (if (gH_ST h1 n).val = 1 ∧ gH_CT h n - nI 1 = 0 then clr n y.1 else y.1) q = y.1 q := by
            split
            · unfold clr; rw [if_neg z]
            · rfl
          rw [e, i2 q]
          by_cases t : q / 4 < n ∧ h_refers h v (q / 4) = true ∧ (gH_ST h1 (q / 4)).val = 1 ∧ gH_CT h (q / 4) - nI 1 = 0
          · rw [if_pos t, if_pos ⟨by omega, t.2⟩]
          · rw [if_neg t, if_neg (fun x => t ⟨by omega, x.2⟩)]
    · rw [if_neg r]
      refine ⟨fun w => ?_, fun q => ?_⟩
      · rw [i1 w]
        by_cases t : w < n ∧ h_refers h v w = true
        · rw [if_pos t, if_pos ⟨by omega, t.2⟩]
        · rw [if_neg t, if_neg (fun x => t ⟨by
            rcases Nat.lt_or_ge w n with a | a
            · exact a
            · have e : w = n := by omega
              rw [e] at x
              exact absurd x.2 r, x.2⟩)]
      · rw [i2 q]
        by_cases t : q / 4 < n ∧ h_refers h v (q / 4) = true ∧ (gH_ST h1 (q / 4)).val = 1 ∧ gH_CT h (q / 4) - nI 1 = 0
        · rw [if_pos t, if_pos ⟨by omega, t.2⟩]
        · rw [if_neg t, if_neg (fun x => t ⟨by
            rcases Nat.lt_or_ge (q / 4) n with a | a
            · exact a
            · have e : q / 4 = n := by omega
              rw [e] at x
              exact absurd x.2.1 r, x.2⟩)]
theorem h_bringIn_eq (v : Nat) (h : HS) : ∃ (f1 : Nat → Bool) (f2 : Nat → Int32), h_bringIn v h = wCT (wBM (h_b1 v h) f1) f2 ∧ (∀ w, f2 w = if w < 8 ∧ h_refers h v w = true then gH_CT h w - nI 1 else gH_CT h w) ∧ ∀ q, f1 q = if (q / 4 = v ∧ f2 v = 0) ∨ (q / 4 < 8 ∧ h_refers h v (q / 4) = true ∧ (gH_ST (h_b1 v h) (q / 4)).val = 1 ∧ gH_CT h (q / 4) - nI 1 = 0) then false else gH_BM h q := by
  have e : ∀ w x, h_bi1 v w (wBC (h_b1 v h) x) = wBC (h_b1 v h) (h_bp h (h_b1 v h) v w x) := by
    intro w x
    unfold h_bi1 h_bp
    have a0 : h_refers (wBC (h_b1 v h) x) v w = h_refers h v w := rfl
    rw [a0]
    by_cases q : h_refers h v w = true
    · rw [if_pos q, if_pos q, h_forget_eq]
      have a1 : gH_CT (uH_CT (wBC (h_b1 v h) x) w (gH_CT (wBC (h_b1 v h) x) w - nI 1)) w = x.2 w - nI 1 := up_s
      rw [a1]
      rfl
    · rw [if_neg q, if_neg q]
  have a := fld_lift (wBC (h_b1 v h)) e (gH_BM h, gH_CT h) 8
  have a0 : wBC (h_b1 v h) (gH_BM h, gH_CT h) = h_b1 v h := rfl
  rw [a0] at a
  obtain ⟨k1, k2⟩ := h_bp_fld h (h_b1 v h) v 8
  generalize fldN (h_bp h (h_b1 v h) v) (gH_BM h, gH_CT h) 8 = y at a k1 k2
  have hst : (gH_ST (h_b1 v h) v).val = 1 := by
    show (va_up (gH_ST h) v (⟨1, by decide⟩ : Fin 3) v).val = 1
    rw [up_s]
  refine ⟨if (gH_ST (h_b1 v h) v).val = 1 ∧ y.2 v = 0 then clr v y.1 else y.1, y.2, ?_, k1, fun q => ?_⟩
  · unfold h_bringIn
    show h_forget v (fldN (h_bi1 v) (h_b1 v h) 8) = _
    rw [a, h_forget_eq]
    rfl
  · by_cases z : y.2 v = 0
    · rw [if_pos ⟨hst, z⟩]
      unfold clr
      by_cases t : q / 4 = v
      · rw [if_pos t, if_pos (Or.inl ⟨t, z⟩)]
      · rw [if_neg t, k2 q]
        by_cases u : q / 4 < 8 ∧ h_refers h v (q / 4) = true ∧ (gH_ST (h_b1 v h) (q / 4)).val = 1 ∧ gH_CT h (q / 4) - nI 1 = 0
        · rw [if_pos u, if_pos (Or.inr u)]
        · rw [if_neg u, if_neg (fun x => x.elim (fun y => t y.1) u)]
    · rw [if_neg (fun x => z x.2), k2 q]
      by_cases u : q / 4 < 8 ∧ h_refers h v (q / 4) = true ∧ (gH_ST (h_b1 v h) (q / 4)).val = 1 ∧ gH_CT h (q / 4) - nI 1 = 0
      · rw [if_pos u, if_pos (Or.inr u)]
      · rw [if_neg u, if_neg (fun x => x.elim (fun y => z y.2) u)]
theorem nI_z {n : Nat} (h : n < 2 ^ 31) : nI n = 0 ↔ n = 0 := ⟨fun q => (nI_eq h (by decide)).mp (q.trans nI_0.symm), fun q => by rw [q]; exact nI_0⟩
theorem Rel.bringIn {h : HS} {m : MS} (R : Rel h m) (I : Inv m) {v : Nat} (hv : (gM_ST m v).val = 2) : Rel (h_bringIn v h) (m_bc v m) ∧ Inv (m_bc v m) := by
  have RR := R
  obtain ⟨r1, r2, r3, r4, r5, r6, r7, r8, r9, r10, r11⟩ := R
  obtain ⟨j0, j0s, j1, j2, j3, j4, j5, j6, j6b, j7, j8⟩ := I
  have hv8 : v < 8 := j0s v (by omega)
  obtain ⟨f1, f2, eH, hf2, hf1⟩ := h_bringIn_eq v h
  rw [eH, m_bc_eq]
  have s1 : (gM_ST (m_b1 v m) v).val = 1 := by
    show (va_up (gM_ST m) v (⟨1, by decide⟩ : Fin 3) v).val = 1
    rw [up_s]
  have s2 : ∀ u, u ≠ v → gM_ST (m_b1 v m) u = gM_ST m u := fun u hu => up_n hu
  have hcnt : ∀ w, m_counted m w = m_counted (m_b1 v m) w + (if m_refers m v w = true then 1 else 0) := fun w => m_counted_out (m := m_b1 v m) (m' := m) rfl rfl hv8 (by omega) hv (fun u hu => (s2 u hu).symm) w
  have hvv : m_refers m v v = false := by
    cases z : m_refers m v v with
    | false => rfl
    | true => exact absurd rfl ((m_refers_iff m v v).mp z).1
  have hle : ∀ w, m_counted (m_b1 v m) w ≤ 8 := fun w => m_counted_le _ w
  -- the counts
  have c2 : ∀ w, f2 w = nI (m_counted (m_b1 v m) w) := by
    intro w
    rw [hf2 w, RR.refers v w, r10 w, hcnt w]
    by_cases z : m_refers m v w = true
    · rw [if_pos ⟨m_refers_lt z, z⟩, if_pos z]
      exact nI_pred _
    · rw [if_neg (fun y => z y.2), if_neg z]; rfl
  have hstq : ∀ u, gH_ST (h_b1 v h) u = gM_ST (m_b1 v m) u := by
    intro u
    show va_up (gH_ST h) v _ u = va_up (gM_ST m) v _ u
    rw [r4]
  -- the bits
  have cond : ∀ w, w < 8 → (m_bcc v (m_b1 v m) w = true ↔ ((w = v ∧ f2 v = 0) ∨ (w < 8 ∧ h_refers h v w = true ∧ (gH_ST (h_b1 v h) w).val = 1 ∧ gH_CT h w - nI 1 = 0))) := by
    intro w hw
    unfold m_bcc
    rw [decide_eq_true_iff, RR.refers v w, hstq w, c2 v]
    have a1 : m_refers (m_b1 v m) v w = m_refers m v w := rfl
    rw [a1]
    constructor
    · rintro ⟨y1, y2, y3⟩
      by_cases z : m_refers m v w = true
      · refine Or.inr ⟨hw, z, y2, ?_⟩
        have := hf2 w
        rw [if_pos ⟨hw, by rw [RR.refers]; exact z⟩] at this
        rw [← this, c2 w, y3]; exact nI_0
      · rcases y1 with y1 | y1
        · refine Or.inl ⟨y1, ?_⟩
          rw [y1] at y3
          rw [y3]; exact nI_0
        · exact absurd y1 z
    · rintro (⟨y1, y2⟩ | ⟨_, y1, y2, y3⟩)
      · refine ⟨Or.inl y1, by rw [y1]; exact s1, ?_⟩
        rw [y1]
        exact (nI_z (by have := hle v; omega)).mp y2
      · refine ⟨Or.inr y1, y2, ?_⟩
        have := hf2 w
        rw [if_pos ⟨hw, by rw [RR.refers]; exact y1⟩, c2 w, y3] at this
        exact (nI_z (by have := hle w; omega)).mp this
  have bits : f1 = fun q => if q / 4 < 8 ∧ m_bcc v (m_b1 v m) (q / 4) = true then false else gM_MK m q := by
    funext q
    rw [hf1 q, r2]
    by_cases z : q / 4 < 8
    · by_cases y : m_bcc v (m_b1 v m) (q / 4) = true
      · rw [if_pos ((cond _ z).mp y), if_pos ⟨z, y⟩]
      · rw [if_neg (fun x => y ((cond _ z).mpr x)), if_neg (fun x => y x.2)]
    · rw [if_neg (fun x => x.elim (fun y => z (by rw [y.1]; exact hv8)) (fun y => z y.1)), if_neg (fun x => z x.1)]
  have kept : ∀ q, (if q / 4 < 8 ∧ m_bcc v (m_b1 v m) (q / 4) = true then false else gM_MK m q) = true → gM_MK m q = true ∧ ¬ (q / 4 < 8 ∧ m_bcc v (m_b1 v m) (q / 4) = true) := by
    intro q hq
    by_cases z : q / 4 < 8 ∧ m_bcc v (m_b1 v m) (q / 4) = true
    · rw [if_pos z] at hq; cases hq
    · rw [if_neg z] at hq; exact ⟨hq, z⟩
  have cc : ∀ f w, m_counted (wMK (m_b1 v m) f) w = m_counted (m_b1 v m) w := fun _ _ => rfl
  refine ⟨⟨r1, bits, r3, funext hstq, ?_, r6, r7, r8, r9, c2, r11⟩, j0, fun u hu => ?_, j1, j2, fun q hq => j3 q (kept q hq).1, fun q hq => ?_, fun u hu => ?_, fun q hq hs => ?_, fun i k ht hs hk => ?_, fun q hq hs => ?_, j8⟩
  · show va_up (gH_US h) v false = va_up (gM_US m) v false
    rw [r5]
  · by_cases z : u = v
    · rw [z]; exact hv8
    · have hu : (gM_ST (m_b1 v m) u).val ≠ 0 := hu
      rw [s2 u z] at hu
      exact j0s u hu
  · show (gM_ST (m_b1 v m) (q / 4)).val ≠ 0
    by_cases z : q / 4 = v
    · rw [z, s1]; decide
    · rw [s2 _ z]; exact j4 q hq
  · have hu : va_up (gM_US m) v false u = true := hu
    show (gM_ST (m_b1 v m) u).val = 1
    by_cases z : u = v
    · rw [z, up_s] at hu; cases hu
    · rw [up_n z] at hu
      rw [s2 u z]; exact j5 u hu
  · have hs : (gM_ST (m_b1 v m) (q / 4)).val = 2 := hs
    have z : q / 4 ≠ v := fun z => by rw [z, s1] at hs; cases hs
    have hs2 := hs
    rw [s2 _ z] at hs2
    show (if q / 4 < 8 ∧ m_bcc v (m_b1 v m) (q / 4) = true then false else gM_MK m q) = true
    rw [if_neg (fun x => by
      have y := x.2
      unfold m_bcc at y
      rw [decide_eq_true_iff] at y
      omega)]
    exact j6 q hq hs2
  · have hs : (gM_ST (m_b1 v m) (i / 8)).val = 2 := hs
    have z : i / 8 ≠ v := fun z => by rw [z, s1] at hs; cases hs
    have hs2 := hs
    rw [s2 _ z] at hs2
    show (if k.val / 4 < 8 ∧ m_bcc v (m_b1 v m) (k.val / 4) = true then false else gM_MK m k.val) = true
    rw [if_neg (fun x => by
      have y := x.2
      unfold m_bcc at y
      rw [decide_eq_true_iff] at y
      obtain ⟨-, y2, y3⟩ := y
      by_cases e : i / 8 = k.val / 4
      · rw [← e] at y2; omega
      · have hr : m_refers (m_b1 v m) (i / 8) (k.val / 4) = true := (m_refers_iff _ _ _).mpr ⟨e, i, k, rfl, ht, hk, rfl⟩
        refine cntN_pos (j := i / 8) (n := 8) (j0s _ (by omega)) ?_ y3
        unfold m_ctb
        rw [hr, hs]; rfl)]
    exact j6b i k ht hs2 hk
  · have hs : (gM_ST (m_b1 v m) (q / 4)).val = 1 := hs
    obtain ⟨q1, q2⟩ := kept q hq
    rw [cc]
    intro h0
    have hq8 : q / 4 < 8 := by have := j0 q (j3 q q1); omega
    apply q2
    refine ⟨hq8, ?_⟩
    unfold m_bcc
    rw [decide_eq_true_iff]
    refine ⟨?_, hs, h0⟩
    by_cases z : q / 4 = v
    · exact Or.inl z
    · right
      show m_refers m v (q / 4) = true
      cases y : m_refers m v (q / 4) with
      | true => rfl
      | false =>
        exfalso
        have a := hcnt (q / 4)
        rw [y, h0] at a
        rw [s2 _ z] at hs
        exact j7 q q1 hs (by simpa using a)
