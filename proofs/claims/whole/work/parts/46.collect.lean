/-! a collection: both sides -/
theorem ifc {α : Type} {c d : Prop} [Decidable c] [Decidable d] {x y : α} (h : c ↔ d) : (if c then x else y) = (if d then x else y) := by
  by_cases q : c
  · rw [if_pos q, if_pos (h.mp q)]
  · rw [if_neg q, if_neg (fun z => q (h.mpr z))]
def rm3 {β : Type} (c : Nat → Bool) (up : Nat → β → β) (p : Nat) (x : Nat × (Nat → Bool) × β) : Nat × (Nat → Bool) × β := if (x.2.1 p && c p) = true then (x.1 + 1, va_up x.2.1 p false, up p x.2.2) else x
theorem fld_rm3 {β : Type} (c : Nat → Bool) (up : Nat → β → β) (t : Nat → Bool) (z : β) : ∀ n, fldN (rm3 c up) (0, t, z) n = (cntN (fun p => t p && c p) n, (fun q => if q < n ∧ (t q && c q) = true then false else t q), fldN (fun p z => if (t p && c p) = true then up p z else z) z n)
  | 0 => by
    show (0, t, z) = _
    have e : (fun q => if q < 0 ∧ (t q && c q) = true then false else t q) = t := by
      funext q; rw [if_neg (by omega)]
    rw [e]; rfl
  | n + 1 => by
    show rm3 c up n (fldN (rm3 c up) (0, t, z) n) = _
    rw [fld_rm3 c up t z n]
    unfold rm3
    have e1 : (fun q => if q < n ∧ (t q && c q) = true then false else t q) n = t n := by
      show (if n < n ∧ (t n && c n) = true then false else t n) = t n
      rw [if_neg (by omega)]
    show (if ((fun q => if q < n ∧ (t q && c q) = true then false else t q) n && c n) = true then _ else _) = _
    rw [e1]
    by_cases q : (t n && c n) = true
    · rw [if_pos q]
      refine Prod.ext ?_ (Prod.ext ?_ ?_)
      · show cntN (fun p => t p && c p) n + 1 = cntN (fun p => t p && c p) n + (if (t n && c n) = true then 1 else 0)
        rw [if_pos q]
      · funext j
        show va_up (fun q => if q < n ∧ (t q && c q) = true then false else t q) n false j = if j < n + 1 ∧ (t j && c j) = true then false else t j
        by_cases z : j = n
        · rw [z, up_s, if_pos ⟨by omega, q⟩]
        · rw [up_n z]
          by_cases y : j < n ∧ (t j && c j) = true
          · rw [if_pos y, if_pos ⟨by omega, y.2⟩]
          · rw [if_neg y, if_neg (fun x => y ⟨by omega, x.2⟩)]
      · show up n _ = (if (t n && c n) = true then up n _ else _)
        rw [if_pos q]
    · rw [if_neg q]
      refine Prod.ext ?_ (Prod.ext ?_ ?_)
      · show cntN (fun p => t p && c p) n = cntN (fun p => t p && c p) n + (if (t n && c n) = true then 1 else 0)
        rw [if_neg q, Nat.add_zero]
      · funext j
        show (if j < n ∧ (t j && c j) = true then false else t j) = if j < n + 1 ∧ (t j && c j) = true then false else t j
        by_cases y : j < n ∧ (t j && c j) = true
        · rw [if_pos y, if_pos ⟨by omega, y.2⟩]
        · rw [if_neg y, if_neg (fun x => y ⟨by
            rcases Nat.lt_or_ge j n with a | a
            · exact a
            · have e : j = n := by omega
              rw [e] at x
              exact absurd x.2 q, x.2⟩)]
      · show _ = (if (t n && c n) = true then up n _ else _)
        rw [if_neg q]
/-- fields of removed places -/
theorem fld_none {c : Nat → Bool} {f : Nat → Option (Fin 32)} : ∀ n i, fldN (fun p z => if c p = true then va_up (va_up z (2 * p + 0) none) (2 * p + 1) none else z) f n i = if i / 2 < n ∧ c (i / 2) = true then none else f i
  | 0, i => by rw [if_neg (by omega)]; rfl
  | n + 1, i => by
    show (if c n = true then va_up (va_up (fldN (fun p z => if c p = true then va_up (va_up z (2 * p + 0) none) (2 * p + 1) none else z) f n) (2 * n + 0) none) (2 * n + 1) none else fldN (fun p z => if c p = true then va_up (va_up z (2 * p + 0) none) (2 * p + 1) none else z) f n) i = _
    by_cases q : c n = true
    · rw [if_pos q]
      by_cases z : i / 2 = n
      · rw [if_pos ⟨by omega, by rw [z]; exact q⟩]
        rcases (show i = 2 * n + 0 ∨ i = 2 * n + 1 by omega) with e | e
        · rw [e, up_n (by omega), up_s]
        · rw [e, up_s]
      · rw [up_n (by omega), up_n (by omega), fld_none n i]
        by_cases y : i / 2 < n ∧ c (i / 2) = true
        · rw [if_pos y, if_pos ⟨by omega, y.2⟩]
        · rw [if_neg y, if_neg (fun x => y ⟨by omega, x.2⟩)]
    · rw [if_neg q, fld_none n i]
      by_cases y : i / 2 < n ∧ c (i / 2) = true
      · rw [if_pos y, if_pos ⟨by omega, y.2⟩]
      · rw [if_neg y, if_neg (fun x => y ⟨by
          rcases Nat.lt_or_ge (i / 2) n with a | a
          · exact a
          · have e : i / 2 = n := by omega
            rw [e] at x
            exact absurd x.2 q, x.2⟩)]
def wTF (h : HS) (y : (Nat → Bool) × (Nat → Option (Fin 32))) : HS := (y.1, h.2.1, h.2.2.1, y.2, h.2.2.2.2)
def wTM (m : MS) (y : (Nat → Bool) × (Nat → Bool)) : MS := (y.1, m.2.1, m.2.2.1, y.2, m.2.2.2.2)
/-- which places go -/
def goneH (h : HS) (p : Nat) : Bool := decide ((gH_ST h (p / 4)).val = 1) && !(gH_KP h p)
def goneM (m : MS) (p : Nat) : Bool := decide ((gM_ST m (p / 4)).val = 1) && !(gM_KP m p)
theorem h_co1_lift (h : HS) (n : Nat) : fldN h_co1 (0, h) n = (cntN (fun p => gH_TK h p && goneH h p) n, wTF h ((fun q => if q < n ∧ (gH_TK h q && goneH h q) = true then false else gH_TK h q), fldN (fun p z => if (gH_TK h p && goneH h p) = true then va_up (va_up z (2 * p + 0) none) (2 * p + 1) none else z) (gH_FD h) n)) := by
  have e : ∀ p (x : Nat × (Nat → Bool) × (Nat → Option (Fin 32))), h_co1 p (x.1, wTF h x.2) = ((rm3 (goneH h) (fun p z => va_up (va_up z (2 * p + 0) none) (2 * p + 1) none) p x).1, wTF h (rm3 (goneH h) (fun p z => va_up (va_up z (2 * p + 0) none) (2 * p + 1) none) p x).2) := by
    intro p x
    unfold h_co1 rm3
    have a : h_gob (wTF h x.2) p = (x.2.1 p && goneH h p) := by
      unfold h_gob goneH
      show (x.2.1 p && decide ((gH_ST h (p / 4)).val = 1) && !(gH_KP h p)) = _
      rw [Bool.and_assoc]
    show (if h_gob (wTF h x.2) p = true then (x.1 + 1, h_remove p (wTF h x.2)) else (x.1, wTF h x.2)) = _
    rw [a]
    by_cases q : (x.2.1 p && goneH h p) = true
    · rw [if_pos q, if_pos q]; rfl
    · rw [if_neg q, if_neg q]
  have l : fldN h_co1 (0, h) n = ((fldN (rm3 (goneH h) (fun p z => va_up (va_up z (2 * p + 0) none) (2 * p + 1) none)) (0, gH_TK h, gH_FD h) n).1, wTF h (fldN (rm3 (goneH h) (fun p z => va_up (va_up z (2 * p + 0) none) (2 * p + 1) none)) (0, gH_TK h, gH_FD h) n).2) := fld_lift (F := h_co1) (F' := rm3 (goneH h) (fun p z => va_up (va_up z (2 * p + 0) none) (2 * p + 1) none)) (fun x : Nat × (Nat → Bool) × (Nat → Option (Fin 32)) => (x.1, wTF h x.2)) e (0, gH_TK h, gH_FD h) n
  rw [fld_rm3] at l
  exact l
theorem m_co1_lift (m : MS) (n : Nat) : fldN m_co1 (0, m) n = (cntN (fun p => gM_TH m p && goneM m p) n, wTM m ((fun q => if q < n ∧ (gM_TH m q && goneM m q) = true then false else gM_TH m q), fldN (fun p z => if (gM_TH m p && goneM m p) = true then va_up z p false else z) (gM_MK m) n)) := by
  have e : ∀ p (x : Nat × (Nat → Bool) × (Nat → Bool)), m_co1 p (x.1, wTM m x.2) = ((rm3 (goneM m) (fun p z => va_up z p false) p x).1, wTM m (rm3 (goneM m) (fun p z => va_up z p false) p x).2) := by
    intro p x
    unfold m_co1 rm3
    have a : m_gob (wTM m x.2) p = (x.2.1 p && goneM m p) := by
      unfold m_gob goneM
      show (x.2.1 p && decide ((gM_ST m (p / 4)).val = 1) && !(gM_KP m p)) = _
      rw [Bool.and_assoc]
    show (if m_gob (wTM m x.2) p = true then (x.1 + 1, uM_MK (uM_TH (wTM m x.2) p false) p false) else (x.1, wTM m x.2)) = _
    rw [a]
    by_cases q : (x.2.1 p && goneM m p) = true
    · rw [if_pos q, if_pos q]; rfl
    · rw [if_neg q, if_neg q]
  have l : fldN m_co1 (0, m) n = ((fldN (rm3 (goneM m) (fun p z => va_up z p false)) (0, gM_TH m, gM_MK m) n).1, wTM m (fldN (rm3 (goneM m) (fun p z => va_up z p false)) (0, gM_TH m, gM_MK m) n).2) := fld_lift (F := m_co1) (F' := rm3 (goneM m) (fun p z => va_up z p false)) (fun x : Nat × (Nat → Bool) × (Nat → Bool) => (x.1, wTM m x.2)) e (0, gM_TH m, gM_MK m) n
  rw [fld_rm3] at l
  exact l
/-- the pages that became bare -/
abbrev SU : Type := (Nat → Fin 3) × (Nat → Bool)
def wSUh (h : HS) (y : SU) : HS := (h.1, h.2.1, h.2.2.1, h.2.2.2.1, h.2.2.2.2.1, y.1, y.2, h.2.2.2.2.2.2.2)
def wSUm (m : MS) (y : SU) : MS := (m.1, m.2.1, m.2.2.1, m.2.2.2.1, m.2.2.2.2.1, y.1, y.2, m.2.2.2.2.2.2.2)
def ba1 (t : Nat → Bool) (v : Nat) (y : SU) : SU := if (y.1 v).val = 1 ∧ anyN (fun i => t (4 * v + i)) 4 = false then (va_up y.1 v ⟨0, by decide⟩, va_up y.2 v false) else y
theorem h_co2_lift (h : HS) (n : Nat) : fldN h_co2 h n = wSUh h (fldN (ba1 (gH_TK h)) (gH_ST h, gH_US h) n) := by
  have e : ∀ v (y : SU), h_co2 v (wSUh h y) = wSUh h (ba1 (gH_TK h) v y) := by
    intro v y
    unfold h_co2 ba1
    have a : (h_bare (wSUh h y) v = true) ↔ anyN (fun i => gH_TK h (4 * v + i)) 4 = false := by
      unfold h_bare
      have : anyN (h_bab (wSUh h y) v) 4 = anyN (fun i => gH_TK h (4 * v + i)) 4 := rfl
      rw [this]; simp
    show (if (y.1 v).val = 1 ∧ h_bare (wSUh h y) v = true then uH_US (uH_ST (wSUh h y) v ⟨0, by decide⟩) v false else wSUh h y) = _
    by_cases q : (y.1 v).val = 1 ∧ anyN (fun i => gH_TK h (4 * v + i)) 4 = false
    · rw [if_pos ⟨q.1, a.mpr q.2⟩, if_pos q]; rfl
    · rw [if_neg (fun z => q ⟨z.1, a.mp z.2⟩), if_neg q]
  have l := fld_lift (wSUh h) e (gH_ST h, gH_US h) n
  have e0 : wSUh h (gH_ST h, gH_US h) = h := rfl
  rw [e0] at l
  exact l
theorem m_co2_lift (m : MS) (n : Nat) : fldN m_co2 m n = wSUm m (fldN (ba1 (gM_TH m)) (gM_ST m, gM_US m) n) := by
  have e : ∀ v (y : SU), m_co2 v (wSUm m y) = wSUm m (ba1 (gM_TH m) v y) := by
    intro v y
    unfold m_co2 ba1
    have a : anyN (m_bab (wSUm m y) v) 4 = anyN (fun i => gM_TH m (4 * v + i)) 4 := rfl
    show (if (y.1 v).val = 1 ∧ anyN (m_bab (wSUm m y) v) 4 = false then uM_US (uM_ST (wSUm m y) v ⟨0, by decide⟩) v false else wSUm m y) = _
    rw [a]
    split <;> rfl
  have l := fld_lift (wSUm m) e (gM_ST m, gM_US m) n
  have e0 : wSUm m (gM_ST m, gM_US m) = m := rfl
  rw [e0] at l
  exact l
theorem ba1_fld (t : Nat → Bool) (y : SU) : ∀ n u, ((fldN (ba1 t) y n).1 u = if u < n ∧ (y.1 u).val = 1 ∧ anyN (fun i => t (4 * u + i)) 4 = false then ⟨0, by decide⟩ else y.1 u) ∧ ((fldN (ba1 t) y n).2 u = if u < n ∧ (y.1 u).val = 1 ∧ anyN (fun i => t (4 * u + i)) 4 = false then false else y.2 u)
  | 0, u => by rw [if_neg (by omega), if_neg (by omega)]; exact ⟨rfl, rfl⟩
  | n + 1, u => by
    obtain ⟨i1, i2⟩ := ba1_fld t y n u
    obtain ⟨n1, n2⟩ := ba1_fld t y n n
    rw [if_neg (by omega)] at n1
    show ((ba1 t n (fldN (ba1 t) y n)).1 u = _) ∧ ((ba1 t n (fldN (ba1 t) y n)).2 u = _)
    generalize fldN (ba1 t) y n = x at i1 i2 n1 n2 ⊢
    unfold ba1
    rw [n1]
    by_cases q : (y.1 n).val = 1 ∧ anyN (fun i => t (4 * n + i)) 4 = false
    · rw [if_pos q]
      by_cases z : u = n
      · rw [z, if_pos ⟨by omega, q⟩, if_pos ⟨by omega, q⟩]
        exact ⟨up_s, up_s⟩
      · have a : (u < n + 1 ∧ (y.1 u).val = 1 ∧ anyN (fun i => t (4 * u + i)) 4 = false) ↔ (u < n ∧ (y.1 u).val = 1 ∧ anyN (fun i => t (4 * u + i)) 4 = false) := ⟨fun x => ⟨by omega, x.2⟩, fun x => ⟨by omega, x.2⟩⟩
        refine ⟨?_, ?_⟩
        · show va_up x.1 n _ u = _
          rw [up_n z, i1]
          exact ifc a.symm
        · show va_up x.2 n _ u = _
          rw [up_n z, i2]
          exact ifc a.symm
    · rw [if_neg q, i1, i2]
      have a : (u < n + 1 ∧ (y.1 u).val = 1 ∧ anyN (fun i => t (4 * u + i)) 4 = false) ↔ (u < n ∧ (y.1 u).val = 1 ∧ anyN (fun i => t (4 * u + i)) 4 = false) := ⟨fun x => ⟨by
        rcases Nat.lt_or_ge u n with b | b
        · exact b
        · have e : u = n := by omega
          rw [e] at x
          exact absurd x.2 q, x.2⟩, fun x => ⟨by omega, x.2⟩⟩
      exact ⟨ifc a.symm, ifc a.symm⟩
theorem cntN_mono {f g : Nat → Bool} : ∀ {n : Nat}, (∀ j, j < n → f j = true → g j = true) → cntN f n ≤ cntN g n
  | 0, _ => Nat.le_refl 0
  | n + 1, h => by
    have ih := cntN_mono (n := n) (fun j hj => h j (by omega))
    show cntN f n + (if f n = true then 1 else 0) ≤ cntN g n + (if g n = true then 1 else 0)
    by_cases q : f n = true
    · rw [if_pos q, if_pos (h n (by omega) q)]; omega
    · rw [if_neg q]; omega
theorem Rel.collect {h : HS} {m : MS} (R : Rel h m) (I : Inv m) : (Rel (h_collect h) (m_within m) ∧ Inv (m_within m)) ∧ h_gone h = m_gone m ∧ m_in (m_within m) ≤ m_in m ∧ gM_BU (m_within m) = gM_BU m ∧ gM_TR (m_within m) = gM_TR m := by
  obtain ⟨x, ex, hx⟩ := h_mark_ok R I
  obtain ⟨g, eg, hg⟩ := m_wi0_ok I
  have hxg : x.1 = g := funext fun p => bool_iff ((hx p).trans (hg p).symm)
  obtain ⟨r1, r2, r3, r4, r5, r6, r7, r8, r9, r10, r11⟩ := R
  obtain ⟨j0, j0s, j1, j2, j3, j4, j5, j6, j6b, j7, j8⟩ := I
  obtain ⟨gb, hgb⟩ : ∃ gb : Nat → Bool, gb = fun p => gM_TH m p && (decide ((gM_ST m (p / 4)).val = 1) && !(g p)) := ⟨_, rfl⟩
  have egH : (fun p => gH_TK (wK h x) p && goneH (wK h x) p) = gb := by
    rw [hgb]
    funext p
    unfold goneH
    show (gH_TK h p && (decide ((gH_ST h (p / 4)).val = 1) && !(x.1 p))) = _
    rw [r1, r4, hxg]
  have egM : (fun p => gM_TH (wKP m g) p && goneM (wKP m g) p) = gb := by rw [hgb]; rfl
  have gbt : ∀ p, gb p = true ↔ gM_TH m p = true ∧ (gM_ST m (p / 4)).val = 1 ∧ g p = false := by
    intro p
    rw [hgb]
    simp
  have gbf : ∀ p, gb p = false → gM_TH m p = true → (gM_ST m (p / 4)).val = 1 → g p = true := by
    intro p h1 h2 h3
    cases z : g p with
    | true => rfl
    | false => rw [(gbt p).mpr ⟨h2, h3, z⟩] at h1; cases h1
  obtain ⟨th, hth⟩ : ∃ th : Nat → Bool, th = fun q => if q < 32 ∧ gb q = true then false else gM_TH m q := ⟨_, rfl⟩
  have tht : ∀ q, th q = true ↔ gM_TH m q = true ∧ gb q = false := by
    intro q
    rw [hth]
    show (if q < 32 ∧ gb q = true then false else gM_TH m q) = true ↔ _
    by_cases z : gb q = true
    · rw [if_pos ⟨j0 q ((gbt q).mp z).1, z⟩]
      refine ⟨fun y => (by cases y), fun y => ?_⟩
      rw [z] at y; cases y.2
    · rw [if_neg (fun y => z y.2)]
      refine ⟨fun y => ⟨y, ?_⟩, fun y => y.1⟩
      cases w : gb q with
      | false => rfl
      | true => exact absurd w z
  have mkg : ∀ q, gM_MK m q = true → gb q = false := by
    intro q hq
    cases z : gb q with
    | false => rfl
    | true =>
      obtain ⟨a1, a2, a3⟩ := (gbt q).mp z
      have := (hg q).mpr (Reach.step a1 a2 (Or.inl hq))
      rw [this] at a3; cases a3
  have emk : fldN (fun p z => if gb p = true then va_up z p false else z) (gM_MK m) 32 = gM_MK m := by
    funext q
    have := fld_pt gb (fun _ _ => false) (gM_MK m) 32 q
    rw [this]
    by_cases z : q < 32 ∧ gb q = true
    · rw [if_pos z]
      cases y : gM_MK m q with
      | false => rfl
      | true => rw [mkg q y] at z; cases z.2
    · rw [if_neg z]
  obtain ⟨fd, hfd⟩ : ∃ fd, fd = fldN (fun p z => if gb p = true then va_up (va_up z (2 * p + 0) none) (2 * p + 1) none else z) (gH_FD h) 32 := ⟨_, rfl⟩
  have eH : h_cog h = (cntN gb 32, wTF (wK h x) (th, fd)) := by
    unfold h_cog
    rw [ex, h_co1_lift]
    have a2 : ∀ p, (gH_TK (wK h x) p && goneH (wK h x) p) = gb p := fun p => congrFun egH p
    have a1 : (fun q => if q < 32 ∧ (gH_TK (wK h x) q && goneH (wK h x) q) = true then false else gH_TK (wK h x) q) = th := by
      rw [hth]
      funext q
      rw [a2 q]
      show (if q < 32 ∧ gb q = true then false else gH_TK h q) = _
      rw [r1]
    have a3 : (fun (p : Nat) (z : Nat → Option (Fin 32)) => if (gH_TK (wK h x) p && goneH (wK h x) p) = true then va_up (va_up z (2 * p + 0) none) (2 * p + 1) none else z) = fun p z => if gb p = true then va_up (va_up z (2 * p + 0) none) (2 * p + 1) none else z := by
      funext p z
      rw [a2 p]
    rw [a1, a3, egH, hfd]
    rfl
  have eM : m_cog m = (cntN gb 32, wTM (wKP m g) (th, gM_MK m)) := by
    unfold m_cog
    rw [eg, m_co1_lift]
    have a2 : ∀ p, (gM_TH (wKP m g) p && goneM (wKP m g) p) = gb p := fun p => congrFun egM p
    have a1 : (fun q => if q < 32 ∧ (gM_TH (wKP m g) q && goneM (wKP m g) q) = true then false else gM_TH (wKP m g) q) = th := by
      rw [hth]
      funext q
      rw [a2 q]; rfl
    have a3 : (fun (p : Nat) (z : Nat → Bool) => if (gM_TH (wKP m g) p && goneM (wKP m g) p) = true then va_up z p false else z) = fun p z => if gb p = true then va_up z p false else z := by
      funext p z
      rw [a2 p]
    rw [a1, a3, egM]
    have a4 : gM_MK (wKP m g) = gM_MK m := rfl
    rw [a4, emk]
  obtain ⟨su, hsu⟩ : ∃ su, su = fldN (ba1 th) (gM_ST m, gM_US m) 8 := ⟨_, rfl⟩
  have sst : ∀ u, su.1 u = if u < 8 ∧ (gM_ST m u).val = 1 ∧ anyN (fun i => th (4 * u + i)) 4 = false then ⟨0, by decide⟩ else gM_ST m u := fun u => by rw [hsu]; exact (ba1_fld th (gM_ST m, gM_US m) 8 u).1
  have sus : ∀ u, su.2 u = if u < 8 ∧ (gM_ST m u).val = 1 ∧ anyN (fun i => th (4 * u + i)) 4 = false then false else gM_US m u := fun u => by rw [hsu]; exact (ba1_fld th (gM_ST m, gM_US m) 8 u).2
  have fH : h_collect h = wSUh (wTF (wK h x) (th, fd)) su := by
    unfold h_collect
    rw [eH]
    show fldN h_co2 (wTF (wK h x) (th, fd)) 8 = _
    rw [h_co2_lift, hsu]
    have a1 : gH_ST (wTF (wK h x) (th, fd)) = gM_ST m := r4
    have a2 : gH_US (wTF (wK h x) (th, fd)) = gM_US m := r5
    have a3 : gH_TK (wTF (wK h x) (th, fd)) = th := rfl
    rw [a1, a2, a3]
  have fM : m_within m = wSUm (wTM (wKP m g) (th, gM_MK m)) su := by
    unfold m_within
    rw [eM]
    show fldN m_co2 (wTM (wKP m g) (th, gM_MK m)) 8 = _
    rw [m_co2_lift, hsu]
    rfl
  -- pages
  have s2 : ∀ u, (su.1 u).val = 2 ↔ (gM_ST m u).val = 2 := by
    intro u
    rw [sst u]
    by_cases z : u < 8 ∧ (gM_ST m u).val = 1 ∧ anyN (fun i => th (4 * u + i)) 4 = false
    · rw [if_pos z]
      exact ⟨fun y => (by cases y), fun y => by omega⟩
    · rw [if_neg z]
  have s1 : ∀ u, (su.1 u).val = 1 → (gM_ST m u).val = 1 := by
    intro u
    rw [sst u]
    by_cases z : u < 8 ∧ (gM_ST m u).val = 1 ∧ anyN (fun i => th (4 * u + i)) 4 = false
    · rw [if_pos z]; intro y; cases y
    · rw [if_neg z]; exact id
  have tho : ∀ q, (gM_ST m (q / 4)).val ≠ 1 → th q = gM_TH m q := by
    intro q hq
    apply bool_iff
    rw [tht q]
    refine ⟨fun y => y.1, fun y => ⟨y, ?_⟩⟩
    cases z : gb q with
    | false => rfl
    | true => exact absurd ((gbt q).mp z).2.1 hq
  have hcnt : ∀ w, m_counted (wSUm (wTM (wKP m g) (th, gM_MK m)) su) w = m_counted m w := by
    intro w
    unfold m_counted
    refine cntN_congr (fun v _ => ?_)
    apply bool_iff
    unfold m_ctb
    rw [Bool.and_eq_true, Bool.and_eq_true, decide_eq_true_iff, decide_eq_true_iff]
    show (su.1 v).val = 2 ∧ _ ↔ _
    rw [s2 v]
    refine and_congr_right (fun hv => ?_)
    rw [m_refers_iff, m_refers_iff]
    refine and_congr_right (fun _ => ?_)
    constructor
    · rintro ⟨i, k, a1, a2, a3, a4⟩
      have a2 : th (i / 2) = true := a2
      rw [tho (i / 2) (by rw [show i / 2 / 4 = i / 8 by omega, a1]; omega)] at a2
      exact ⟨i, k, a1, a2, a3, a4⟩
    · rintro ⟨i, k, a1, a2, a3, a4⟩
      refine ⟨i, k, a1, ?_, a3, a4⟩
      show th (i / 2) = true
      rw [tho (i / 2) (by rw [show i / 2 / 4 = i / 8 by omega, a1]; omega)]
      exact a2
  -- targets
  have htg : ∀ i k, th (i / 2) = true → gM_FD m i = some k → th k.val = true := by
    intro i k a1 a2
    obtain ⟨b1, b2⟩ := (tht _).mp a1
    have tk := j2 i k b1 a2
    refine (tht _).mpr ⟨tk, ?_⟩
    cases z : gb k.val with
    | false => rfl
    | true =>
      exfalso
      obtain ⟨c1, c2, c3⟩ := (gbt _).mp z
      have e8 : i / 2 / 4 = i / 8 := by omega
      have n0 := j4 _ b1
      have hl := (gM_ST m (i / 2 / 4)).isLt
      rcases (show (gM_ST m (i / 2 / 4)).val = 1 ∨ (gM_ST m (i / 2 / 4)).val = 2 by omega) with s | s
      · have gi := gbf _ b2 b1 s
        have := (hg k.val).mpr (Reach.step c1 c2 (Or.inr (Or.inr ⟨i, k, ((hg _).mp gi).2.2, a2, rfl⟩)))
        rw [this] at c3; cases c3
      · have := mkg _ (j6b i k b1 (by rw [← e8]; exact s) a2)
        rw [this] at z; cases z
  refine ⟨?_, ?_, ?_, ?_, ?_⟩
  · rw [fH, fM]
    refine ⟨⟨rfl, r2, r3, rfl, rfl, r6, r7, r8, fun i => ?_, fun w => ?_, fun p hp => ?_, fun p hp => ?_⟩, fun p hp => ?_, fun v hv => ?_, fun r k hr => ?_, htg, fun p hp => ?_, fun p hp => ?_, fun v hv => ?_, fun p hp hs => ?_, fun i k ht hs hk => ?_, fun p hp hs => ?_, j8.1, fun p hp => ?_⟩
    · show fd i = if th (i / 2) = true then gM_FD m i else none
      rw [hfd, fld_none 32 i, r9 i]
      by_cases z : i / 2 < 32 ∧ gb (i / 2) = true
      · rw [if_pos z, if_neg (fun y => by rw [((tht _).mp y).2] at z; cases z.2)]
      · rw [if_neg z]
        by_cases y : gM_TH m (i / 2) = true
        · have y2 : th (i / 2) = true := (tht _).mpr ⟨y, by
            cases w : gb (i / 2) with
            | false => rfl
            | true => exact absurd ⟨j0 _ y, w⟩ z⟩
          rw [if_pos y, if_pos y2]
        · rw [if_neg y, if_neg (fun w => y ((tht _).mp w).1)]
    · rw [hcnt w]; exact r10 w
    · exact r11.1 p ((tht p).mp hp).1
    · show x.1 p = false
      cases z : x.1 p with
      | false => rfl
      | true =>
        have := j0 p ((hx p).mp z).1
        omega
    · exact j0 p ((tht p).mp hp).1
    · have hv : (su.1 v).val ≠ 0 := hv
      rw [sst v] at hv
      by_cases z : v < 8 ∧ (gM_ST m v).val = 1 ∧ anyN (fun i => th (4 * v + i)) 4 = false
      · exact z.1
      · rw [if_neg z] at hv; exact j0s v hv
    · have hr : gM_RG m r = some k := hr
      obtain ⟨hr4, tk⟩ := j1 r k hr
      refine ⟨hr4, (tht _).mpr ⟨tk, ?_⟩⟩
      cases z : gb k.val with
      | false => rfl
      | true =>
        exfalso
        obtain ⟨c1, c2, c3⟩ := (gbt _).mp z
        have := (hg k.val).mpr (Reach.step c1 c2 (Or.inr (Or.inl ⟨r, k, hr4, hr, rfl⟩)))
        rw [this] at c3; cases c3
    · exact (tht p).mpr ⟨j3 p hp, mkg p hp⟩
    · have hp : th p = true := hp
      show (su.1 (p / 4)).val ≠ 0
      rw [sst (p / 4)]
      by_cases z : p / 4 < 8 ∧ (gM_ST m (p / 4)).val = 1 ∧ anyN (fun i => th (4 * (p / 4) + i)) 4 = false
      · exfalso
        have a : anyN (fun i => th (4 * (p / 4) + i)) 4 = true := anyN_t (i := p % 4) (by
          show th (4 * (p / 4) + p % 4) = true
          rw [show 4 * (p / 4) + p % 4 = p by omega]; exact hp) (by omega)
        rw [z.2.2] at a; cases a
      · rw [if_neg z]; exact j4 p ((tht p).mp hp).1
    · have hv : su.2 v = true := hv
      show (su.1 v).val = 1
      rw [sus v] at hv
      rw [sst v]
      by_cases z : v < 8 ∧ (gM_ST m v).val = 1 ∧ anyN (fun i => th (4 * v + i)) 4 = false
      · rw [if_pos z] at hv; cases hv
      · rw [if_neg z] at hv ⊢; exact j5 v hv
    · exact j6 p ((tht p).mp hp).1 ((s2 _).mp hs)
    · exact j6b i k ((tht _).mp ht).1 ((s2 _).mp hs) hk
    · rw [hcnt]; exact j7 p hp (s1 _ hs)
    · show g p = false
      cases z : g p with
      | false => rfl
      | true =>
        have := j0 p ((hg p).mp z).1
        omega
  · show (h_cog h).1 = (m_cog m).1
    rw [eH, eM]
  · rw [fM]
    unfold m_in
    refine cntN_mono (fun j _ hj => ?_)
    unfold m_inb at hj ⊢
    rw [decide_eq_true_iff] at hj ⊢
    exact s1 j hj
  · rw [fM]; rfl
  · rw [fM]; rfl
