/-! what is kept: both sides keep what is reached -/
def Clo (m : MS) (S : Nat → Prop) : Prop := ∀ p, gM_TH m p = true → (gM_ST m (p / 4)).val = 1 → (gM_MK m p = true ∨ (∃ (r : Nat) (k : Fin 32), r < 4 ∧ gM_RG m r = some k ∧ k.val = p) ∨ ∃ (i : Nat) (k : Fin 32), S (i / 2) ∧ gM_FD m i = some k ∧ k.val = p) → S p
def Reach (m : MS) (p : Nat) : Prop := ∀ S, Clo m S → S p
def Good (m : MS) (p : Nat) : Prop := gM_TH m p = true ∧ (gM_ST m (p / 4)).val = 1 ∧ Reach m p
theorem Reach.step {m : MS} {p : Nat} (h1 : gM_TH m p = true) (h2 : (gM_ST m (p / 4)).val = 1) (h : gM_MK m p = true ∨ (∃ (r : Nat) (k : Fin 32), r < 4 ∧ gM_RG m r = some k ∧ k.val = p) ∨ ∃ (i : Nat) (k : Fin 32), Reach m (i / 2) ∧ gM_FD m i = some k ∧ k.val = p) : Good m p := by
  refine ⟨h1, h2, fun S hS => hS p h1 h2 ?_⟩
  rcases h with h | h | ⟨i, k, a, b, c⟩
  · exact Or.inl h
  · exact Or.inr (Or.inl h)
  · exact Or.inr (Or.inr ⟨i, k, a S hS, b, c⟩)
def wKP (s : MS) (f : Nat → Bool) : MS := (s.1, s.2.1, s.2.2.1, s.2.2.2.1, f, s.2.2.2.2.2)
def sb (m : MS) (f : Nat → Bool) (p : Nat) : Bool := m_swb (wKP m f) p
theorem sb_iff (m : MS) (f : Nat → Bool) {p : Nat} (hp : p < 32) : sb m f p = true ↔ f p = false ∧ gM_TH m p = true ∧ (gM_ST m (p / 4)).val = 1 ∧ (gM_MK m p = true ∨ (∃ (r : Nat) (k : Fin 32), r < 4 ∧ gM_RG m r = some k ∧ k.val = p) ∨ ∃ (i : Nat) (k : Fin 32), i < 64 ∧ f (i / 2) = true ∧ gM_FD m i = some k ∧ k.val = p) := by
  unfold sb m_swb m_held
  have e1 : gM_KP (wKP m f) = f := rfl
  have e2 : gM_TH (wKP m f) = gM_TH m := rfl
  have e3 : gM_ST (wKP m f) = gM_ST m := rfl
  have e4 : gM_MK (wKP m f) = gM_MK m := rfl
  rw [e1, e2, e3, e4]
  simp only [Bool.and_eq_true, Bool.or_eq_true, Bool.not_eq_true', decide_eq_true_eq, anyN_iff]
  have a1 : (∃ i, i < 4 ∧ m_h1 (wKP m f) p i = true) ↔ ∃ (r : Nat) (k : Fin 32), r < 4 ∧ gM_RG m r = some k ∧ k.val = p := by
    constructor
    · rintro ⟨i, hi, h⟩
      unfold m_h1 at h
      rw [decide_eq_true_iff] at h
      have h : oI (gM_RG m i) = nI p := h
      exact ⟨i, ⟨p, hp⟩, hi, (oI_eq hp).mp h, rfl⟩
    · rintro ⟨r, k, hr, h1, h2⟩
      refine ⟨r, hr, ?_⟩
      unfold m_h1
      rw [decide_eq_true_iff]
      show oI (gM_RG m r) = nI p
      rw [h1, ← h2]; rfl
  have a2 : (∃ i, i < 64 ∧ m_h2 (wKP m f) p i = true) ↔ ∃ (i : Nat) (k : Fin 32), i < 64 ∧ f (i / 2) = true ∧ gM_FD m i = some k ∧ k.val = p := by
    constructor
    · rintro ⟨i, hi, h⟩
      unfold m_h2 at h
      rw [Bool.and_eq_true, decide_eq_true_iff] at h
      have h1 : f (i / 2) = true := h.1
      have h2 : oI (gM_FD m i) = nI p := h.2
      exact ⟨i, ⟨p, hp⟩, hi, h1, (oI_eq hp).mp h2, rfl⟩
    · rintro ⟨i, k, hi, h1, h2, h3⟩
      refine ⟨i, hi, ?_⟩
      unfold m_h2
      rw [Bool.and_eq_true, decide_eq_true_iff]
      refine ⟨h1, ?_⟩
      show oI (gM_FD m i) = nI p
      rw [h2, ← h3]; rfl
  rw [a1, a2]
  constructor
  · rintro ⟨⟨⟨h1, h2⟩, h3⟩, h4⟩
    exact ⟨h1, h2, h3, h4.elim (fun x => x.elim Or.inl (fun y => Or.inr (Or.inl y))) (fun y => Or.inr (Or.inr y))⟩
  · rintro ⟨h1, h2, h3, h4⟩
    exact ⟨⟨⟨h1, h2⟩, h3⟩, h4.elim (fun x => Or.inl (Or.inl x)) (fun y => y.elim (fun z => Or.inl (Or.inr z)) Or.inr)⟩
def sw1 (m : MS) (p : Nat) (x : Bool × (Nat → Bool)) : Bool × (Nat → Bool) := if sb m x.2 p = true then (true, va_up x.2 p true) else x
theorem sweep_lift (m : MS) (f : Nat → Bool) (n : Nat) : fldN m_sw (false, wKP m f) n = ((fldN (sw1 m) (false, f) n).1, wKP m (fldN (sw1 m) (false, f) n).2) := by
  have e : ∀ p (x : Bool × (Nat → Bool)), m_sw p ((fun x : Bool × (Nat → Bool) => (x.1, wKP m x.2)) x) = (fun x : Bool × (Nat → Bool) => (x.1, wKP m x.2)) (sw1 m p x) := by
    intro p x
    unfold m_sw sw1
    show (if sb m x.2 p = true then (true, uM_KP (wKP m x.2) p true) else (x.1, wKP m x.2)) = _
    by_cases q : sb m x.2 p = true
    · rw [if_pos q, if_pos q]; rfl
    · rw [if_neg q, if_neg q]
  exact fld_lift (fun x : Bool × (Nat → Bool) => (x.1, wKP m x.2)) e (false, f) n
/-- a sweep: sound; if nothing was found, nothing is left to find -/
theorem sw1_ok (m : MS) (f : Nat → Bool) (hg : ∀ p, f p = true → Good m p) : ∀ n, n ≤ 32 → (∀ p, (fldN (sw1 m) (false, f) n).2 p = true → Good m p) ∧ ((fldN (sw1 m) (false, f) n).1 = false → (fldN (sw1 m) (false, f) n).2 = f ∧ ∀ p, p < n → sb m f p = false)
  | 0, _ => ⟨hg, fun _ => ⟨rfl, fun p hp => absurd hp (Nat.not_lt_zero p)⟩⟩
  | n + 1, hn => by
    obtain ⟨i1, i2⟩ := sw1_ok m f hg n (by omega)
    show (∀ p, (sw1 m n (fldN (sw1 m) (false, f) n)).2 p = true → Good m p) ∧ ((sw1 m n (fldN (sw1 m) (false, f) n)).1 = false → (sw1 m n (fldN (sw1 m) (false, f) n)).2 = f ∧ ∀ p, p < n + 1 → sb m f p = false)
    generalize fldN (sw1 m) (false, f) n = y at i1 i2 ⊢
    unfold sw1
    by_cases q : sb m y.2 n = true
    · rw [if_pos q]
      refine ⟨fun p hp => ?_, fun h => by cases h⟩
      have hp : va_up y.2 n true p = true := hp
      by_cases z : p = n
      · obtain ⟨-, a2, a3, a4⟩ := (sb_iff m y.2 (by omega)).mp q
        rw [z]
        refine Reach.step a2 a3 ?_
        rcases a4 with a4 | a4 | ⟨i, k, -, b1, b2, b3⟩
        · exact Or.inl a4
        · exact Or.inr (Or.inl a4)
        · exact Or.inr (Or.inr ⟨i, k, (i1 _ b1).2.2, b2, b3⟩)
      · rw [up_n z] at hp; exact i1 p hp
    · rw [if_neg q]
      refine ⟨i1, fun h => ?_⟩
      obtain ⟨e1, e2⟩ := i2 h
      refine ⟨e1, fun p hp => ?_⟩
      rcases Nat.lt_or_ge p n with z | z
      · exact e2 p z
      · have e : p = n := by omega
        rw [e, ← e1]
        cases y2 : sb m y.2 n with
        | false => rfl
        | true => exact absurd y2 q
theorem m_fx_ok (m : MS) : ∀ (n : Nat) (f : Nat → Bool), 33 ≤ n + cntN f 32 → (∀ p, f p = true → Good m p) → ∃ g, m_fx n (wKP m f) = wKP m g ∧ (∀ p, g p = true → Good m p) ∧ ∀ p, p < 32 → sb m g p = false
  | 0, f, h, _ => by
    have := cntN_le f 32
    omega
  | n + 1, f, h, hg => by
    have hl := sweep_lift m f 32
    obtain ⟨o1, o2⟩ := sw1_ok m f hg 32 (Nat.le_refl 32)
    have hc := m_sw_cnt (wKP m f) 32 (Nat.le_refl 32)
    unfold m_fx m_sweep
    rw [hl] at hc ⊢
    generalize fldN (sw1 m) (false, f) 32 = y at o1 o2 hc ⊢
    by_cases q : y.1 = true
    · rw [if_pos q]
      have hc : cntN f 32 + (if y.1 = true then 1 else 0) ≤ cntN y.2 32 := hc
      rw [if_pos q] at hc
      exact m_fx_ok m n y.2 (by omega) o1
    · rw [if_neg q]
      have q2 : y.1 = false := by cases z : y.1 with
        | false => rfl
        | true => exact absurd z q
      obtain ⟨e1, e2⟩ := o2 q2
      exact ⟨y.2, rfl, o1, by rw [e1]; exact e2⟩
theorem m_k0_fld (m : MS) : ∀ n, fldN m_k0 m n = wKP m (fun p => if p < n then false else gM_KP m p)
  | 0 => by
    have e : (fun p => if p < 0 then false else gM_KP m p) = gM_KP m := by
      funext p; rw [if_neg (by omega)]
    rw [e]; rfl
  | n + 1 => by
    show m_k0 n (fldN m_k0 m n) = _
    rw [m_k0_fld m n]
    show wKP m (va_up (fun p => if p < n then false else gM_KP m p) n false) = _
    congr 1
    funext p
    unfold va_up
    by_cases z : p = n
    · rw [if_pos z, if_pos (show p < n + 1 by omega)]
    · rw [if_neg z]
      show (if p < n then false else gM_KP m p) = _
      by_cases y : p < n
      · rw [if_pos y, if_pos (show p < n + 1 by omega)]
      · rw [if_neg y, if_neg (show ¬ p < n + 1 by omega)]
/-- what the reference keeps -/
theorem m_wi0_ok {m : MS} (I : Inv m) : ∃ g, m_wi0 m = wKP m g ∧ (∀ p, g p = true ↔ Good m p) := by
  obtain ⟨j0, j0s, j1, j2, j3, j4, j5, j6, j6b, j7, j8⟩ := I
  have hk := j8.2
  have hf : ∀ p, (if p < 32 then false else gM_KP m p) = false := by
    intro p
    by_cases z : p < 32
    · rw [if_pos z]
    · rw [if_neg z]; exact hk p (by omega)
  have h0 : cntN (fun p => if p < 32 then false else gM_KP m p) 32 = 0 := cntN_zero.mpr (fun j _ => hf j)
  obtain ⟨g, e, g1, g2⟩ := m_fx_ok m 33 (fun p => if p < 32 then false else gM_KP m p) (by rw [h0]; omega) (fun p hp => by rw [hf p] at hp; cases hp)
  refine ⟨g, ?_, fun p => ⟨g1 p, fun hp => ?_⟩⟩
  · unfold m_wi0
    rw [m_k0_fld]; exact e
  · refine hp.2.2 (fun p => g p = true) (fun p h1 h2 h3 => ?_)
    have hp32 := j0 p h1
    show g p = true
    cases y : g p with
    | true => rfl
    | false =>
      have z := g2 p hp32
      rw [(sb_iff m g hp32).mpr ⟨y, h1, h2, ?_⟩] at z
      · cases z
      · rcases h3 with h3 | h3 | ⟨i, k, b1, b2, b3⟩
        · exact Or.inl h3
        · exact Or.inr (Or.inl h3)
        · refine Or.inr (Or.inr ⟨i, k, ?_, b1, b2, b3⟩)
          have := j0 _ (g1 _ b1).1
          omega
