/-! the class beside the reference: what holds of the reference between calls, and what the class's state is then -/
theorem cntN_congr {f g : Nat → Bool} : ∀ {n : Nat}, (∀ j, j < n → f j = g j) → cntN f n = cntN g n
  | 0, _ => rfl
  | n + 1, h => by
    show cntN f n + (if f n = true then 1 else 0) = cntN g n + (if g n = true then 1 else 0)
    rw [cntN_congr (fun j hj => h j (by omega)), h n (by omega)]
theorem cntN_zero {f : Nat → Bool} : ∀ {n : Nat}, cntN f n = 0 ↔ ∀ j, j < n → f j = false
  | 0 => ⟨fun _ j hj => absurd hj (Nat.not_lt_zero j), fun _ => rfl⟩
  | n + 1 => by
    show cntN f n + (if f n = true then 1 else 0) = 0 ↔ _
    refine ⟨fun h j hj => ?_, fun h => ?_⟩
    · have h1 : cntN f n = 0 := by omega
      rcases Nat.lt_or_ge j n with q | q
      · exact (cntN_zero.mp h1) j q
      · have e : j = n := by omega
        subst e
        cases hf : f j with
        | false => rfl
        | true => rw [hf] at h; simp at h
    · rw [cntN_zero.mpr (fun j hj => h j (by omega)), h n (by omega)]; rfl
theorem cntN_pos {f : Nat → Bool} {j n : Nat} (hj : j < n) (h : f j = true) : cntN f n ≠ 0 := fun h0 => by
  rw [cntN_zero.mp h0 j hj] at h; cases h
theorem cntN_ex {f : Nat → Bool} : ∀ {n : Nat}, cntN f n ≠ 0 → ∃ j, j < n ∧ f j = true
  | 0, h => absurd rfl h
  | n + 1, h => by
    by_cases q : f n = true
    · exact ⟨n, by omega, q⟩
    · have h2 : cntN f n ≠ 0 := fun z => h (by
        show cntN f n + (if f n = true then 1 else 0) = 0
        rw [z, if_neg q])
      obtain ⟨j, hj, hf⟩ := cntN_ex h2
      exact ⟨j, by omega, hf⟩
/-- one more -/
theorem cntN_more {f g : Nat → Bool} {v n : Nat} (hv : v < n) (hf : f v = false) (hg : g v = true) (h : ∀ j, j ≠ v → g j = f j) : cntN g n = cntN f n + 1 := by
  have e : g = va_up f v true := by
    funext j
    unfold va_up
    by_cases q : j = v
    · rw [if_pos q, q, hg]
    · rw [if_neg q, h j q]
  rw [e, cntN_up hf, if_pos hv]
theorem up_s {α : Type} {f : Nat → α} {k : Nat} {v : α} : va_up f k v k = v := if_pos rfl
theorem up_n {α : Type} {f : Nat → α} {k j : Nat} {v : α} (h : j ≠ k) : va_up f k v j = f j := if_neg h
theorem bool_iff {a b : Bool} (h : a = true ↔ b = true) : a = b := by
  cases a <;> cases b <;> simp at h ⊢
theorem m_refers_iff (m : MS) (v w : Nat) : m_refers m v w = true ↔ v ≠ w ∧ ∃ (i : Nat) (k : Fin 32), i / 8 = v ∧ gM_TH m (i / 2) = true ∧ gM_FD m i = some k ∧ k.val / 4 = w := by
  unfold m_refers
  rw [Bool.and_eq_true, anyN_iff]
  constructor
  · rintro ⟨⟨i, hi, h1⟩, h2⟩
    unfold m_rf1 at h1
    rw [anyN_iff] at h1
    obtain ⟨j, hj, h3⟩ := h1
    unfold m_rfb at h3
    rw [Bool.and_eq_true] at h3
    obtain ⟨h4, h5⟩ := h3
    cases hf : gM_FD m (2 * (4 * v + i) + j) with
    | none => rw [hf] at h5; cases h5
    | some k =>
      rw [hf] at h5
      refine ⟨by simpa using h2, 2 * (4 * v + i) + j, k, by omega, ?_, hf, by simpa using h5⟩
      rw [show (2 * (4 * v + i) + j) / 2 = 4 * v + i by omega]
      exact h4
  · rintro ⟨hne, i, k, hi, h1, h2, h3⟩
    refine ⟨⟨(i / 2) % 4, by omega, ?_⟩, by simpa using hne⟩
    unfold m_rf1
    rw [anyN_iff]
    refine ⟨i % 2, by omega, ?_⟩
    unfold m_rfb
    have e1 : 4 * v + (i / 2) % 4 = i / 2 := by omega
    have e2 : 2 * (4 * v + (i / 2) % 4) + i % 2 = i := by omega
    rw [e2, e1, h2, h1]
    simp [h3]
theorem h_refers_iff (h : HS) (v w : Nat) : h_refers h v w = true ↔ v ≠ w ∧ ∃ (i : Nat) (k : Fin 32), i / 8 = v ∧ gH_FD h i = some k ∧ k.val / 4 = w := by
  unfold h_refers
  rw [Bool.and_eq_true, anyN_iff]
  constructor
  · rintro ⟨h2, i, hi, h3⟩
    unfold h_rfb at h3
    cases hf : gH_FD h (2 * (4 * v) + i) with
    | none => rw [hf] at h3; cases h3
    | some k =>
      rw [hf] at h3
      exact ⟨by simpa using h2, 2 * (4 * v) + i, k, by omega, hf, by simpa using h3⟩
  · rintro ⟨hne, i, k, hi, h2, h3⟩
    refine ⟨by simpa using hne, i % 8, by omega, ?_⟩
    unfold h_rfb
    have e1 : 2 * (4 * v) + i % 8 = i := by omega
    rw [e1, h2]
    simp [h3]
/-- kept of the class beyond its places: nothing -/
def KHok (h : HS) : Prop := ∀ p, 32 ≤ p → gH_KP h p = false
/-- what the class's state is, beside the reference's -/
def Rel (h : HS) (m : MS) : Prop := gH_TK h = gM_TH m ∧ gH_BM h = gM_MK m ∧ gH_RG h = gM_RG m ∧ gH_ST h = gM_ST m ∧ gH_US h = gM_US m ∧ gH_BU h = gM_BU m ∧ gH_FA h = gM_FA m ∧ gH_HA h = gM_HA m ∧ (∀ i, gH_FD h i = if gM_TH m (i / 2) = true then gM_FD m i else none) ∧ (∀ w, gH_CT h w = nI (m_counted m w)) ∧ (∀ p, gM_TH m p = true → gH_VA h p = gM_VA m p) ∧ KHok h
/-- kept of the reference beyond its places: nothing (no method sets it) -/
def KPok (m : MS) : Prop := ∀ p, 32 ≤ p → gM_KP m p = false
/-- what holds of the reference between calls (the number of pages in aside) -/
def Inv (m : MS) : Prop := (∀ p, gM_TH m p = true → p < 32) ∧ (∀ v, (gM_ST m v).val ≠ 0 → v < 8) ∧ (∀ r k, gM_RG m r = some k → r < 4 ∧ gM_TH m k.val = true) ∧ (∀ i k, gM_TH m (i / 2) = true → gM_FD m i = some k → gM_TH m k.val = true) ∧ (∀ p, gM_MK m p = true → gM_TH m p = true) ∧ (∀ p, gM_TH m p = true → (gM_ST m (p / 4)).val ≠ 0) ∧ (∀ v, gM_US m v = true → (gM_ST m v).val = 1) ∧ (∀ p, gM_TH m p = true → (gM_ST m (p / 4)).val = 2 → gM_MK m p = true) ∧ (∀ i k, gM_TH m (i / 2) = true → (gM_ST m (i / 8)).val = 2 → gM_FD m i = some k → gM_MK m k.val = true) ∧ (∀ p, gM_MK m p = true → (gM_ST m (p / 4)).val = 1 → m_counted m (p / 4) ≠ 0) ∧ 2 ≤ (gM_BU m).val ∧ KPok m
theorem Rel.refers {h : HS} {m : MS} (R : Rel h m) (v w : Nat) : h_refers h v w = m_refers m v w := by
  obtain ⟨-, -, -, -, -, -, -, -, hF, -, -⟩ := R
  apply bool_iff
  rw [h_refers_iff, m_refers_iff]
  constructor
  · rintro ⟨hne, i, k, h1, h2, h3⟩
    rw [hF i] at h2
    by_cases q : gM_TH m (i / 2) = true
    · rw [if_pos q] at h2; exact ⟨hne, i, k, h1, q, h2, h3⟩
    · rw [if_neg q] at h2; cases h2
  · rintro ⟨hne, i, k, h1, q, h2, h3⟩
    exact ⟨hne, i, k, h1, by rw [hF i, if_pos q]; exact h2, h3⟩
/-- loops that set bits -/
theorem fld_bits {α : Type} {F : Nat → α → α} {G : α → Nat → Bool} {c : Nat → Option Nat} {s : α} (hF : ∀ i t, (∀ n, t = fldN F s n → G (F i t) = match c i with | none => G t | some q => va_up (G t) q true)) : ∀ n q, G (fldN F s n) q = true ↔ G s q = true ∨ ∃ i, i < n ∧ c i = some q
  | 0, q => ⟨Or.inl, fun h => h.elim id (fun ⟨i, hi, _⟩ => absurd hi (Nat.not_lt_zero i))⟩
  | n + 1, q => by
    have ih := fld_bits hF n q
    show G (F n (fldN F s n)) q = true ↔ _
    rw [hF n (fldN F s n) n rfl]
    cases hc : c n with
    | none =>
      show G (fldN F s n) q = true ↔ _
      rw [ih]
      refine or_congr Iff.rfl ⟨fun ⟨i, h1, h2⟩ => ⟨i, by omega, h2⟩, fun ⟨i, h1, h2⟩ => ⟨i, ?_, h2⟩⟩
      rcases Nat.lt_or_ge i n with z | z
      · exact z
      · have e : i = n := by omega
        rw [e, hc] at h2; cases h2
    | some k =>
      show va_up (G (fldN F s n)) k true q = true ↔ _
      unfold va_up
      by_cases z : q = k
      · rw [if_pos z]
        exact ⟨fun _ => Or.inr ⟨n, by omega, by rw [hc, z]⟩, fun _ => rfl⟩
      · rw [if_neg z, ih]
        refine or_congr Iff.rfl ⟨fun ⟨i, h1, h2⟩ => ⟨i, by omega, h2⟩, fun ⟨i, h1, h2⟩ => ⟨i, ?_, h2⟩⟩
        rcases Nat.lt_or_ge i n with y | y
        · exact y
        · have e : i = n := by omega
          rw [e, hc] at h2
          exact absurd (Option.some.inj h2).symm z
