/-! the start: both sides -/
def wRGm (s : MS) (f : Nat → Option (Fin 32)) : MS := (s.1, s.2.1, s.2.2.1, s.2.2.2.1, s.2.2.2.2.1, s.2.2.2.2.2.1, s.2.2.2.2.2.2.1, f, s.2.2.2.2.2.2.2.2)
theorem wldM_rg {g : GG} {a : Nat → Nat} {s : MS} {H : Heap} (f : Nat → Option (Fin 32)) (h : ∀ j, j < 4 → gM_RG s j = f j) (hP : va_P g.1 bw_cl (wldM g a s) H) : va_P g.1 bw_cl (wldM g a (wRGm s f)) H := fun k q hq => by
  by_cases z : k = 8
  · rw [z] at hq
    cases hq
    have h2 : H[a 8]? = some (vp_cell g.2.2.1 (4, .inl (fun j => oI (gM_RG s j)))) := hP 8 _ rfl
    show H[a 8]? = some (vp_cell g.2.2.1 (4, .inl (fun j => oI (f j))))
    rw [h2, cell_eq (fun j hj => by rw [h j hj])]
  · have hq2 : (wldM g a s)[k]? = some q := by
      have hk := (wldM_at hq).1
      rw [← hq]
      rcases (show k = 0 ∨ k = 1 ∨ k = 2 ∨ k = 3 ∨ k = 4 ∨ k = 5 ∨ k = 6 ∨ k = 7 ∨ k = 8 by omega) with rfl | rfl | rfl | rfl | rfl | rfl | rfl | rfl | rfl <;> first | rfl | exact absurd rfl z
    exact hP k q hq2
def m_ini2 : MS := wRGm m_init (fun _ => none)
theorem m_ir_rg (s : MS) : ∀ n j, j < n → gM_RG (fldN m_ir s n) j = none
  | 0, j, h => absurd h (Nat.not_lt_zero j)
  | n + 1, j, h => by
    show va_up (gM_RG (fldN m_ir s n)) n none j = none
    unfold va_up
    by_cases z : j = n
    · rw [if_pos z]
    · rw [if_neg z]; exact m_ir_rg s n j (by omega)
theorem wldM_ini {g : GG} {a : Nat → Nat} {H : Heap} (hP : va_P g.1 bw_cl (wldM g a m_init) H) : va_P g.1 bw_cl (wldM g a m_ini2) H := wldM_rg (fun _ => none) (fun j hj => m_ir_rg _ 4 j hj) hP
theorem m_ir_keep {β : Type} (G : MS → β) (hG : ∀ s r x, G (uM_RG s r x) = G s) (s : MS) (n : Nat) : G (fldN m_ir s n) = G s := fldN_keep G (fun i s => hG s i none) s n
theorem m_ini_c : gM_TH m_ini2 = (fun _ => false) ∧ gM_MK m_ini2 = (fun _ => false) ∧ gM_KP m_ini2 = (fun _ => false) ∧ gM_ST m_ini2 = (fun _ => ⟨0, by decide⟩) ∧ gM_US m_ini2 = (fun _ => false) ∧ gM_RG m_ini2 = (fun _ => none) ∧ gM_BU m_ini2 = ⟨4, by decide⟩ ∧ gM_HA m_ini2 = ⟨0, by decide⟩ ∧ gM_FA m_ini2 = 0 ∧ gM_TR m_ini2 = 0 := by
  have a1 := m_ir_keep gM_TH (fun _ _ _ => rfl) (uM_BU iM_00 ⟨4, by decide⟩) 4
  have a2 := m_ir_keep gM_MK (fun _ _ _ => rfl) (uM_BU iM_00 ⟨4, by decide⟩) 4
  have a3 := m_ir_keep gM_KP (fun _ _ _ => rfl) (uM_BU iM_00 ⟨4, by decide⟩) 4
  have a4 := m_ir_keep gM_ST (fun _ _ _ => rfl) (uM_BU iM_00 ⟨4, by decide⟩) 4
  have a5 := m_ir_keep gM_US (fun _ _ _ => rfl) (uM_BU iM_00 ⟨4, by decide⟩) 4
  have a6 := m_ir_keep gM_BU (fun _ _ _ => rfl) (uM_BU iM_00 ⟨4, by decide⟩) 4
  have a7 := m_ir_keep gM_HA (fun _ _ _ => rfl) (uM_BU iM_00 ⟨4, by decide⟩) 4
  have a8 := m_ir_keep gM_FA (fun _ _ _ => rfl) (uM_BU iM_00 ⟨4, by decide⟩) 4
  have a9 := m_ir_keep gM_TR (fun _ _ _ => rfl) (uM_BU iM_00 ⟨4, by decide⟩) 4
  exact ⟨a1, a2, a3, a4, a5, rfl, a6, a7, a8, a9⟩
theorem OKs.init : OKs h_init m_ini2 := by
  obtain ⟨c1, c2, c3, c4, c5, c6, c7, c8, c9, c10⟩ := m_ini_c
  generalize m_ini2 = m at c1 c2 c3 c4 c5 c6 c7 c8 c9 c10 ⊢
  have rf : ∀ v w, m_refers m v w = false := by
    intro v w
    cases z : m_refers m v w with
    | false => rfl
    | true =>
      obtain ⟨-, i, k, -, h2, -, -⟩ := (m_refers_iff m v w).mp z
      rw [c1] at h2; cases h2
  have cn : ∀ w, m_counted m w = 0 := fun w => cntN_zero.mpr (fun j _ => by
    unfold m_ctb
    rw [rf, Bool.and_false])
  have inn : m_in m = 0 := cntN_zero.mpr (fun j _ => by
    unfold m_inb
    rw [c4]; rfl)
  refine ⟨⟨c1.symm, c2.symm, c6.symm, c4.symm, c5.symm, c7.symm, c9.symm, c8.symm, fun i => ?_, fun w => ?_, fun p hp => ?_, fun p _ => rfl⟩, ⟨fun p hp => ?_, fun v hv => ?_, fun r k hr => ?_, fun i k hi => ?_, fun p hp => ?_, fun p hp => ?_, fun v hv => ?_, fun p hp => ?_, fun i k hi => ?_, fun p hp => ?_, ?_, fun p _ => ?_⟩, ?_⟩
  · rw [c1]; rfl
  · rw [cn w]; rfl
  · rw [c1] at hp; cases hp
  · rw [c1] at hp; cases hp
  · rw [c4] at hv; exact absurd rfl hv
  · rw [c6] at hr; cases hr
  · rw [c1] at hi; cases hi
  · rw [c2] at hp; cases hp
  · rw [c1] at hp; cases hp
  · rw [c5] at hv; cases hv
  · rw [c1] at hp; cases hp
  · rw [c1] at hi; cases hi
  · rw [c2] at hp; cases hp
  · rw [c7]; decide
  · rw [c3]
  · rw [inn]; exact Nat.zero_le _
