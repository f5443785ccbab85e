/-! a page goes out: both sides -/
theorem fld_lift {α β : Type} {F : Nat → α → α} {F' : Nat → β → β} (e : β → α) (h : ∀ i b, F i (e b) = e (F' i b)) (b0 : β) : ∀ n, fldN F (e b0) n = e (fldN F' b0 n)
  | 0 => rfl
  | n + 1 => by
    show F n (fldN F (e b0) n) = e (F' n (fldN F' b0 n))
    rw [fld_lift e h b0 n, h]
/-- a loop that changes each place once, by what stood there -/
theorem fld_pt {α : Type} (c : Nat → Bool) (g : Nat → α → α) (f0 : Nat → α) : ∀ n j, fldN (fun i f => if c i = true then va_up f i (g i (f i)) else f) f0 n j = if j < n ∧ c j = true then g j (f0 j) else f0 j
  | 0, j => by rw [if_neg (by omega)]; rfl
  | n + 1, j => by
    show (if c n = true then va_up (fldN (fun i f => if c i = true then va_up f i (g i (f i)) else f) f0 n) n (g n (fldN (fun i f => if c i = true then va_up f i (g i (f i)) else f) f0 n n)) else fldN (fun i f => if c i = true then va_up f i (g i (f i)) else f) f0 n) j = _
    by_cases hc : c n = true
    · rw [if_pos hc]
      by_cases z : j = n
      · rw [z, up_s, fld_pt c g f0 n n, if_neg (by omega), if_pos ⟨by omega, hc⟩]
      · rw [up_n z, fld_pt c g f0 n j]
        by_cases y : j < n ∧ c j = true
        · rw [if_pos y, if_pos ⟨by omega, y.2⟩]
        · rw [if_neg y, if_neg (fun q => y ⟨by omega, q.2⟩)]
    · rw [if_neg hc, fld_pt c g f0 n j]
      by_cases y : j < n ∧ c j = true
      · rw [if_pos y, if_pos ⟨by omega, y.2⟩]
      · rw [if_neg y, if_neg (fun q => y ⟨by
          rcases Nat.lt_or_ge j n with a | a
          · exact a
          · have e : j = n := by omega
            rw [e] at q
            exact absurd q.2 hc, q.2⟩)]
def wBM (s : HS) (f : Nat → Bool) : HS := (s.1, f, s.2.2)
def wCT (s : HS) (f : Nat → Int32) : HS := (s.1, s.2.1, s.2.2.1, s.2.2.2.1, s.2.2.2.2.1, s.2.2.2.2.2.1, s.2.2.2.2.2.2.1, f, s.2.2.2.2.2.2.2.2)
def wMK (s : MS) (f : Nat → Bool) : MS := (s.1, s.2.1, s.2.2.1, f, s.2.2.2.2)
theorem h_bkall_eq (v : Nat) (h : HS) : ∃ f : Nat → Bool, h_bkall v h = wBM h f ∧ ∀ q, f q = true ↔ gH_BM h q = true ∨ (q / 4 = v ∧ gH_TK h q = true) ∨ ∃ (i : Nat) (k : Fin 32), i / 8 = v ∧ gH_FD h i = some k ∧ k.val = q := by
  have e1 : ∀ i f, h_bk1 v i (wBM h f) = wBM h (if gH_TK h (4 * v + i) = true then va_up f (4 * v + i) true else f) := by
    intro i f
    unfold h_bk1
    show (if gH_TK h (4 * v + i) = true then wBM h (va_up f (4 * v + i) true) else wBM h f) = _
    split <;> rfl
  have e2 : ∀ i f, h_bk2 v i (wBM h f) = wBM h (match gH_FD h (2 * (4 * v) + i) with | none => f | some k => va_up f k.val true) := by
    intro i f
    unfold h_bk2
    show (match gH_FD h (2 * (4 * v) + i) with | none => wBM h f | some k => wBM h (va_up f k.val true)) = _
    cases gH_FD h (2 * (4 * v) + i) <;> rfl
  refine ⟨fldN (fun i f => match gH_FD h (2 * (4 * v) + i) with | none => f | some k => va_up f k.val true) (fldN (fun i f => if gH_TK h (4 * v + i) = true then va_up f (4 * v + i) true else f) (gH_BM h) 4) 8, ?_, fun q => ?_⟩
  · unfold h_bkall
    have a1 := fld_lift (wBM h) e1 (gH_BM h) 4
    have a0 : wBM h (gH_BM h) = h := rfl
    rw [a0] at a1
    rw [a1, fld_lift (wBM h) e2 _ 8]
  · have b2 := fld_bits (G := fun f : Nat → Bool => f) (F := fun i f => match gH_FD h (2 * (4 * v) + i) with | none => f | some k => va_up f k.val true) (c := fun i => (gH_FD h (2 * (4 * v) + i)).map (fun k => k.val)) (s := fldN (fun i f => if gH_TK h (4 * v + i) = true then va_up f (4 * v + i) true else f) (gH_BM h) 4) (fun i t n _ => by
      try dsimp only
      cases gH_FD h (2 * (4 * v) + i) <;> rfl) 8 q
    have b1 := fld_bits (G := fun f : Nat → Bool => f) (F := fun i f => if gH_TK h (4 * v + i) = true then va_up f (4 * v + i) true else f) (c := fun i => if gH_TK h (4 * v + i) = true then some (4 * v + i) else none) (s := gH_BM h) (fun i t n _ => by
      try dsimp only
      split <;> rfl) 4 q
    rw [b2, b1, or_assoc]
    refine or_congr Iff.rfl (or_congr ⟨fun ⟨i, hi, hc⟩ => ?_, fun ⟨h1, h2⟩ => ⟨q % 4, by omega, ?_⟩⟩ ⟨fun ⟨i, hi, hc⟩ => ?_, fun ⟨i, k, h1, h2, h3⟩ => ⟨i % 8, by omega, ?_⟩⟩)
    · by_cases z : gH_TK h (4 * v + i) = true
      · rw [if_pos z] at hc
        have e := Option.some.inj hc
        exact ⟨by omega, by rw [← e]; exact z⟩
      · rw [if_neg z] at hc; cases hc
    · have e : 4 * v + q % 4 = q := by omega
      rw [e, if_pos h2]
    · cases hf : gH_FD h (2 * (4 * v) + i) with
      | none => rw [hf] at hc; cases hc
      | some k =>
        rw [hf] at hc
        exact ⟨2 * (4 * v) + i, k, by omega, hf, Option.some.inj hc⟩
    · have e : 2 * (4 * v) + i % 8 = i := by omega
      rw [e, h2, ← h3]; rfl
theorem h_putOut_eq (v : Nat) (h : HS) : ∃ (f1 : Nat → Bool) (f2 : Nat → Int32), h_putOut v h = uH_US (uH_ST (wCT (wBM h f1) f2) v ⟨2, by decide⟩) v false ∧ (∀ q, f1 q = true ↔ gH_BM h q = true ∨ (q / 4 = v ∧ gH_TK h q = true) ∨ ∃ (i : Nat) (k : Fin 32), i / 8 = v ∧ gH_FD h i = some k ∧ k.val = q) ∧ ∀ w, f2 w = if w < 8 ∧ h_refers h v w = true then gH_CT h w + nI 1 else gH_CT h w := by
  obtain ⟨f1, e1, h1⟩ := h_bkall_eq v h
  have e2 : ∀ i f, h_cinc v i (wCT (wBM h f1) f) = wCT (wBM h f1) (if h_refers h v i = true then va_up f i ((fun _ x => x + nI 1) i (f i)) else f) := by
    intro i f
    unfold h_cinc
    have a : h_refers (wCT (wBM h f1) f) v i = h_refers h v i := rfl
    rw [a]
    split <;> rfl
  refine ⟨f1, fldN (fun i f => if h_refers h v i = true then va_up f i ((fun _ x => x + nI 1) i (f i)) else f) (gH_CT h) 8, ?_, h1, fun w => ?_⟩
  · unfold h_putOut
    rw [e1]
    have a1 := fld_lift (wCT (wBM h f1)) e2 (gH_CT h) 8
    have a0 : wCT (wBM h f1) (gH_CT h) = wBM h f1 := rfl
    rw [a0] at a1
    rw [a1]
  · exact fld_pt (fun i => h_refers h v i) (fun _ x => x + nI 1) (gH_CT h) 8 w
theorem m_putOut_eq (v : Nat) (m : MS) (h2 : ∀ i k, gM_TH m (i / 2) = true → gM_FD m i = some k → gM_TH m k.val = true) (h3 : ∀ p, gM_MK m p = true → gM_TH m p = true) : ∃ f : Nat → Bool, m_putOut v m = uM_US (uM_ST (wMK m f) v ⟨2, by decide⟩) v false ∧ ∀ q, f q = true ↔ gM_MK m q = true ∨ (q / 4 = v ∧ gM_TH m q = true) ∨ ∃ (i : Nat) (k : Fin 32), i / 8 = v ∧ gM_TH m (i / 2) = true ∧ gM_FD m i = some k ∧ k.val = q := by
  have e2 : ∀ i j f, m_po2 v i j (wMK m f) = wMK m (if gM_TH m (4 * v + i) = true then (match gM_FD m (2 * (4 * v + i) + j) with | none => f | some k => va_up f k.val true) else f) := by
    intro i j f
    unfold m_po2
    show (if gM_TH m (4 * v + i) = true then (match gM_FD m (2 * (4 * v + i) + j) with | none => wMK m f | some k => wMK m (va_up f k.val true)) else wMK m f) = _
    split
    · cases gM_FD m (2 * (4 * v + i) + j) <;> rfl
    · rfl
  have e1 : ∀ i f, m_po1 v i (wMK m f) = wMK m (fldN (fun j f => if gM_TH m (4 * v + i) = true then (match gM_FD m (2 * (4 * v + i) + j) with | none => f | some k => va_up f k.val true) else f) (va_up f (4 * v + i) (gM_TH m (4 * v + i))) 2) := by
    intro i f
    unfold m_po1
    exact fld_lift (wMK m) (e2 i) (va_up f (4 * v + i) (gM_TH m (4 * v + i))) 2
  refine ⟨fldN (fun i f => fldN (fun j f => if gM_TH m (4 * v + i) = true then (match gM_FD m (2 * (4 * v + i) + j) with | none => f | some k => va_up f k.val true) else f) (va_up f (4 * v + i) (gM_TH m (4 * v + i))) 2) (gM_MK m) 4, ?_, ?_⟩
  · unfold m_putOut
    have a1 := fld_lift (wMK m) e1 (gM_MK m) 4
    have a0 : wMK m (gM_MK m) = m := rfl
    rw [a0] at a1
    rw [a1]
  · have key : ∀ n, n ≤ 4 → ∀ q, fldN (fun i f => fldN (fun j f => if gM_TH m (4 * v + i) = true then (match gM_FD m (2 * (4 * v + i) + j) with | none => f | some k => va_up f k.val true) else f) (va_up f (4 * v + i) (gM_TH m (4 * v + i))) 2) (gM_MK m) n q = true ↔ gM_MK m q = true ∨ (q / 4 = v ∧ q % 4 < n ∧ gM_TH m q = true) ∨ ∃ (i : Nat) (k : Fin 32), i / 8 = v ∧ (i / 2) % 4 < n ∧ gM_TH m (i / 2) = true ∧ gM_FD m i = some k ∧ k.val = q := by
      intro n
      induction n with
      | zero =>
        intro _ q
        refine ⟨Or.inl, fun h => ?_⟩
        rcases h with h | ⟨_, h, _⟩ | ⟨i, k, _, h, _⟩
        · exact h
        · omega
        · omega
      | succ n ih =>
        intro hn q
        have ih := ih (by omega)
        generalize hf : fldN (fun i f => fldN (fun j f => if gM_TH m (4 * v + i) = true then (match gM_FD m (2 * (4 * v + i) + j) with | none => f | some k => va_up f k.val true) else f) (va_up f (4 * v + i) (gM_TH m (4 * v + i))) 2) (gM_MK m) n = f at ih
        show fldN (fun j f => if gM_TH m (4 * v + n) = true then (match gM_FD m (2 * (4 * v + n) + j) with | none => f | some k => va_up f k.val true) else f) (va_up (fldN (fun i f => fldN (fun j f => if gM_TH m (4 * v + i) = true then (match gM_FD m (2 * (4 * v + i) + j) with | none => f | some k => va_up f k.val true) else f) (va_up f (4 * v + i) (gM_TH m (4 * v + i))) 2) (gM_MK m) n) (4 * v + n) (gM_TH m (4 * v + n))) 2 q = true ↔ _
        rw [hf]
        have b := fld_bits (G := fun f : Nat → Bool => f) (F := fun j f => if gM_TH m (4 * v + n) = true then (match gM_FD m (2 * (4 * v + n) + j) with | none => f | some k => va_up f k.val true) else f) (c := fun j => if gM_TH m (4 * v + n) = true then (gM_FD m (2 * (4 * v + n) + j)).map (fun k => k.val) else none) (s := va_up f (4 * v + n) (gM_TH m (4 * v + n))) (fun j t _ _ => by
          try dsimp only
          split
          · cases gM_FD m (2 * (4 * v + n) + j) <;> rfl
          · rfl) 2 q
        rw [b]
        have tgt : (∃ j, j < 2 ∧ (if gM_TH m (4 * v + n) = true then (gM_FD m (2 * (4 * v + n) + j)).map (fun k => k.val) else none) = some q) ↔ ∃ (i : Nat) (k : Fin 32), i / 8 = v ∧ (i / 2) % 4 = n ∧ gM_TH m (i / 2) = true ∧ gM_FD m i = some k ∧ k.val = q := by
          constructor
          · rintro ⟨j, hj, hc⟩
            by_cases z : gM_TH m (4 * v + n) = true
            · rw [if_pos z] at hc
              cases hk : gM_FD m (2 * (4 * v + n) + j) with
              | none => rw [hk] at hc; cases hc
              | some k =>
                rw [hk] at hc
                refine ⟨2 * (4 * v + n) + j, k, by omega, by omega, ?_, hk, Option.some.inj hc⟩
                rw [show (2 * (4 * v + n) + j) / 2 = 4 * v + n by omega]; exact z
            · rw [if_neg z] at hc; cases hc
          · rintro ⟨i, k, a1, a2, a3, a4, a5⟩
            refine ⟨i % 2, by omega, ?_⟩
            have e3 : 4 * v + n = i / 2 := by omega
            have e4 : 2 * (i / 2) + i % 2 = i := by omega
            rw [e3, if_pos a3, e4, a4, ← a5]; rfl
        rw [tgt]
        constructor
        · rintro (h | ⟨i, k, a1, a2, a3, a4, a5⟩)
          · by_cases z : q = 4 * v + n
            · rw [z, up_s] at h
              exact Or.inr (Or.inl ⟨by omega, by omega, by rw [z]; exact h⟩)
            · have h : va_up f (4 * v + n) (gM_TH m (4 * v + n)) q = true := h
              rw [up_n z] at h
              rcases (ih q).mp h with y | ⟨y1, y2, y3⟩ | ⟨i, k, y1, y2, y3⟩
              · exact Or.inl y
              · exact Or.inr (Or.inl ⟨y1, by omega, y3⟩)
              · exact Or.inr (Or.inr ⟨i, k, y1, by omega, y3⟩)
          · exact Or.inr (Or.inr ⟨i, k, a1, by omega, a3, a4, a5⟩)
        · intro h
          have hth : q = 4 * v + n → gM_TH m q = true := by
            intro z
            rcases h with y | ⟨_, _, y⟩ | ⟨i, k, y1, y2, y3, y4, y5⟩
            · exact h3 q y
            · exact y
            · rw [← y5]; exact h2 i k y3 y4
          by_cases z : q = 4 * v + n
          · left
            show va_up f (4 * v + n) (gM_TH m (4 * v + n)) q = true
            rw [z, up_s, ← z]; exact hth z
          · rcases h with y | ⟨y1, y2, y3⟩ | ⟨i, k, y1, y2, y3, y4, y5⟩
            · left
              show va_up f (4 * v + n) (gM_TH m (4 * v + n)) q = true
              rw [up_n z]; exact (ih q).mpr (Or.inl y)
            · left
              show va_up f (4 * v + n) (gM_TH m (4 * v + n)) q = true
              rw [up_n z]; exact (ih q).mpr (Or.inr (Or.inl ⟨y1, by omega, y3⟩))
            · rcases Nat.lt_or_ge ((i / 2) % 4) n with x | x
              · left
                show va_up f (4 * v + n) (gM_TH m (4 * v + n)) q = true
                rw [up_n z]; exact (ih q).mpr (Or.inr (Or.inr ⟨i, k, y1, x, y3, y4, y5⟩))
              · right
                exact ⟨i, k, y1, by omega, y3, y4, y5⟩
    intro q
    rw [key 4 (Nat.le_refl 4) q]
    refine or_congr Iff.rfl (or_congr ⟨fun ⟨a, _, b⟩ => ⟨a, b⟩, fun ⟨a, b⟩ => ⟨a, by omega, b⟩⟩ ⟨fun ⟨i, k, a1, _, a3⟩ => ⟨i, k, a1, a3⟩, fun ⟨i, k, a1, a3⟩ => ⟨i, k, a1, by omega, a3⟩⟩)
theorem m_refers_congr {m m' : MS} (h1 : gM_TH m' = gM_TH m) (h2 : gM_FD m' = gM_FD m) (v w : Nat) : m_refers m' v w = m_refers m v w := by
  apply bool_iff
  rw [m_refers_iff, m_refers_iff, h1, h2]
/-- the count, where one page's state changes from not out to out -/
theorem m_counted_out {m m' : MS} (h1 : gM_TH m' = gM_TH m) (h2 : gM_FD m' = gM_FD m) {v : Nat} (hv : v < 8) (h3 : (gM_ST m v).val ≠ 2) (h4 : (gM_ST m' v).val = 2) (h5 : ∀ u, u ≠ v → gM_ST m' u = gM_ST m u) (w : Nat) : m_counted m' w = m_counted m w + (if m_refers m v w = true then 1 else 0) := by
  unfold m_counted
  by_cases q : m_refers m v w = true
  · rw [if_pos q]
    refine cntN_more hv ?_ ?_ (fun j hj => ?_)
    · unfold m_ctb; simp [h3]
    · unfold m_ctb; rw [m_refers_congr h1 h2, q]; simp [h4]
    · unfold m_ctb; rw [m_refers_congr h1 h2, h5 j hj]
  · rw [if_neg q]
    refine cntN_congr (fun j hj => ?_)
    unfold m_ctb
    rw [m_refers_congr h1 h2]
    by_cases z : j = v
    · subst z
      have q2 : m_refers m j w = false := by cases y : m_refers m j w with
        | false => rfl
        | true => exact absurd y q
      rw [q2]; simp
    · rw [h5 j z]
theorem m_refers_lt {m : MS} {v w : Nat} (h : m_refers m v w = true) : w < 8 := by
  obtain ⟨-, i, k, -, -, -, h1⟩ := (m_refers_iff m v w).mp h
  have := k.isLt
  omega
theorem Rel.putOut {h : HS} {m : MS} (R : Rel h m) (I : Inv m) {v : Nat} (hv : (gM_ST m v).val = 1) : Rel (h_putOut v h) (m_putOut v m) ∧ Inv (m_putOut v m) := by
  have RR := R
  obtain ⟨r1, r2, r3, r4, r5, r6, r7, r8, r9, r10, r11⟩ := R
  obtain ⟨j0, j0s, j1, j2, j3, j4, j5, j6, j6b, j7, j8⟩ := I
  have hv8 : v < 8 := j0s v (by omega)
  obtain ⟨f1, f2, eH, hf1, hf2⟩ := h_putOut_eq v h
  obtain ⟨f, eM, hf⟩ := m_putOut_eq v m j2 j3
  have hcnt : ∀ w, m_counted (uM_US (uM_ST (wMK m f) v ⟨2, by decide⟩) v false) w = m_counted m w + (if m_refers m v w = true then 1 else 0) := fun w => m_counted_out (m := m) (m' := uM_US (uM_ST (wMK m f) v ⟨2, by decide⟩) v false) rfl rfl hv8 (by omega) (by show (va_up (gM_ST m) v _ v).val = 2; rw [up_s]) (fun u hu => by show va_up (gM_ST m) v _ u = _; rw [up_n hu]) w
  have hST : ∀ u, u ≠ v → va_up (gM_ST m) v (⟨2, by decide⟩ : Fin 3) u = gM_ST m u := fun u hu => up_n hu
  rw [eH, eM]
  refine ⟨⟨r1, ?_, r3, ?_, ?_, r6, r7, r8, r9, fun w => ?_, r11⟩, j0, fun u hu => ?_, j1, j2, fun q hq => ?_, fun q hq => ?_, fun u hu => ?_, fun q hq hs => ?_, fun i k ht hs hk => ?_, fun q hq hs => ?_, j8⟩
  · show f1 = f
    funext q
    apply bool_iff
    rw [hf1, hf, r2, r1]
    refine or_congr Iff.rfl (or_congr Iff.rfl ⟨fun ⟨i, k, a1, a2, a3⟩ => ?_, fun ⟨i, k, a1, a2, a3, a4⟩ => ⟨i, k, a1, ?_, a4⟩⟩)
    · rw [r9 i] at a2
      by_cases z : gM_TH m (i / 2) = true
      · rw [if_pos z] at a2; exact ⟨i, k, a1, z, a2, a3⟩
      · rw [if_neg z] at a2; cases a2
    · rw [r9 i, if_pos a2]; exact a3
  · show va_up (gH_ST h) v _ = va_up (gM_ST m) v _
    rw [r4]
  · show va_up (gH_US h) v _ = va_up (gM_US m) v _
    rw [r5]
  · show f2 w = nI (m_counted _ w)
    rw [hcnt w, hf2 w, RR.refers v w, r10 w]
    by_cases z : m_refers m v w = true
    · rw [if_pos ⟨m_refers_lt z, z⟩, if_pos z, nI_add]
    · rw [if_neg (fun y => z y.2), if_neg z]; rfl
  · by_cases z : u = v
    · rw [z]; exact hv8
    · have hu : (va_up (gM_ST m) v (⟨2, by decide⟩ : Fin 3) u).val ≠ 0 := hu
      rw [up_n z] at hu
      exact j0s u hu
  · rcases (hf q).mp hq with y | ⟨_, y⟩ | ⟨i, k, _, y3, y4, y5⟩
    · exact j3 q y
    · exact y
    · show gM_TH m q = true
      rw [← y5]; exact j2 i k y3 y4
  · show (va_up (gM_ST m) v (⟨2, by decide⟩ : Fin 3) (q / 4)).val ≠ 0
    by_cases z : q / 4 = v
    · rw [z, up_s]; decide
    · rw [up_n z]; exact j4 q hq
  · have hu : va_up (gM_US m) v false u = true := hu
    show (va_up (gM_ST m) v (⟨2, by decide⟩ : Fin 3) u).val = 1
    by_cases z : u = v
    · rw [z, up_s] at hu; cases hu
    · rw [up_n z] at hu ⊢; exact j5 u hu
  · have hs : (va_up (gM_ST m) v (⟨2, by decide⟩ : Fin 3) (q / 4)).val = 2 := hs
    show f q = true
    by_cases z : q / 4 = v
    · exact (hf q).mpr (Or.inr (Or.inl ⟨z, hq⟩))
    · rw [up_n z] at hs
      exact (hf q).mpr (Or.inl (j6 q hq hs))
  · have hs : (va_up (gM_ST m) v (⟨2, by decide⟩ : Fin 3) (i / 8)).val = 2 := hs
    show f k.val = true
    by_cases z : i / 8 = v
    · exact (hf k.val).mpr (Or.inr (Or.inr ⟨i, k, z, ht, hk, rfl⟩))
    · rw [up_n z] at hs
      exact (hf k.val).mpr (Or.inl (j6b i k ht hs hk))
  · have hs : (va_up (gM_ST m) v (⟨2, by decide⟩ : Fin 3) (q / 4)).val = 1 := hs
    have z : q / 4 ≠ v := fun z => by rw [z, up_s] at hs; cases hs
    rw [up_n z] at hs
    rw [hcnt]
    rcases (hf q).mp hq with y | ⟨y, _⟩ | ⟨i, k, y1, y3, y4, y5⟩
    · have := j7 q y hs
      omega
    · exact absurd y z
    · have : m_refers m v (q / 4) = true := (m_refers_iff m v (q / 4)).mpr ⟨fun e => z e.symm, i, k, y1, y3, y4, by rw [y5]⟩
      rw [if_pos this]; omega
