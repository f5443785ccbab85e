/-! all pages come in: both sides -/
theorem MS_ext {a b : MS} (h1 : gM_TH a = gM_TH b) (h2 : gM_VA a = gM_VA b) (h3 : gM_FD a = gM_FD b) (h4 : gM_MK a = gM_MK b) (h5 : gM_KP a = gM_KP b) (h6 : gM_ST a = gM_ST b) (h7 : gM_US a = gM_US b) (h8 : gM_RG a = gM_RG b) (h9 : gM_BU a = gM_BU b) (h10 : gM_HA a = gM_HA b) (h11 : gM_FA a = gM_FA b) (h12 : gM_TR a = gM_TR b) : a = b :=
  Prod.ext h1 (Prod.ext h2 (Prod.ext h3 (Prod.ext h4 (Prod.ext h5 (Prod.ext h6 (Prod.ext h7 (Prod.ext h8 (Prod.ext h9 (Prod.ext h10 (Prod.ext h11 h12))))))))))
theorem Rel.fi {h : HS} {m : MS} (R : Rel h m) (I : Inv m) : Rel (h_fi h) (m_fi m) ∧ Inv (m_fi m) := by
  obtain ⟨r1, r2, r3, r4, r5, r6, r7, r8, r9, r10, r11⟩ := R
  refine ⟨⟨r1, r2, r3, r4, r5, r6, ?_, r8, r9, r10, r11⟩, I⟩
  show gH_FA h + nI 1 = gM_FA m + nI 1
  rw [r7]
def m_ba1 (v : Nat) (m : MS) : MS := if (gM_ST m v).val = 2 then m_bc v (m_fi m) else m
theorem Rel.ba {h : HS} {m : MS} (R : Rel h m) (I : Inv m) : ∀ n, Rel (fldN h_ba1 h n) (fldN m_ba1 m n) ∧ Inv (fldN m_ba1 m n)
  | 0 => ⟨R, I⟩
  | n + 1 => by
    obtain ⟨R1, I1⟩ := Rel.ba R I n
    show Rel (h_ba1 n (fldN h_ba1 h n)) (m_ba1 n (fldN m_ba1 m n)) ∧ Inv (m_ba1 n (fldN m_ba1 m n))
    generalize fldN h_ba1 h n = h' at R1 ⊢
    generalize fldN m_ba1 m n = m' at R1 I1 ⊢
    unfold h_ba1 m_ba1
    rw [R1.2.2.2.1]
    by_cases q : (gM_ST m' n).val = 2
    · rw [if_pos q, if_pos q]
      obtain ⟨R2, I2⟩ := R1.fi I1
      exact R2.bringIn I2 q
    · rw [if_neg q, if_neg q]; exact ⟨R1, I1⟩
theorem m_ba_al {m : MS} (I : ∀ n, Inv (fldN m_ba1 m n)) : ∀ n, gM_TH (fldN m_ba1 m n) = gM_TH (fldN m_al1 m n) ∧ gM_VA (fldN m_ba1 m n) = gM_VA (fldN m_al1 m n) ∧ gM_FD (fldN m_ba1 m n) = gM_FD (fldN m_al1 m n) ∧ gM_KP (fldN m_ba1 m n) = gM_KP (fldN m_al1 m n) ∧ gM_ST (fldN m_ba1 m n) = gM_ST (fldN m_al1 m n) ∧ gM_US (fldN m_ba1 m n) = gM_US (fldN m_al1 m n) ∧ gM_RG (fldN m_ba1 m n) = gM_RG (fldN m_al1 m n) ∧ gM_BU (fldN m_ba1 m n) = gM_BU (fldN m_al1 m n) ∧ gM_HA (fldN m_ba1 m n) = gM_HA (fldN m_al1 m n) ∧ gM_FA (fldN m_ba1 m n) = gM_FA (fldN m_al1 m n) ∧ gM_TR (fldN m_ba1 m n) = gM_TR (fldN m_al1 m n)
  | 0 => ⟨rfl, rfl, rfl, rfl, rfl, rfl, rfl, rfl, rfl, rfl, rfl⟩
  | n + 1 => by
    have ih := m_ba_al I n
    have In := I n
    show gM_TH (m_ba1 n (fldN m_ba1 m n)) = gM_TH (m_al1 n (fldN m_al1 m n)) ∧ gM_VA (m_ba1 n (fldN m_ba1 m n)) = gM_VA (m_al1 n (fldN m_al1 m n)) ∧ gM_FD (m_ba1 n (fldN m_ba1 m n)) = gM_FD (m_al1 n (fldN m_al1 m n)) ∧ gM_KP (m_ba1 n (fldN m_ba1 m n)) = gM_KP (m_al1 n (fldN m_al1 m n)) ∧ gM_ST (m_ba1 n (fldN m_ba1 m n)) = gM_ST (m_al1 n (fldN m_al1 m n)) ∧ gM_US (m_ba1 n (fldN m_ba1 m n)) = gM_US (m_al1 n (fldN m_al1 m n)) ∧ gM_RG (m_ba1 n (fldN m_ba1 m n)) = gM_RG (m_al1 n (fldN m_al1 m n)) ∧ gM_BU (m_ba1 n (fldN m_ba1 m n)) = gM_BU (m_al1 n (fldN m_al1 m n)) ∧ gM_HA (m_ba1 n (fldN m_ba1 m n)) = gM_HA (m_al1 n (fldN m_al1 m n)) ∧ gM_FA (m_ba1 n (fldN m_ba1 m n)) = gM_FA (m_al1 n (fldN m_al1 m n)) ∧ gM_TR (m_ba1 n (fldN m_ba1 m n)) = gM_TR (m_al1 n (fldN m_al1 m n))
    generalize fldN m_ba1 m n = a at ih In ⊢
    generalize fldN m_al1 m n = b at ih ⊢
    obtain ⟨a1, a2, a3, a5, a6, a7, a8, a9, a10, a11, a12⟩ := ih
    unfold m_ba1 m_al1
    rw [a6]
    by_cases q : (gM_ST b n).val = 2
    · rw [if_pos q, if_pos q, m_bc_eq]
      refine ⟨a1, a2, a3, a5, ?_, ?_, a8, a9, a10, ?_, a12⟩
      · show va_up (gM_ST a) n _ = va_up (gM_ST b) n _
        rw [a6]
      · show va_up (gM_US a) n false = gM_US b
        rw [← a7]
        funext j
        unfold va_up
        by_cases z : j = n
        · rw [if_pos z]
          cases y : gM_US a j with
          | false => rfl
          | true =>
            have := In.2.2.2.2.2.2.1 j y
            rw [z, a6] at this
            omega
        · rw [if_neg z]
      · show gM_FA a + nI 1 = gM_FA b + nI 1
        rw [a11]
    · rw [if_neg q, if_neg q]
      exact ⟨a1, a2, a3, a5, a6, a7, a8, a9, a10, a11, a12⟩
theorem m_ba_in (m : MS) : ∀ n u, u < n → (gM_ST (fldN m_ba1 m n) u).val ≠ 2
  | 0, u, hu => absurd hu (Nat.not_lt_zero u)
  | n + 1, u, hu => by
    have ih := m_ba_in m n
    show (gM_ST (m_ba1 n (fldN m_ba1 m n)) u).val ≠ 2
    generalize fldN m_ba1 m n = a at ih ⊢
    unfold m_ba1
    by_cases q : (gM_ST a n).val = 2
    · rw [if_pos q, m_bc_eq]
      show (va_up (gM_ST a) n (⟨1, by decide⟩ : Fin 3) u).val ≠ 2
      by_cases z : u = n
      · rw [z, up_s]; decide
      · rw [up_n z]; exact ih u (by omega)
    · rw [if_neg q]
      by_cases z : u = n
      · rw [z]; exact q
      · exact ih u (by omega)
theorem m_al2_fld (m : MS) : ∀ n, fldN m_al2 m n = wMK m (fun p => if p < n then false else gM_MK m p)
  | 0 => by
    have e : (fun p => if p < 0 then false else gM_MK m p) = gM_MK m := by
      funext p; rw [if_neg (by omega)]
    rw [e]; rfl
  | n + 1 => by
    show m_al2 n (fldN m_al2 m n) = _
    rw [m_al2_fld m n]
    show wMK m (va_up (fun p => if p < n then false else gM_MK m p) n false) = _
    congr 1
    funext p
    unfold va_up
    by_cases z : p = n
    · rw [if_pos z, if_pos (show p < n + 1 by omega)]
    · rw [if_neg z]
      show (if p < n then false else gM_MK m p) = _
      by_cases y : p < n
      · rw [if_pos y, if_pos (show p < n + 1 by omega)]
      · rw [if_neg y, if_neg (show ¬ p < n + 1 by omega)]
theorem m_al1_mk (m : MS) : ∀ n, gM_MK (fldN m_al1 m n) = gM_MK m := fun n => fldN_keep gM_MK (fun i s => by
  unfold m_al1
  split <;> rfl) m n
theorem m_all0_gen {a b m : MS} (e : gM_TH a = gM_TH b ∧ gM_VA a = gM_VA b ∧ gM_FD a = gM_FD b ∧ gM_KP a = gM_KP b ∧ gM_ST a = gM_ST b ∧ gM_US a = gM_US b ∧ gM_RG a = gM_RG b ∧ gM_BU a = gM_BU b ∧ gM_HA a = gM_HA b ∧ gM_FA a = gM_FA b ∧ gM_TR a = gM_TR b) (hin : ∀ u, u < 8 → (gM_ST a u).val ≠ 2) (J8 : Inv a) (hm : gM_MK b = gM_MK m) (I : Inv m) : wMK b (fun p => if p < 32 then false else gM_MK b p) = a := by
  obtain ⟨a1, a2, a3, a5, a6, a7, a8, a9, a10, a11, a12⟩ := e
  refine MS_ext a1.symm a2.symm a3.symm ?_ a5.symm a6.symm a7.symm a8.symm a9.symm a10.symm a11.symm a12.symm
  obtain ⟨j0, j0s, j1, j2, j3, j4, j5, j6, j6b, j7, j8⟩ := J8
  have no2 : ∀ u, (gM_ST a u).val ≠ 2 := by
    intro u
    rcases Nat.lt_or_ge u 8 with z | z
    · exact hin u z
    · intro y
      have := j0s u (by omega)
      omega
  have c0 : ∀ w, m_counted a w = 0 := fun w => cntN_zero.mpr (fun j _ => by
    unfold m_ctb
    rw [decide_eq_false (no2 j)]; rfl)
  funext p
  show (if p < 32 then false else gM_MK b p) = gM_MK a p
  have e1 : gM_MK a p = false := by
    cases y : gM_MK a p with
    | false => rfl
    | true =>
      have t := j3 p y
      have s0 := j4 p t
      have s2 := no2 (p / 4)
      have hl := (gM_ST a (p / 4)).isLt
      exact absurd (c0 (p / 4)) (j7 p y (by omega))
  rw [e1, hm]
  by_cases z : p < 32
  · rw [if_pos z]
  · rw [if_neg z]
    cases y : gM_MK m p with
    | false => rfl
    | true =>
      have := I.1 p (I.2.2.2.2.1 p y)
      omega
theorem m_all0_eq {h : HS} {m : MS} (R : Rel h m) (I : Inv m) : m_all0 m = fldN m_ba1 m 8 := by
  unfold m_all0
  rw [m_al2_fld]
  exact m_all0_gen (m_ba_al (fun n => (Rel.ba R I n).2) 8) (m_ba_in m 8) (Rel.ba R I 8).2 (m_al1_mk m 8) I
theorem Rel.all {h : HS} {m : MS} (R : Rel h m) (I : Inv m) : Rel (h_bringAll h) (m_all0 m) ∧ Inv (m_all0 m) := by
  rw [m_all0_eq R I]
  exact Rel.ba R I 8
