/-! numbers of the reference's public methods -/
theorem m_reg_nI {r : Nat} (h : r < 4) : m_reg (nI r) = true := by
  rcases (show r = 0 ∨ r = 1 ∨ r = 2 ∨ r = 3 by omega) with rfl | rfl | rfl | rfl <;> decide
def m_bud (n : Int32) : Bool := !(decide (n < nI 2)) && decide (n ≤ nI 8)
def jI (n : Nat) : Int32 := nI n + Int32.ofInt (-1)
theorem jI_s (n : Nat) : jI (n + 1) = nI n := pk_m1 n
theorem jI_eq {i : Nat} (h : i < 4) : jI (4 - i) = nI (3 - i) := by
  rw [show 4 - i = (3 - i) + 1 by omega]; exact jI_s _
theorem jI_lt {i : Nat} (h : ¬ jI (4 - i) < 0) (hi : i ≤ 4) : i < 4 := by
  rcases Nat.lt_or_ge i 4 with q | q
  · exact q
  · exfalso
    apply h
    rw [show 4 - i = 0 by omega]
    decide
theorem jI_ge {i : Nat} (h : jI (4 - i) < 0) (hi : i ≤ 4) : i = 4 := by
  rcases Nat.lt_or_ge i 4 with q | q
  · exfalso
    rw [jI_eq q] at h
    exact nI_pos (by omega) h
  · omega
