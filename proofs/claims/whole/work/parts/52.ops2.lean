/-! the other calls: both sides -/
theorem OKs.held {h : HS} {m : MS} (o : OKs h m) {r : Nat} {k : Fin 32} (e : gM_RG m r = some k) : gM_TH m k.val = true ∧ (gM_ST m (k.val / 4)).val ≠ 0 := by
  obtain ⟨R, I, hin⟩ := o
  have t := (I.2.2.1 r k e).2
  exact ⟨t, I.2.2.2.2.2.1 _ t⟩
theorem of_FD (s : MS) (i : Nat) (x : Option (Fin 32)) : m_in (uM_FD s i x) = m_in s ∧ gM_BU (uM_FD s i x) = gM_BU s ∧ gM_TR (uM_FD s i x) = gM_TR s ∧ gM_FA (uM_FD s i x) = gM_FA s := ⟨rfl, rfl, rfl, rfl⟩
theorem OKs.touch {h : HS} {m : MS} (o : OKs h m) {r : Nat} {k : Fin 32} (e : gM_RG m r = some k) : m_tok (k.val / 4) m ∧ OKs (h_touch (k.val / 4) h) (m_touch (k.val / 4) m) ∧ (gM_TH (m_touch (k.val / 4) m) = gM_TH m ∧ gM_VA (m_touch (k.val / 4) m) = gM_VA m ∧ gM_FD (m_touch (k.val / 4) m) = gM_FD m ∧ gM_RG (m_touch (k.val / 4) m) = gM_RG m ∧ gM_BU (m_touch (k.val / 4) m) = gM_BU m ∧ gM_TR (m_touch (k.val / 4) m) = gM_TR m) ∧ (gM_ST (m_touch (k.val / 4) m) (k.val / 4)).val = 1 := by
  obtain ⟨t, s0⟩ := o.held e
  obtain ⟨R, I, hin⟩ := o
  obtain ⟨⟨R1, I1⟩, b1, k1, st1, tok⟩ := R.touch I hin s0
  exact ⟨tok, ⟨R1, I1, by rw [k1.2.2.2.2.1]; exact b1⟩, k1, st1⟩
theorem OKs.store {h : HS} {m : MS} (o : OKs h m) {r q f : Nat} {k : Fin 32} (e : gM_RG m r = some k) (hf : f < 2) : OKs (uH_FD (h_touch (k.val / 4) h) (2 * k.val + f) (gH_RG (h_touch (k.val / 4) h) q)) (uM_FD (m_touch (k.val / 4) m) (2 * k.val + f) (gM_RG (m_touch (k.val / 4) m) q)) ∧ gM_TR (uM_FD (m_touch (k.val / 4) m) (2 * k.val + f) (gM_RG (m_touch (k.val / 4) m) q)) = gM_TR m ∧ gH_FA (h_touch (k.val / 4) h) = gM_FA (m_touch (k.val / 4) m) := by
  obtain ⟨t, s0⟩ := o.held e
  obtain ⟨-, ⟨R1, I1, b1⟩, k1, st1⟩ := o.touch e
  have er : gH_RG (h_touch (k.val / 4) h) q = gM_RG (m_touch (k.val / 4) m) q := by rw [R1.2.2.1]
  rw [er]
  obtain ⟨R2, I2⟩ := R1.setFD I1 (q := k.val) (f := f) (by rw [k1.1]; exact t) st1 hf (gM_RG (m_touch (k.val / 4) m) q) (fun z hz => (I1.2.2.1 q z hz).2)
  obtain ⟨o1, o2, o3, o4⟩ := of_FD (m_touch (k.val / 4) m) (2 * k.val + f) (gM_RG (m_touch (k.val / 4) m) q)
  exact ⟨⟨R2, I2, by rw [o1, o2]; exact b1⟩, o3.trans k1.2.2.2.2.2, R1.2.2.2.2.2.2.1⟩
theorem OKs.load {h : HS} {m : MS} (o : OKs h m) {d r f : Nat} {k : Fin 32} (hd : d < 4) (e : gM_RG m r = some k) (hf : f < 2) : OKs (uH_RG (h_touch (k.val / 4) h) d (gH_FD (h_touch (k.val / 4) h) (2 * k.val + f))) (uM_RG (m_touch (k.val / 4) m) d (gM_FD (m_touch (k.val / 4) m) (2 * k.val + f))) ∧ gM_TR (uM_RG (m_touch (k.val / 4) m) d (gM_FD (m_touch (k.val / 4) m) (2 * k.val + f))) = gM_TR m ∧ gH_FA (h_touch (k.val / 4) h) = gM_FA (m_touch (k.val / 4) m) := by
  obtain ⟨t, s0⟩ := o.held e
  obtain ⟨-, ⟨R1, I1, b1⟩, k1, st1⟩ := o.touch e
  have tk : gM_TH (m_touch (k.val / 4) m) k.val = true := by rw [k1.1]; exact t
  have e2 : (2 * k.val + f) / 2 = k.val := by omega
  have er : gH_FD (h_touch (k.val / 4) h) (2 * k.val + f) = gM_FD (m_touch (k.val / 4) m) (2 * k.val + f) := by
    rw [R1.2.2.2.2.2.2.2.2.1, e2, if_pos tk]
  rw [er]
  obtain ⟨R2, I2⟩ := R1.setRG I1 hd (gM_FD (m_touch (k.val / 4) m) (2 * k.val + f)) (fun z hz => I1.2.2.2.1 _ z (by rw [e2]; exact tk) hz)
  obtain ⟨o1, o2, o3⟩ := of_RG (m_touch (k.val / 4) m) d (gM_FD (m_touch (k.val / 4) m) (2 * k.val + f))
  exact ⟨⟨R2, I2, by rw [o1, o2]; exact b1⟩, o3.trans k1.2.2.2.2.2, R1.2.2.2.2.2.2.1⟩
theorem OKs.value {h : HS} {m : MS} (o : OKs h m) {r : Nat} {k : Fin 32} (e : gM_RG m r = some k) : OKs (h_touch (k.val / 4) h) (m_touch (k.val / 4) m) ∧ gM_TR (m_touch (k.val / 4) m) = gM_TR m ∧ gH_VA (h_touch (k.val / 4) h) k.val = gM_VA (m_touch (k.val / 4) m) k.val := by
  obtain ⟨t, s0⟩ := o.held e
  obtain ⟨-, ⟨R1, I1, b1⟩, k1, st1⟩ := o.touch e
  exact ⟨⟨R1, I1, b1⟩, k1.2.2.2.2.2, R1.2.2.2.2.2.2.2.2.2.2.1 _ (by rw [k1.1]; exact t)⟩
theorem OKs.copy {h : HS} {m : MS} (o : OKs h m) {d r : Nat} (hd : d < 4) : OKs (uH_RG h d (gH_RG h r)) (uM_RG m d (gM_RG m r)) ∧ gM_TR (uM_RG m d (gM_RG m r)) = gM_TR m ∧ gH_RG h = gM_RG m := by
  obtain ⟨R, I, hin⟩ := o
  have er : gH_RG h r = gM_RG m r := by rw [R.2.2.1]
  rw [er]
  obtain ⟨R2, I2⟩ := R.setRG I hd (gM_RG m r) (fun z hz => (I.2.2.1 r z hz).2)
  exact ⟨⟨R2, I2, hin⟩, rfl, R.2.2.1⟩
theorem OKs.drop {h : HS} {m : MS} (o : OKs h m) {r : Nat} (hr : r < 4) : OKs (uH_RG h r none) (uM_RG m r none) ∧ gH_RG h = gM_RG m := by
  obtain ⟨R, I, hin⟩ := o
  obtain ⟨R2, I2⟩ := R.setRG I hr none (fun z hz => by cases hz)
  exact ⟨⟨R2, I2, hin⟩, R.2.2.1⟩
theorem OKs.budget {h : HS} {m : MS} (o : OKs h m) (n : Fin 9) (hn : 2 ≤ n.val) : m_shr (-1) (uM_BU m n) ∧ OKs (h_beyond (-1) (uH_BU h n)) (m_shrink (-1) (uM_BU m n)) ∧ gM_TR (m_shrink (-1) (uM_BU m n)) = gM_TR m ∧ h_byn (uH_BU h n) = m_byn (uM_BU m n) := by
  obtain ⟨R, I, hin⟩ := o
  obtain ⟨R1, I1⟩ := R.setBU I n hn
  obtain ⟨⟨R2, I2⟩, b2, k2, e2⟩ := R1.beyond (-1) I1
  exact ⟨R1.shr _ I1, ⟨R2, I2, by rw [k2.2.2.2.2.1]; exact b2⟩, k2.2.2.2.2.2.2, e2⟩
theorem OKs.collect {h : HS} {m : MS} (o : OKs h m) : OKs (h_collect h) (m_within m) ∧ gM_TR (m_within m) = gM_TR m ∧ h_gone h = m_gone m := by
  obtain ⟨R, I, hin⟩ := o
  obtain ⟨⟨R1, I1⟩, e, b, bu, tr⟩ := R.collect I
  exact ⟨⟨R1, I1, by rw [bu]; omega⟩, tr, e⟩
theorem OKs.thorough {h : HS} {m : MS} (o : OKs h m) : m_shr (-1) (m_all m) ∧ OKs (h_beyond (-1) (h_collect (h_bringAll h))) (m_shrink (-1) (m_all m)) ∧ gM_TR (m_shrink (-1) (m_all m)) = gM_TR m ∧ h_gone (h_bringAll h) = m_gone (m_all0 m) := by
  obtain ⟨R, I, hin⟩ := o
  obtain ⟨⟨R1, I1⟩, e, bu, tr⟩ := R.thor I
  obtain ⟨⟨R2, I2⟩, b2, k2, -⟩ := R1.beyond (-1) I1
  exact ⟨R1.shr _ I1, ⟨R2, I2, by rw [k2.2.2.2.2.1]; exact b2⟩, k2.2.2.2.2.2.2.trans tr, e⟩
theorem OKs.reads {h : HS} {m : MS} (o : OKs h m) : gH_FA h = gM_FA m ∧ h_objects h = m_objects m ∧ (∀ q, h_page h q = m_page m q) ∧ (∀ q, h_count h q = m_count m q) ∧ gH_HA h = gM_HA m := by
  obtain ⟨R, I, hin⟩ := o
  obtain ⟨r1, r2, r3, r4, r5, r6, r7, r8, r9, r10, r11⟩ := R
  refine ⟨r7, ?_, fun q => ?_, fun q => ?_, r8⟩
  · unfold h_objects m_objects
    rw [r1]
  · unfold h_page m_page
    rw [r4, r5]
  · unfold h_count m_count
    rw [r10]
def plA (k : Nat) (a x : Bool) (n : Nat) : Nat := (n + (if a = true then 1 * 2 ^ k else 0)) + (if x = true then 16 * 2 ^ k else 0)
def plB (a : Bool) (n : Nat) : Nat := 2 * n + (if a = true then 1 else 0)
def plC (k : Nat) (a x : Bool) (n : Nat) : Nat := if a = true ∧ x = true then n + 16 * 2 ^ k else n
theorem pl_sum : ∀ (a b c d x y z w : Bool), (x = true → a = true) → (y = true → b = true) → (z = true → c = true) → (w = true → d = true) → plA 3 d w (plA 2 c z (plA 1 b y (plA 0 a x 0))) = plC 3 d w (plC 2 c z (plC 1 b y (plC 0 a x (plB a (plB b (plB c (plB d 0))))))) := by decide +kernel
theorem OKs.places {h : HS} {m : MS} (o : OKs h m) (q : Int32) : h_places h q = m_places m q := by
  obtain ⟨R, I, hin⟩ := o
  unfold h_places m_places
  have e : fldN (h_pl1 h q.toNatClampNeg) 0 4 = fldN (m_pl1 m q.toNatClampNeg) (fldN (m_pl0 m q.toNatClampNeg) 0 4) 4 := by
    generalize q.toNatClampNeg = v
    have a1 : fldN (h_pl1 h v) 0 4 = plA 3 (gH_TK h (4 * v + 3)) (gH_BM h (4 * v + 3)) (plA 2 (gH_TK h (4 * v + 2)) (gH_BM h (4 * v + 2)) (plA 1 (gH_TK h (4 * v + 1)) (gH_BM h (4 * v + 1)) (plA 0 (gH_TK h (4 * v + 0)) (gH_BM h (4 * v + 0)) 0))) := rfl
    have a2 : fldN (m_pl1 m v) (fldN (m_pl0 m v) 0 4) 4 = plC 3 (gM_TH m (4 * v + 3)) (gM_MK m (4 * v + 3)) (plC 2 (gM_TH m (4 * v + 2)) (gM_MK m (4 * v + 2)) (plC 1 (gM_TH m (4 * v + 1)) (gM_MK m (4 * v + 1)) (plC 0 (gM_TH m (4 * v + 0)) (gM_MK m (4 * v + 0)) (plB (gM_TH m (4 * v + 0)) (plB (gM_TH m (4 * v + 1)) (plB (gM_TH m (4 * v + 2)) (plB (gM_TH m (4 * v + 3)) 0))))))) := rfl
    have j3 := I.2.2.2.2.1
    rw [a1, a2, R.1, R.2.1]
    exact pl_sum _ _ _ _ _ _ _ _ (j3 _) (j3 _) (j3 _) (j3 _)
  rw [e]
