/-! what one turn of the law does: both sides answer alike, and stay alike -/
def rLh : Room := { frames := 8, cells := 1, slots := 6, locals := 160 }
def Op7 (l : Launch) (g : GG) (a : Nat → Nat) (ao : Nat) (bm : Nat → Nat) (yl : MethodName) (kl : List Cond) (ym : MethodName) (km : List Cond) (rm : Room) (av : List Value) (h : HS) (z : Nat → Int64) (m : MS) : Prop :=
  ∃ (kk : Int32) (h' : HS) (z' : Nat → Int64) (bv : Int32) (m' : MS), LC l g a ao yl kl rLh (.ref (a 0) :: av ++ [.ref ao]) (h, z) kk (h', z') ∧ Ci l g (wldM g bm) (adM bm) ym km rm (.ref (bm 0) :: av) m bv m' ∧ gM_TR m' = kk ∧ (kk = 0 → z' 0 = bv.toInt64) ∧ OKs h' m'
def Op5 (l : Launch) (g : GG) (a : Nat → Nat) (ao : Nat) (bm : Nat → Nat) (yl : MethodName) (kl : List Cond) (ym : MethodName) (km : List Cond) (rm : Room) (av : List Value) (h : HS) (z : Nat → Int64) (m : MS) : Prop :=
  ∃ (kk : Int32) (h' : HS) (z' : Nat → Int64) (bv : Bool) (m' : MS), LC l g a ao yl kl rLh (.ref (a 0) :: av ++ [.ref ao]) (h, z) kk (h', z') ∧ Ci l g (wldM g bm) (adM bm) ym km rm (.ref (bm 0) :: av) m (bI bv) m' ∧ gM_TR m' = kk ∧ (kk = 0 → z' 0 = if bv then 1 else 0) ∧ OKs h' m'
def Op2 (l : Launch) (g : GG) (a : Nat → Nat) (bm : Nat → Nat) (yh : MethodName) (kh : List Cond) (rh : Room) (ym : MethodName) (km : List Cond) (rm : Room) (av : List Value) (h : HS) (m : MS) : Prop :=
  ∃ (r : Int32) (h' : HS) (m' : MS), Ci l g (wldH g a) (adH a) yh kh rh (.ref (a 0) :: av) h r h' ∧ Ci l g (wldM g bm) (adM bm) ym km rm (.ref (bm 0) :: av) m r m' ∧ OKs h' m'
theorem m_bud_of {q : Int32} (h : m_bud q = true) : ∃ n : Fin 9, 2 ≤ n.val ∧ q = nI n.val := by
  unfold m_bud at h
  rw [Bool.and_eq_true, Bool.not_eq_true', decide_eq_false_iff_not, decide_eq_true_iff] at h
  obtain ⟨h1, h2⟩ := h
  have e2 : (nI 2).toInt = 2 := by decide
  have e8 : (nI 8).toInt = 8 := by decide
  rw [Int32.lt_iff_toInt_lt, e2] at h1
  rw [Int32.le_iff_toInt_le, e8] at h2
  obtain ⟨j, hj, rfl⟩ := vp_in_of (x := q) (n := 9) (vp_in_iff.mpr ⟨by omega, by omega⟩) (by decide)
  have e3 : (nI j).toInt = j := by
    have : ∀ j : Fin 9, (nI j.val).toInt = j.val := by decide
    exact this ⟨j, hj⟩
  exact ⟨⟨j, hj⟩, by show 2 ≤ j; omega, rfl⟩
section OPS
variable {l : Launch} {g : GG} {a : Nat → Nat} {ao : Nat} {bm : Nat → Nat} {h : HS} {z : Nat → Int64} {m : MS}
theorem op_make (hl0 : l.stackTraces = false) (ha : apO a ao) (hb : apM bm) (o : OKs h m) (p0 p1 : Int32) : Op7 l g a ao bm yL_make kL_make yM_make kM_make { frames := 3, cells := 0, slots := 0, locals := 69 } [.int p0, .int p1] h z m := by
  have o0 : OKs h (m_t0 m) := o.t0 (nI 0)
  cases e0 : m_reg p0 with
  | false => exact ⟨1, h, z, nI 0, _, tL_make_1 ha (tH_make_bad l hl0 g a ha.1 h p0 p1 e0) ⟨rfl, rfl⟩ ⟨by decide, by decide⟩, tM_make_bad l g bm hb m p0 p1 e0, rfl, fun q => absurd q (by decide), o0.t0 _⟩
  | true =>
    obtain ⟨r, hr, rfl⟩ := m_reg_of e0
    obtain ⟨hok, o1, h1, h2⟩ := o0.make hr p1
    cases ep : h_nwp h with
    | some k => exact ⟨0, _, _, _, _, tL_make_ok ha (tH_make_ok l g a ha.1 h r p1 k hr ep) ⟨rfl, rfl⟩ ⟨by decide, by decide⟩, tM_make_ok l g bm hb m r p1 hr hok, (h1 k ep).2, fun _ => by rw [(h1 k ep).1]; rfl, o1⟩
    | none => exact ⟨2, _, z, _, _, tL_make_2 ha (tH_make_full l hl0 g a ha.1 h r p1 hr ep) ⟨rfl, rfl⟩ ⟨by decide, by decide⟩, tM_make_ok l g bm hb m r p1 hr hok, h2 ep, fun q => absurd q (by decide), o1⟩
theorem op_store (hl0 : l.stackTraces = false) (ha : apO a ao) (hb : apM bm) (o : OKs h m) (p0 p1 p2 : Int32) : Op7 l g a ao bm yL_store kL_store yM_store kM_store { frames := 4, cells := 0, slots := 0, locals := 92 } [.int p0, .int p1, .int p2] h z m := by
  have o0 : OKs h (m_t0 m) := o.t0 (nI 0)
  have eR : gH_RG h = gM_RG (m_t0 m) := (o0.copy (r := 0) (show (0 : Nat) < 4 by decide)).2.2
  cases e0 : m_reg p0 with
  | false => exact ⟨1, h, z, nI 0, _, tL_store_1 ha (tH_store_r l hl0 g a ha.1 h p0 p1 p2 e0) ⟨rfl, rfl⟩ ⟨by decide, by decide⟩, tM_store_bad l g bm hb m p0 p1 p2 (by rw [e0]; rfl), rfl, fun q => absurd q (by decide), o0.t0 _⟩
  | true =>
    obtain ⟨r, hr, er⟩ := m_reg_of e0
    cases e1 : m_fld p1 with
    | false => subst er; exact ⟨1, h, z, nI 0, _, tL_store_1 ha (tH_store_f l hl0 g a ha.1 h r p1 p2 hr e1) ⟨rfl, rfl⟩ ⟨by decide, by decide⟩, tM_store_bad l g bm hb m (nI r) p1 p2 (by rw [e0, e1]; rfl), rfl, fun q => absurd q (by decide), o0.t0 _⟩
    | true =>
      obtain ⟨f, hf, ef⟩ := m_fld_of e1
      cases e2 : m_reg p2 with
      | false => subst er; subst ef; exact ⟨1, h, z, nI 0, _, tL_store_1 ha (tH_store_q l hl0 g a ha.1 h r f p2 hr hf e2) ⟨rfl, rfl⟩ ⟨by decide, by decide⟩, tM_store_bad l g bm hb m (nI r) (nI f) p2 (by rw [e0, e1, e2]; rfl), rfl, fun q => absurd q (by decide), o0.t0 _⟩
      | true =>
        obtain ⟨q, hq, eq⟩ := m_reg_of e2
        subst er; subst ef; subst eq
        cases ek : gM_RG (m_t0 m) r with
        | none => exact ⟨2, h, z, nI 0, _, tL_store_2 ha (tH_store_n l hl0 g a ha.1 h r f q hr hf hq ((congrFun eR r).trans ek)) ⟨rfl, rfl⟩ ⟨by decide, by decide⟩, tM_store_none l g bm hb m r f q hr hf hq ek, rfl, fun q => absurd q (by decide), o0.t0 _⟩
        | some k =>
          obtain ⟨o1, t1, f1⟩ := o0.store (q := q) ek hf
          exact ⟨0, _, _, _, _, tL_store_ok ha (tH_store_ok l g a ha.1 h r f q k hr hf hq ((congrFun eR r).trans ek)) ⟨rfl, rfl⟩ ⟨by decide, by decide⟩, tM_store_ok l g bm hb m r f q k hr hf hq ek (o0.touch ek).1, t1, fun _ => by rw [← f1]; rfl, o1⟩
theorem op_load (hl0 : l.stackTraces = false) (ha : apO a ao) (hb : apM bm) (o : OKs h m) (p0 p1 p2 : Int32) : Op7 l g a ao bm yL_load kL_load yM_load kM_load { frames := 4, cells := 0, slots := 0, locals := 92 } [.int p0, .int p1, .int p2] h z m := by
  have o0 : OKs h (m_t0 m) := o.t0 (nI 0)
  have eR : gH_RG h = gM_RG (m_t0 m) := (o0.copy (r := 0) (show (0 : Nat) < 4 by decide)).2.2
  cases e0 : m_reg p0 with
  | false => exact ⟨1, h, z, nI 0, _, tL_load_1 ha (tH_load_d l hl0 g a ha.1 h p0 p1 p2 e0) ⟨rfl, rfl⟩ ⟨by decide, by decide⟩, tM_load_bad l g bm hb m p0 p1 p2 (by rw [e0]; rfl), rfl, fun q => absurd q (by decide), o0.t0 _⟩
  | true =>
    obtain ⟨d, hd, ed⟩ := m_reg_of e0
    cases e1 : m_reg p1 with
    | false => subst ed; exact ⟨1, h, z, nI 0, _, tL_load_1 ha (tH_load_r l hl0 g a ha.1 h d p1 p2 hd e1) ⟨rfl, rfl⟩ ⟨by decide, by decide⟩, tM_load_bad l g bm hb m (nI d) p1 p2 (by rw [e0, e1]; rfl), rfl, fun q => absurd q (by decide), o0.t0 _⟩
    | true =>
      obtain ⟨r, hr, er⟩ := m_reg_of e1
      cases e2 : m_fld p2 with
      | false => subst ed; subst er; exact ⟨1, h, z, nI 0, _, tL_load_1 ha (tH_load_f l hl0 g a ha.1 h d r p2 hd hr e2) ⟨rfl, rfl⟩ ⟨by decide, by decide⟩, tM_load_bad l g bm hb m (nI d) (nI r) p2 (by rw [e0, e1, e2]; rfl), rfl, fun q => absurd q (by decide), o0.t0 _⟩
      | true =>
        obtain ⟨f, hf, ef⟩ := m_fld_of e2
        subst ed; subst er; subst ef
        cases ek : gM_RG (m_t0 m) r with
        | none => exact ⟨2, h, z, nI 0, _, tL_load_2 ha (tH_load_n l hl0 g a ha.1 h d r f hd hr hf ((congrFun eR r).trans ek)) ⟨rfl, rfl⟩ ⟨by decide, by decide⟩, tM_load_none l g bm hb m d r f hd hr hf ek, rfl, fun q => absurd q (by decide), o0.t0 _⟩
        | some k =>
          obtain ⟨o1, t1, f1⟩ := o0.load hd ek hf
          exact ⟨0, _, _, _, _, tL_load_ok ha (tH_load_ok l g a ha.1 h d r f k hd hr hf ((congrFun eR r).trans ek)) ⟨rfl, rfl⟩ ⟨by decide, by decide⟩, tM_load_ok l g bm hb m d r f k hd hr hf ek (o0.touch ek).1, t1, fun _ => by rw [← f1]; rfl, o1⟩
theorem op_value (hl0 : l.stackTraces = false) (ha : apO a ao) (hb : apM bm) (o : OKs h m) (p0 : Int32) : Op7 l g a ao bm yL_value kL_value yM_value kM_value { frames := 4, cells := 0, slots := 0, locals := 92 } [.int p0] h z m := by
  have o0 : OKs h (m_t0 m) := o.t0 (nI 0)
  have eR : gH_RG h = gM_RG (m_t0 m) := (o0.copy (r := 0) (show (0 : Nat) < 4 by decide)).2.2
  cases e0 : m_reg p0 with
  | false => exact ⟨1, h, z, nI 0, _, tL_value_1 ha (tH_value_r l hl0 g a ha.1 h p0 e0) ⟨rfl, rfl⟩ ⟨by decide, by decide⟩, tM_value_bad l g bm hb m p0 e0, rfl, fun q => absurd q (by decide), o0.t0 _⟩
  | true =>
    obtain ⟨r, hr, rfl⟩ := m_reg_of e0
    cases ek : gM_RG (m_t0 m) r with
    | none => exact ⟨2, h, z, nI 0, _, tL_value_2 ha (tH_value_n l hl0 g a ha.1 h r hr ((congrFun eR r).trans ek)) ⟨rfl, rfl⟩ ⟨by decide, by decide⟩, tM_value_none l g bm hb m r hr ek, rfl, fun q => absurd q (by decide), o0.t0 _⟩
    | some k =>
      obtain ⟨o1, t1, f1⟩ := o0.value ek
      exact ⟨0, _, _, _, _, tL_value_ok ha (tH_value_ok l g a ha.1 h r k hr ((congrFun eR r).trans ek)) ⟨rfl, rfl⟩ ⟨by decide, by decide⟩, tM_value_ok l g bm hb m r k hr ek (o0.touch ek).1, t1, fun _ => by rw [← f1]; rfl, o1⟩
theorem op_copy (hl0 : l.stackTraces = false) (ha : apO a ao) (hb : apM bm) (o : OKs h m) (p0 p1 : Int32) : Op7 l g a ao bm yL_copy kL_copy yM_copy kM_copy { frames := 1, cells := 0, slots := 0, locals := 21 } [.int p0, .int p1] h z m := by
  have o0 : OKs h (m_t0 m) := o.t0 (nI 0)
  cases e0 : m_reg p0 with
  | false => exact ⟨1, h, z, nI 0, _, tL_copy_1 ha (tH_copy_d l hl0 g a ha.1 h p0 p1 e0) ⟨rfl, rfl⟩ ⟨by decide, by decide⟩, tM_copy_bad l g bm hb m p0 p1 (by rw [e0]; rfl), rfl, fun q => absurd q (by decide), o0.t0 _⟩
  | true =>
    obtain ⟨d, hd, ed⟩ := m_reg_of e0
    cases e1 : m_reg p1 with
    | false => subst ed; exact ⟨1, h, z, nI 0, _, tL_copy_1 ha (tH_copy_r l hl0 g a ha.1 h d p1 hd e1) ⟨rfl, rfl⟩ ⟨by decide, by decide⟩, tM_copy_bad l g bm hb m (nI d) p1 (by rw [e0, e1]; rfl), rfl, fun q => absurd q (by decide), o0.t0 _⟩
    | true =>
      obtain ⟨r, hr, er⟩ := m_reg_of e1
      subst ed; subst er
      obtain ⟨o1, t1, f1⟩ := o0.copy (r := r) hd
      exact ⟨0, _, _, _, _, tL_copy_ok ha (tH_copy_ok l g a ha.1 h d r hd hr) ⟨rfl, rfl⟩ ⟨by decide, by decide⟩, tM_copy_ok l g bm hb m d r hd hr, t1, fun _ => by rw [← f1]; rfl, o1⟩
theorem op_drop (hl0 : l.stackTraces = false) (ha : apO a ao) (hb : apM bm) (o : OKs h m) (p0 : Int32) : Op5 l g a ao bm yL_drop kL_drop yM_drop kM_drop { frames := 1, cells := 0, slots := 0, locals := 20 } [.int p0] h z m := by
  have o0 : OKs h (m_t0 m) := o.t0 (nI 0)
  cases e0 : m_reg p0 with
  | false => exact ⟨1, h, z, false, _, tL_drop_1 ha (tH_drop_r l hl0 g a ha.1 h p0 e0) ⟨rfl, rfl⟩ ⟨by decide, by decide⟩, tM_drop_bad l g bm hb m p0 e0, rfl, fun q => absurd q (by decide), o0.t0 _⟩
  | true =>
    obtain ⟨r, hr, rfl⟩ := m_reg_of e0
    obtain ⟨o1, f1⟩ := o0.drop hr
    exact ⟨0, _, _, _, _, tL_drop_ok ha (tH_drop_ok l g a ha.1 h r hr) ⟨rfl, rfl⟩ ⟨by decide, by decide⟩, tM_drop_ok l g bm hb m r hr, rfl, fun _ => by rw [← f1]; rfl, o1⟩
theorem op_budget (hl0 : l.stackTraces = false) (ha : apO a ao) (hb : apM bm) (o : OKs h m) (p0 : Int32) : Op7 l g a ao bm yL_budget kL_budget yM_budget kM_budget { frames := 3, cells := 0, slots := 0, locals := 67 } [.int p0] h z m := by
  have o0 : OKs h (m_t0 m) := o.t0 (nI 0)
  cases e0 : m_bud p0 with
  | false => exact ⟨1, h, z, nI 0, _, tL_budget_1 ha (tH_budget_bad l hl0 g a ha.1 h p0 e0) ⟨rfl, rfl⟩ ⟨by decide, by decide⟩, tM_budget_bad l g bm hb m p0 e0, rfl, fun q => absurd q (by decide), o0.t0 _⟩
  | true =>
    obtain ⟨n, hn, rfl⟩ := m_bud_of e0
    obtain ⟨hs, o1, t1, f1⟩ := o0.budget n hn
    exact ⟨0, _, _, _, _, tL_budget_ok ha (tH_budget_ok l g a ha.1 h n hn) ⟨rfl, rfl⟩ ⟨by decide, by decide⟩, tM_budget_ok l g bm hb m n hn hs, t1, fun _ => by rw [← f1]; rfl, o1⟩
theorem op_collect (ha : apO a ao) (hb : apM bm) (o : OKs h m) : Op2 l g a bm yH_collect kH_collect { frames := 4, cells := 0, slots := 0, locals := 85 } yM_collect kM_collect { frames := 2, cells := 0, slots := 0, locals := 48 } [] h m := by
  have o0 : OKs h (m_t0 m) := o.t0 (nI 0)
  obtain ⟨o1, -, f1⟩ := o0.collect
  exact ⟨_, _, _, tH_collect l g a ha.1 h, by rw [f1]; exact tM_collect l g bm hb m, o1⟩
theorem op_thorough (ha : apO a ao) (hb : apM bm) (o : OKs h m) : Op2 l g a bm yH_thorough kH_thorough { frames := 4, cells := 0, slots := 0, locals := 89 } yM_thorough kM_thorough { frames := 3, cells := 0, slots := 0, locals := 69 } [] h m := by
  have o0 : OKs h (m_t0 m) := o.t0 (nI 0)
  obtain ⟨hs, o1, -, f1⟩ := o0.thorough
  exact ⟨_, _, _, tH_thorough l g a ha.1 h, by rw [f1]; exact tM_thorough l g bm hb m hs, o1⟩
theorem op_faults (ha : apO a ao) (hb : apM bm) (o : OKs h m) : Op2 l g a bm yH_faults kH_faults { frames := 0, cells := 0, slots := 0, locals := 0 } yM_faults kM_faults { frames := 0, cells := 0, slots := 0, locals := 0 } [] h m :=
  ⟨_, _, _, tH_faults l g a ha.1 h, by rw [o.reads.1]; exact tM_faults l g bm hb m, o.t0 (nI 0)⟩
theorem op_objects (ha : apO a ao) (hb : apM bm) (o : OKs h m) : Op2 l g a bm yH_objects kH_objects { frames := 0, cells := 0, slots := 0, locals := 0 } yM_objects kM_objects { frames := 0, cells := 0, slots := 0, locals := 0 } [] h m :=
  ⟨_, _, _, tH_objects l g a ha.1 h, by rw [o.reads.2.1]; exact tM_objects l g bm hb m, o.t0 (nI 0)⟩
theorem op_page (ha : apO a ao) (hb : apM bm) (o : OKs h m) (q : Int32) : Op2 l g a bm yH_page kH_page { frames := 1, cells := 0, slots := 0, locals := 20 } yM_page kM_page { frames := 1, cells := 0, slots := 0, locals := 20 } [.int q] h m :=
  ⟨_, _, _, tH_page l g a ha.1 h q, by rw [o.reads.2.2.1 q]; exact tM_page l g bm hb m q, o.t0 (nI 0)⟩
theorem op_count (ha : apO a ao) (hb : apM bm) (o : OKs h m) (q : Int32) : Op2 l g a bm yH_count kH_count { frames := 1, cells := 0, slots := 0, locals := 20 } yM_count kM_count { frames := 2, cells := 0, slots := 0, locals := 48 } [.int q] h m :=
  ⟨_, _, _, tH_count l g a ha.1 h q, by rw [o.reads.2.2.2.1 q]; exact tM_count l g bm hb m q, o.t0 (nI 0)⟩
theorem op_places (ha : apO a ao) (hb : apM bm) (o : OKs h m) (q : Int32) : Op2 l g a bm yH_places kH_places { frames := 1, cells := 0, slots := 0, locals := 20 } yM_places kM_places { frames := 1, cells := 0, slots := 0, locals := 20 } [.int q] h m :=
  ⟨_, _, _, tH_places l g a ha.1 h q, by rw [o.places q]; exact tM_places l g bm hb m q, o.t0 (nI 0)⟩
theorem op_hand (ha : apO a ao) (hb : apM bm) (o : OKs h m) : Op2 l g a bm yH_hand kH_hand { frames := 0, cells := 0, slots := 0, locals := 0 } yM_hand kM_hand { frames := 0, cells := 0, slots := 0, locals := 0 } [] h m :=
  ⟨_, _, _, tH_hand l g a ha.1 h, by rw [o.reads.2.2.2.2]; exact tM_hand l g bm hb m, o.t0 (nI 0)⟩
end OPS
