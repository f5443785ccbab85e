/-! what is kept, on the class's side -/
abbrev KX : Type := (Nat → Bool) × (Nat → Fin 32) × Nat
def wK (h : HS) (x : KX) : HS := (h.1, h.2.1, h.2.2.1, h.2.2.2.1, h.2.2.2.2.1, h.2.2.2.2.2.1, h.2.2.2.2.2.2.1, h.2.2.2.2.2.2.2.1, x.1, x.2.1, x.2.2, h.2.2.2.2.2.2.2.2.2.2.2)
def kpx (h : HS) (o : Option (Fin 32)) (x : KX) : KX := match o with
  | none => x
  | some k => if x.1 k.val = true then x else if (gH_ST h (k.val / 4)).val = 1 then (va_up x.1 k.val true, va_up x.2.1 x.2.2 k, x.2.2 + 1) else x
theorem keep_lift (h : HS) (o : Option (Fin 32)) (x : KX) : h_keep o (wK h x) = wK h (kpx h o x) := by
  unfold h_keep kpx
  cases o with
  | none => rfl
  | some k =>
    show (if x.1 k.val = true then wK h x else if (gH_ST h (k.val / 4)).val = 1 then wK h (va_up x.1 k.val true, va_up x.2.1 x.2.2 k, x.2.2 + 1) else wK h x) = wK h (if x.1 k.val = true then x else if (gH_ST h (k.val / 4)).val = 1 then (va_up x.1 k.val true, va_up x.2.1 x.2.2 k, x.2.2 + 1) else x)
    split
    · rfl
    · split <;> rfl
/-- the row and the bits say the same; all kept are of the kind G, on pages in -/
def WI (h : HS) (G : Nat → Prop) (x : KX) : Prop := (∀ i, i < x.2.2 → x.1 (x.2.1 i).val = true) ∧ (∀ p, x.1 p = true → ∃ i, i < x.2.2 ∧ (x.2.1 i).val = p) ∧ (∀ p, x.1 p = true → (gH_ST h (p / 4)).val = 1 ∧ G p) ∧ x.2.2 = cntN x.1 32
def mono (x y : KX) : Prop := x.2.2 ≤ y.2.2 ∧ (∀ p, x.1 p = true → y.1 p = true) ∧ ∀ i, i < x.2.2 → y.2.1 i = x.2.1 i
theorem mono.rf (x : KX) : mono x x := ⟨Nat.le_refl _, fun _ h => h, fun _ _ => rfl⟩
theorem mono.tr {x y z : KX} (h1 : mono x y) (h2 : mono y z) : mono x z := ⟨Nat.le_trans h1.1 h2.1, fun p h => h2.2.1 p (h1.2.1 p h), fun i hi => (h2.2.2 i (Nat.lt_of_lt_of_le hi h1.1)).trans (h1.2.2 i hi)⟩
theorem kpx_ok {h : HS} {G : Nat → Prop} {x : KX} (w : WI h G x) (o : Option (Fin 32)) (hg : ∀ k, o = some k → (gH_ST h (k.val / 4)).val = 1 → G k.val) : WI h G (kpx h o x) ∧ mono x (kpx h o x) ∧ ∀ k, o = some k → (gH_ST h (k.val / 4)).val = 1 → (kpx h o x).1 k.val = true := by
  unfold kpx
  cases o with
  | none => exact ⟨w, mono.rf x, fun k hk => by cases hk⟩
  | some k =>
    dsimp only
    by_cases q : x.1 k.val = true
    · rw [if_pos q]
      exact ⟨w, mono.rf x, fun k2 hk _ => by cases hk; exact q⟩
    · rw [if_neg q]
      by_cases s : (gH_ST h (k.val / 4)).val = 1
      · rw [if_pos s]
        obtain ⟨w1, w2, w3, w4⟩ := w
        have q2 : x.1 k.val = false := by cases z : x.1 k.val with
          | false => rfl
          | true => exact absurd z q
        refine ⟨⟨fun i hi => ?_, fun p hp => ?_, fun p hp => ?_, ?_⟩, ⟨Nat.le_succ _, fun p hp => ?_, fun i hi => ?_⟩, fun k2 hk _ => ?_⟩
        · show va_up x.1 k.val true (va_up x.2.1 x.2.2 k i).val = true
          have hi : i < x.2.2 + 1 := hi
          by_cases z : i = x.2.2
          · rw [z, up_s, up_s]
          · rw [up_n z]
            unfold va_up
            split
            · rfl
            · exact w1 i (by omega)
        · have hp : va_up x.1 k.val true p = true := hp
          by_cases z : p = k.val
          · refine ⟨x.2.2, Nat.lt_succ_self _, ?_⟩
            show (va_up x.2.1 x.2.2 k x.2.2).val = p
            rw [up_s, z]
          · rw [up_n z] at hp
            obtain ⟨i, hi, e⟩ := w2 p hp
            refine ⟨i, Nat.lt_succ_of_lt hi, ?_⟩
            show (va_up x.2.1 x.2.2 k i).val = p
            rw [up_n (by omega), e]
        · have hp : va_up x.1 k.val true p = true := hp
          by_cases z : p = k.val
          · rw [z]; exact ⟨s, hg k rfl s⟩
          · rw [up_n z] at hp; exact w3 p hp
        · show x.2.2 + 1 = cntN (va_up x.1 k.val true) 32
          rw [cntN_up q2, if_pos k.isLt, w4]
        · show va_up x.1 k.val true p = true
          unfold va_up
          split
          · rfl
          · exact hp
        · show va_up x.2.1 x.2.2 k i = x.2.1 i
          rw [up_n (by omega)]
        · cases hk
          show va_up x.1 k.val true k.val = true
          rw [up_s]
      · rw [if_neg s]
        exact ⟨w, mono.rf x, fun k2 hk hs => by cases hk; exact absurd hs s⟩
/-- all that the first i rows hold is kept -/
def Dn (h : HS) (i : Nat) (x : KX) : Prop := ∀ j, j < i → ∀ f, f < 2 → ∀ k, gH_FD h (2 * (x.2.1 j).val + f) = some k → (gH_ST h (k.val / 4)).val = 1 → x.1 k.val = true
theorem Dn.mono {h : HS} {i : Nat} {x y : KX} (d : Dn h i x) (hi : i ≤ x.2.2) (m : mono x y) : Dn h i y := fun j hj f hf k hk hs => by
  rw [m.2.2 j (by omega)] at hk
  exact m.2.1 _ (d j hj f hf k hk hs)
def wl1 (h : HS) (i f : Nat) (x : KX) : KX := kpx h (gH_FD h (2 * (x.2.1 i).val + f)) x
def wl (h : HS) : Nat → Nat → KX → KX
  | 0, _, x => x
  | n + 1, i, x => if i < x.2.2 then wl h n (i + 1) (fldN (wl1 h i) x 2) else x
theorem wl_lift (h : HS) : ∀ (n i : Nat) (x : KX), h_wl n i (wK h x) = wK h (wl h n i x)
  | 0, _, _ => rfl
  | n + 1, i, x => by
    unfold h_wl wl
    show (if i < x.2.2 then h_wl n (i + 1) (fldN (h_wk i) (wK h x) 2) else wK h x) = _
    by_cases q : i < x.2.2
    · rw [if_pos q, if_pos q]
      have e : ∀ f y, h_wk i f (wK h y) = wK h (wl1 h i f y) := fun f y => keep_lift h _ y
      rw [fld_lift (wK h) e x 2, wl_lift h n (i + 1)]
    · rw [if_neg q, if_neg q]
theorem wl_ok {h : HS} {G : Nat → Prop} (hG : ∀ p f k, G p → f < 2 → gH_FD h (2 * p + f) = some k → (gH_ST h (k.val / 4)).val = 1 → G k.val) : ∀ (n i : Nat) (x : KX), WI h G x → Dn h i x → i ≤ x.2.2 → 32 ≤ n + i → WI h G (wl h n i x) ∧ mono x (wl h n i x) ∧ Dn h (wl h n i x).2.2 (wl h n i x)
  | 0, i, x, w, d, hi, hn => by
    have : x.2.2 ≤ 32 := by rw [w.2.2.2]; exact cntN_le _ 32
    have e : i = x.2.2 := by omega
    refine ⟨w, mono.rf x, ?_⟩
    show Dn h x.2.2 x
    rw [← e]; exact d
  | n + 1, i, x, w, d, hi, hn => by
    unfold wl
    by_cases q : i < x.2.2
    · rw [if_pos q]
      have gi : G (x.2.1 i).val := (w.2.2.1 _ (w.1 i q)).2
      obtain ⟨a1, a2, a3⟩ := kpx_ok w (gH_FD h (2 * (x.2.1 i).val + 0)) (fun k hk hs => hG _ 0 k gi (by omega) hk hs)
      have e1 : wl1 h i 0 x = kpx h (gH_FD h (2 * (x.2.1 i).val + 0)) x := rfl
      rw [← e1] at a1 a2 a3
      have gi2 : ((wl1 h i 0 x).2.1 i) = x.2.1 i := a2.2.2 i q
      obtain ⟨b1, b2, b3⟩ := kpx_ok a1 (gH_FD h (2 * ((wl1 h i 0 x).2.1 i).val + 1)) (fun k hk hs => hG (x.2.1 i).val 1 k gi (by omega) (by rw [gi2] at hk; exact hk) hs)
      have e2 : wl1 h i 1 (wl1 h i 0 x) = kpx h (gH_FD h (2 * ((wl1 h i 0 x).2.1 i).val + 1)) (wl1 h i 0 x) := rfl
      rw [← e2] at b1 b2 b3
      have e3 : fldN (wl1 h i) x 2 = wl1 h i 1 (wl1 h i 0 x) := rfl
      rw [e3]
      have m2 : mono x (wl1 h i 1 (wl1 h i 0 x)) := a2.tr b2
      have d2 : Dn h (i + 1) (wl1 h i 1 (wl1 h i 0 x)) := by
        intro j hj f hf k hk hs
        by_cases z : j = i
        · rw [z, m2.2.2 i q] at hk
          rcases (show f = 0 ∨ f = 1 by omega) with rfl | rfl
          · exact b2.2.1 _ (a3 k hk hs)
          · exact b3 k (by rw [gi2]; exact hk) hs
        · exact (d.mono hi m2) j (by omega) f hf k hk hs
      obtain ⟨c1, c2, c3⟩ := wl_ok hG n (i + 1) _ b1 d2 (Nat.le_trans q m2.1) (by omega)
      exact ⟨c1, m2.tr c2, c3⟩
    · rw [if_neg q]
      have e : i = x.2.2 := by omega
      refine ⟨w, mono.rf x, ?_⟩
      rw [← e]; exact d
/-- a loop of keeps -/
theorem fld_keeps {h : HS} {G : Nat → Prop} (o : Nat → Option (Fin 32)) (hg : ∀ i k, o i = some k → (gH_ST h (k.val / 4)).val = 1 → G k.val) {x : KX} (w : WI h G x) : ∀ n, WI h G (fldN (fun i x => kpx h (o i) x) x n) ∧ mono x (fldN (fun i x => kpx h (o i) x) x n) ∧ ∀ i k, i < n → o i = some k → (gH_ST h (k.val / 4)).val = 1 → (fldN (fun i x => kpx h (o i) x) x n).1 k.val = true
  | 0 => ⟨w, mono.rf x, fun i k hi => absurd hi (Nat.not_lt_zero i)⟩
  | n + 1 => by
    obtain ⟨a1, a2, a3⟩ := fld_keeps o hg w n
    show WI h G (kpx h (o n) (fldN (fun i x => kpx h (o i) x) x n)) ∧ mono x (kpx h (o n) (fldN (fun i x => kpx h (o i) x) x n)) ∧ ∀ i k, i < n + 1 → o i = some k → (gH_ST h (k.val / 4)).val = 1 → (kpx h (o n) (fldN (fun i x => kpx h (o i) x) x n)).1 k.val = true
    generalize fldN (fun i x => kpx h (o i) x) x n = y at a1 a2 a3 ⊢
    obtain ⟨b1, b2, b3⟩ := kpx_ok a1 (o n) (fun k => hg n k)
    refine ⟨b1, a2.tr b2, fun i k hi hk hs => ?_⟩
    by_cases z : i = n
    · exact b3 k (by rw [← z]; exact hk) hs
    · exact b2.2.1 _ (a3 i k (by omega) hk hs)
theorem h_k0_fld (h : HS) : ∀ n, fldN h_k0 h n = wK h (fun p => if p < n then false else gH_KP h p, gH_KL h, gH_KS h)
  | 0 => by
    have e : (fun p => if p < 0 then false else gH_KP h p) = gH_KP h := by
      funext p; rw [if_neg (by omega)]
    rw [e]; rfl
  | n + 1 => by
    show h_k0 n (fldN h_k0 h n) = _
    rw [h_k0_fld h n]
    show wK h (va_up (fun p => if p < n then false else gH_KP h p) n false, gH_KL h, gH_KS h) = _
    congr 2
    funext p
    unfold va_up
    by_cases z : p = n
    · rw [if_pos z, if_pos (show p < n + 1 by omega)]
    · rw [if_neg z]
      show (if p < n then false else gH_KP h p) = _
      by_cases y : p < n
      · rw [if_pos y, if_pos (show p < n + 1 by omega)]
      · rw [if_neg y, if_neg (show ¬ p < n + 1 by omega)]
theorem h_mark_ok {h : HS} {m : MS} (R : Rel h m) (I : Inv m) : ∃ x : KX, h_mark h = wK h x ∧ ∀ p, x.1 p = true ↔ Good m p := by
  obtain ⟨r1, r2, r3, r4, r5, r6, r7, r8, r9, r10, r11⟩ := R
  obtain ⟨j0, j0s, j1, j2, j3, j4, j5, j6, j6b, j7, j8⟩ := I
  have hk := r11.2
  let x0 : KX := (fun p => if p < 32 then false else gH_KP h p, gH_KL h, 0)
  have hx0 : ∀ p, x0.1 p = false := by
    intro p
    show (if p < 32 then false else gH_KP h p) = false
    by_cases z : p < 32
    · rw [if_pos z]
    · rw [if_neg z]; exact hk p (by omega)
  have e0 : h_mk0 h = wK h x0 := by
    unfold h_mk0
    rw [h_k0_fld]; rfl
  have w0 : WI h (Good m) x0 := ⟨fun i hi => absurd hi (Nat.not_lt_zero i), fun p hp => (by rw [hx0 p] at hp; cases hp), fun p hp => (by rw [hx0 p] at hp; cases hp), (cntN_zero.mpr (fun j _ => hx0 j)).symm⟩
  -- the registers
  have er : ∀ r x, h_kr r (wK h x) = wK h (kpx h (if r < 4 then gH_RG h r else none) x) ∨ ¬ r < 4 := by
    intro r x
    by_cases z : r < 4
    · left
      rw [if_pos z]
      exact keep_lift h _ x
    · exact Or.inr z
  have lr : ∀ n, n ≤ 4 → fldN h_kr (wK h x0) n = wK h (fldN (fun r x => kpx h (if r < 4 then gH_RG h r else none) x) x0 n) := by
    intro n
    induction n with
    | zero => intro _; rfl
    | succ n ih =>
      intro hn
      show h_kr n (fldN h_kr (wK h x0) n) = wK h (kpx h (if n < 4 then gH_RG h n else none) (fldN (fun r x => kpx h (if r < 4 then gH_RG h r else none) x) x0 n))
      rw [ih (by omega)]
      rcases er n (fldN (fun r x => kpx h (if r < 4 then gH_RG h r else none) x) x0 n) with z | z
      · exact z
      · omega
  obtain ⟨a1, a2, a3⟩ := fld_keeps (h := h) (G := Good m) (fun r => if r < 4 then gH_RG h r else none) (fun i k hk hs => by
    by_cases z : i < 4
    · have hk : (if i < 4 then gH_RG h i else none) = some k := hk
      rw [if_pos z, r3] at hk
      rw [r4] at hs
      exact Reach.step (j1 i k hk).2 hs (Or.inr (Or.inl ⟨i, k, z, hk, rfl⟩))
    · have hk : (if i < 4 then gH_RG h i else none) = some k := hk
      rw [if_neg z] at hk; cases hk) w0 4
  generalize hx1 : fldN (fun r x => kpx h (if r < 4 then gH_RG h r else none) x) x0 4 = x1 at a1 a2 a3
  -- the bookmarks
  have lb : ∀ n, n ≤ 32 → fldN h_kb (wK h x1) n = wK h (fldN (fun p x => kpx h (if gH_BM h p = true then toP (some p) else none) x) x1 n) := by
    intro n
    induction n with
    | zero => intro _; rfl
    | succ n ih =>
      intro hn
      show h_kb n (fldN h_kb (wK h x1) n) = wK h (kpx h (if gH_BM h n = true then toP (some n) else none) (fldN (fun p x => kpx h (if gH_BM h p = true then toP (some p) else none) x) x1 n))
      rw [ih (by omega)]
      generalize fldN (fun p x => kpx h (if gH_BM h p = true then toP (some p) else none) x) x1 n = y
      unfold h_kb
      show (if gH_BM h n = true then h_keep (toP (some n)) (wK h y) else wK h y) = _
      by_cases z : gH_BM h n = true
      · rw [if_pos z, if_pos z, keep_lift]
      · rw [if_neg z, if_neg z]; rfl
  obtain ⟨b1, b2, b3⟩ := fld_keeps (h := h) (G := Good m) (fun p => if gH_BM h p = true then toP (some p) else none) (fun i k hk hs => by
    have hk : (if gH_BM h i = true then toP (some i) else none) = some k := hk
    by_cases z : gH_BM h i = true
    · rw [if_pos z] at hk
      rw [r2] at z
      have hi := j0 _ (j3 _ z)
      rw [toP_some hi] at hk
      cases hk
      rw [r4] at hs
      exact Reach.step (j3 _ z) hs (Or.inl z)
    · rw [if_neg z] at hk; cases hk) a1 32
  generalize hx2 : fldN (fun p x => kpx h (if gH_BM h p = true then toP (some p) else none) x) x1 32 = x2 at b1 b2 b3
  have em : h_mk1 h = wK h x2 := by
    unfold h_mk1
    rw [e0, lr 4 (Nat.le_refl 4), hx1, lb 32 (Nat.le_refl 32), hx2]
  obtain ⟨c1, c2, c3⟩ := wl_ok (h := h) (G := Good m) (fun p f k gp hf hfd hs => by
    rw [r9] at hfd
    have ep : (2 * p + f) / 2 = p := by omega
    rw [ep, if_pos gp.1] at hfd
    rw [r4] at hs
    exact Reach.step (j2 (2 * p + f) k (by rw [ep]; exact gp.1) hfd) hs (Or.inr (Or.inr ⟨2 * p + f, k, by rw [ep]; exact gp.2.2, hfd, rfl⟩))) 32 0 x2 b1 (fun j hj => absurd hj (Nat.not_lt_zero j)) (Nat.zero_le _) (by omega)
  refine ⟨wl h 32 0 x2, ?_, fun p => ⟨fun hp => (c1.2.2.1 p hp).2, fun hp => ?_⟩⟩
  · unfold h_mark
    rw [em]; exact wl_lift h 32 0 x2
  · refine hp.2.2 (fun p => (wl h 32 0 x2).1 p = true) (fun p h1 h2 h3 => ?_)
    have hp32 := j0 p h1
    rcases h3 with h3 | ⟨r, k, hr, h4, h5⟩ | ⟨i, k, h4, h5, h6⟩
    · refine c2.2.1 _ (b3 p ⟨p, hp32⟩ hp32 ?_ (by rw [r4]; exact h2))
      rw [r2]
      show (if gM_MK m p = true then toP (some p) else none) = _
      rw [if_pos h3]; exact toP_some hp32
    · rw [← h5] at h2 ⊢
      refine c2.2.1 _ (b2.2.1 _ (a3 r k hr ?_ (by rw [r4]; exact h2)))
      show (if r < 4 then gH_RG h r else none) = some k
      rw [if_pos hr, r3]; exact h4
    · rw [← h6] at h2 ⊢
      obtain ⟨j, hj, ej⟩ := c1.2.1 (i / 2) h4
      have gi := (c1.2.2.1 _ h4).2
      refine c3 j hj (i % 2) (by omega) k ?_ (by rw [r4]; exact h2)
      rw [ej, show 2 * (i / 2) + i % 2 = i by omega, r9, if_pos gi.1]
      exact h5
