/-! fields, registers, the budget, a new object: both sides -/
theorem Rel.setFD {h : HS} {m : MS} (R : Rel h m) (I : Inv m) {q f : Nat} (hq : gM_TH m q = true) (hs : (gM_ST m (q / 4)).val = 1) (hf : f < 2) (x : Option (Fin 32)) (hx : ∀ k, x = some k → gM_TH m k.val = true) : Rel (uH_FD h (2 * q + f) x) (uM_FD m (2 * q + f) x) ∧ Inv (uM_FD m (2 * q + f) x) := by
  obtain ⟨r1, r2, r3, r4, r5, r6, r7, r8, r9, r10, r11⟩ := R
  obtain ⟨j0, j0s, j1, j2, j3, j4, j5, j6, j6b, j7, j8⟩ := I
  have eq2 : (2 * q + f) / 2 = q := by omega
  have eq8 : (2 * q + f) / 8 = q / 4 := by omega
  have hcnt : ∀ w, m_counted (uM_FD m (2 * q + f) x) w = m_counted m w := by
    intro w
    unfold m_counted
    refine cntN_congr (fun v _ => ?_)
    apply bool_iff
    unfold m_ctb
    rw [Bool.and_eq_true, Bool.and_eq_true, decide_eq_true_iff, decide_eq_true_iff]
    refine and_congr_right (fun hv => ?_)
    have hv : (gM_ST m v).val = 2 := hv
    rw [m_refers_iff, m_refers_iff]
    refine and_congr_right (fun _ => ?_)
    constructor
    · rintro ⟨i, k, a1, a2, a3, a4⟩
      have a3 : va_up (gM_FD m) (2 * q + f) x i = some k := a3
      have z : i ≠ 2 * q + f := fun z => by rw [z, eq8] at a1; rw [a1] at hs; omega
      rw [up_n z] at a3
      exact ⟨i, k, a1, a2, a3, a4⟩
    · rintro ⟨i, k, a1, a2, a3, a4⟩
      have z : i ≠ 2 * q + f := fun z => by rw [z, eq8] at a1; rw [a1] at hs; omega
      refine ⟨i, k, a1, a2, ?_, a4⟩
      show va_up (gM_FD m) (2 * q + f) x i = some k
      rw [up_n z]; exact a3
  refine ⟨⟨r1, r2, r3, r4, r5, r6, r7, r8, fun i => ?_, fun w => ?_, r11⟩, j0, j0s, j1, fun i k ht hk => ?_, j3, j4, j5, j6, fun i k ht hs2 hk => ?_, fun p hp hs2 => ?_, j8⟩
  · show va_up (gH_FD h) (2 * q + f) x i = if gM_TH m (i / 2) = true then va_up (gM_FD m) (2 * q + f) x i else none
    by_cases z : i = 2 * q + f
    · rw [z, up_s, up_s, eq2, if_pos hq]
    · rw [up_n z, up_n z]; exact r9 i
  · rw [hcnt w]; exact r10 w
  · have hk : va_up (gM_FD m) (2 * q + f) x i = some k := hk
    by_cases z : i = 2 * q + f
    · rw [z, up_s] at hk; exact hx k hk
    · rw [up_n z] at hk; exact j2 i k ht hk
  · have hk : va_up (gM_FD m) (2 * q + f) x i = some k := hk
    have hs2 : (gM_ST m (i / 8)).val = 2 := hs2
    have z : i ≠ 2 * q + f := fun z => by rw [z, eq8] at hs2; omega
    rw [up_n z] at hk
    exact j6b i k ht hs2 hk
  · rw [hcnt]; exact j7 p hp hs2
theorem Rel.setRG {h : HS} {m : MS} (R : Rel h m) (I : Inv m) {r : Nat} (hr : r < 4) (x : Option (Fin 32)) (hx : ∀ k, x = some k → gM_TH m k.val = true) : Rel (uH_RG h r x) (uM_RG m r x) ∧ Inv (uM_RG m r x) := by
  obtain ⟨r1, r2, r3, r4, r5, r6, r7, r8, r9, r10, r11⟩ := R
  obtain ⟨j0, j0s, j1, j2, j3, j4, j5, j6, j6b, j7, j8⟩ := I
  refine ⟨⟨r1, r2, ?_, r4, r5, r6, r7, r8, r9, r10, r11⟩, j0, j0s, fun q k hk => ?_, j2, j3, j4, j5, j6, j6b, j7, j8⟩
  · show va_up (gH_RG h) r x = va_up (gM_RG m) r x
    rw [r3]
  · have hk : va_up (gM_RG m) r x q = some k := hk
    by_cases z : q = r
    · rw [z, up_s] at hk
      exact ⟨by omega, hx k hk⟩
    · rw [up_n z] at hk; exact j1 q k hk
theorem Rel.setBU {h : HS} {m : MS} (R : Rel h m) (I : Inv m) (n : Fin 9) (hn : 2 ≤ n.val) : Rel (uH_BU h n) (uM_BU m n) ∧ Inv (uM_BU m n) := by
  obtain ⟨r1, r2, r3, r4, r5, r6, r7, r8, r9, r10, r11⟩ := R
  obtain ⟨j0, j0s, j1, j2, j3, j4, j5, j6, j6b, j7, j8⟩ := I
  exact ⟨⟨r1, r2, r3, r4, r5, rfl, r7, r8, r9, r10, r11⟩, j0, j0s, j1, j2, j3, j4, j5, j6, j6b, j7, hn, j8.2⟩
theorem Rel.free {h : HS} {m : MS} (R : Rel h m) : h_free h = m_free m ∧ fstN (h_emb h) 8 = fstN (m_emb m) 8 := by
  have a : h_frb h = m_frb m := by
    funext p
    unfold h_frb m_frb
    rw [R.1, R.2.2.2.1]
  have b : h_emb h = m_emb m := by
    funext p
    unfold h_emb m_emb
    rw [R.2.2.2.1]
  unfold h_free m_free
  rw [a, b]
  exact ⟨rfl, rfl⟩
theorem Rel.tkp {h : HS} {m : MS} (R : Rel h m) : h_tkp h = m_fp m := by
  obtain ⟨a, b⟩ := R.free
  unfold h_tkp m_fp h_empty m_fpe
  rw [a, b]
  all_goals (generalize m_free m = x; generalize fstN (m_emb m) 8 = y; cases x <;> cases y <;> rfl)
theorem fstN_some {f : Nat → Bool} : ∀ {n i : Nat}, fstN f n = some i → i < n ∧ f i = true
  | 0, i, h => by cases h
  | n + 1, i, h => by
    have h : (match fstN f n with | some i => some i | none => if f n = true then some n else none) = some i := h
    cases e : fstN f n with
    | some j =>
      rw [e] at h
      have ej : j = i := Option.some.inj h
      obtain ⟨a, b⟩ := fstN_some e
      rw [← ej]
      exact ⟨by omega, b⟩
    | none =>
      rw [e] at h
      by_cases q : f n = true
      · have h : (if f n = true then some n else none) = some i := h
        rw [if_pos q] at h
        have ej : n = i := Option.some.inj h
        rw [← ej]
        exact ⟨by omega, q⟩
      · have h : (if f n = true then some n else none) = some i := h
        rw [if_neg q] at h; cases h
theorem uM_ST_id {m : MS} {v : Nat} (h : (gM_ST m v).val = 1) : uM_ST m v ⟨1, by decide⟩ = m := by
  have e : va_up (gM_ST m) v (⟨1, by decide⟩ : Fin 3) = gM_ST m := by
    funext j
    unfold va_up
    by_cases z : j = v
    · rw [if_pos z, z]; exact Fin.ext h.symm
    · rw [if_neg z]
  show (m.1, m.2.1, m.2.2.1, m.2.2.2.1, m.2.2.2.2.1, va_up (gM_ST m) v (⟨1, by decide⟩ : Fin 3), m.2.2.2.2.2.2) = m
  rw [e]; rfl
theorem uH_ST_id {h : HS} {v : Nat} (hh : (gH_ST h v).val = 1) : uH_ST h v ⟨1, by decide⟩ = h := by
  have e : va_up (gH_ST h) v (⟨1, by decide⟩ : Fin 3) = gH_ST h := by
    funext j
    unfold va_up
    by_cases z : j = v
    · rw [if_pos z, z]; exact Fin.ext hh.symm
    · rw [if_neg z]
  show (h.1, h.2.1, h.2.2.1, h.2.2.2.1, h.2.2.2.2.1, va_up (gH_ST h) v (⟨1, by decide⟩ : Fin 3), h.2.2.2.2.2.2) = h
  rw [e]; rfl
theorem Rel.occ {h : HS} {m : MS} (R : Rel h m) (I : Inv m) {k : Nat} (hk : k < 32) (ht : gM_TH m k = false) (hs : (gM_ST m (k / 4)).val ≠ 2) (val : Int32) : Rel (uH_VA (h_occupy k h) k val) (m_place k val (uM_US (uM_ST m (k / 4) ⟨1, by decide⟩) (k / 4) true)) ∧ Inv (m_place k val (uM_US (uM_ST m (k / 4) ⟨1, by decide⟩) (k / 4) true)) := by
  obtain ⟨r1, r2, r3, r4, r5, r6, r7, r8, r9, r10, r11⟩ := R
  obtain ⟨j0, j0s, j1, j2, j3, j4, j5, j6, j6b, j7, j8⟩ := I
  have hmk : gM_MK m k = false := by
    cases z : gM_MK m k with
    | false => rfl
    | true => rw [j3 k z] at ht; cases ht
  -- the class's page
  obtain ⟨c, ec, hc⟩ : ∃ c, h_oc1 (k / 4) h = wCT (uH_ST h (k / 4) ⟨1, by decide⟩) c ∧ ∀ w, c w = gH_CT h w := by
    unfold h_oc1
    by_cases q : (gH_ST h (k / 4)).val = 0
    · rw [if_pos q]
      refine ⟨va_up (gH_CT h) (k / 4) (nI 0), rfl, fun w => ?_⟩
      unfold va_up
      by_cases z : w = k / 4
      · rw [if_pos z, r10 w]
        have c0 : m_counted m w = 0 := cntN_zero.mpr (fun v _ => by
          unfold m_ctb
          have : m_refers m v w = false := by
            cases y : m_refers m v w with
            | false => rfl
            | true =>
              obtain ⟨-, i, kk, a1, a2, a3, a4⟩ := (m_refers_iff m v w).mp y
              have t := j4 _ (j2 i kk a2 a3)
              rw [a4, z, ← r4] at t
              exact absurd q t
          rw [this, Bool.and_false])
        rw [c0]
      · rw [if_neg z]
    · rw [if_neg q]
      have q1 : (gH_ST h (k / 4)).val = 1 := by
        have hl := (gH_ST h (k / 4)).isLt
        rw [← r4] at hs
        omega
      refine ⟨gH_CT h, ?_, fun w => rfl⟩
      rw [uH_ST_id q1]; rfl
  have eH : h_occupy k h = uH_TK (uH_US (wCT (uH_ST h (k / 4) ⟨1, by decide⟩) c) (k / 4) true) k true := by
    unfold h_occupy
    rw [ec]
  rw [eH]
  generalize hv : k / 4 = v at hs ⊢
  have hv8 : v < 8 := by omega
  obtain ⟨m', hm'⟩ : ∃ m', m' = m_place k val (uM_US (uM_ST m v ⟨1, by decide⟩) v true) := ⟨_, rfl⟩
  have gTH : gM_TH m' = va_up (gM_TH m) k true := by rw [hm']; rfl
  have gFD : ∀ i, gM_FD m' i = if i / 2 = k then none else gM_FD m i := by
    intro i
    rw [hm']
    show va_up (va_up (gM_FD m) (2 * k) none) (2 * k + 1) none i = _
    by_cases z : i / 2 = k
    · rw [if_pos z]
      rcases (show i = 2 * k ∨ i = 2 * k + 1 by omega) with e | e
      · rw [e, up_n (by omega), up_s]
      · rw [e, up_s]
    · rw [if_neg z, up_n (by omega), up_n (by omega)]
  have gMK : gM_MK m' = gM_MK m := by
    rw [hm']
    show va_up (gM_MK m) k false = gM_MK m
    funext j
    unfold va_up
    by_cases z : j = k
    · rw [if_pos z, z, hmk]
    · rw [if_neg z]
  have gST : gM_ST m' = va_up (gM_ST m) v ⟨1, by decide⟩ := by rw [hm']; rfl
  have gUS : gM_US m' = va_up (gM_US m) v true := by rw [hm']; rfl
  have st2 : ∀ u, (gM_ST m' u).val = 2 ↔ (gM_ST m u).val = 2 := by
    intro u
    rw [gST]
    by_cases z : u = v
    · rw [z, up_s]
      exact ⟨fun y => (by cases y), fun y => absurd y hs⟩
    · rw [up_n z]
  have th1 : ∀ p, gM_TH m' p = true ↔ p = k ∨ gM_TH m p = true := by
    intro p
    rw [gTH]
    by_cases z : p = k
    · rw [z, up_s]; simp
    · rw [up_n z]; simp [z]
  have hcnt : ∀ w, m_counted m' w = m_counted m w := by
    intro w
    unfold m_counted
    refine cntN_congr (fun u _ => ?_)
    apply bool_iff
    unfold m_ctb
    rw [Bool.and_eq_true, Bool.and_eq_true, decide_eq_true_iff, decide_eq_true_iff, st2 u]
    refine and_congr_right (fun hu => ?_)
    rw [m_refers_iff, m_refers_iff]
    refine and_congr_right (fun _ => ?_)
    have nk : ∀ i, i / 8 = u → i / 2 ≠ k := fun i a z => by
      have : u = v := by omega
      rw [this] at hu
      exact hs hu
    constructor
    · rintro ⟨i, kk, a1, a2, a3, a4⟩
      have n := nk i a1
      rw [gFD i, if_neg n] at a3
      rw [th1] at a2
      exact ⟨i, kk, a1, a2.resolve_left n, a3, a4⟩
    · rintro ⟨i, kk, a1, a2, a3, a4⟩
      have n := nk i a1
      refine ⟨i, kk, a1, (th1 _).mpr (Or.inr a2), ?_, a4⟩
      rw [gFD i, if_neg n]; exact a3
  rw [← hm']
  refine ⟨⟨?_, ?_, ?_, ?_, ?_, ?_, ?_, ?_, fun i => ?_, fun w => ?_, fun p hp => ?_, r11.2⟩, fun p hp => ?_, fun u hu => ?_, fun r kk hr => ?_, fun i kk a1 a2 => ?_, fun p hp => ?_, fun p hp => ?_, fun u hu => ?_, fun p hp hsp => ?_, fun i kk a1 a2 a3 => ?_, fun p hp hsp => ?_, ?_⟩
  · show va_up (gH_TK h) k true = gM_TH m'
    rw [gTH, r1]
  · rw [gMK]; exact r2
  · rw [hm']; exact r3
  · show va_up (gH_ST h) v _ = gM_ST m'
    rw [gST, r4]
  · show va_up (gH_US h) v true = gM_US m'
    rw [gUS, r5]
  · rw [hm']; exact r6
  · rw [hm']; exact r7
  · rw [hm']; exact r8
  · show gH_FD h i = if gM_TH m' (i / 2) = true then gM_FD m' i else none
    rw [r9 i, gFD i]
    by_cases z : i / 2 = k
    · rw [z, if_neg (by rw [ht]; decide), if_pos ((th1 k).mpr (Or.inl rfl)), if_pos rfl]
    · rw [if_neg z]
      by_cases y : gM_TH m (i / 2) = true
      · rw [if_pos y, if_pos ((th1 _).mpr (Or.inr y))]
      · rw [if_neg y, if_neg (fun x => y (((th1 _).mp x).resolve_left z))]
  · show c w = _
    rw [hc w, hcnt w]; exact r10 w
  · show va_up (gH_VA h) k val p = gM_VA m' p
    have e : gM_VA m' = va_up (gM_VA m) k val := by rw [hm']; rfl
    rw [e]
    by_cases z : p = k
    · rw [z, up_s, up_s]
    · rw [up_n z, up_n z]
      exact r11.1 p (((th1 p).mp hp).resolve_left z)
  · rcases (th1 p).mp hp with z | z
    · rw [z]; exact hk
    · exact j0 p z
  · rw [gST] at hu
    by_cases z : u = v
    · rw [z]; exact hv8
    · rw [up_n z] at hu; exact j0s u hu
  · have e : gM_RG m' = gM_RG m := by rw [hm']; rfl
    rw [e] at hr
    obtain ⟨a, b⟩ := j1 r kk hr
    exact ⟨a, (th1 _).mpr (Or.inr b)⟩
  · rw [gFD i] at a2
    by_cases z : i / 2 = k
    · rw [if_pos z] at a2; cases a2
    · rw [if_neg z] at a2
      exact (th1 _).mpr (Or.inr (j2 i kk (((th1 _).mp a1).resolve_left z) a2))
  · rw [gMK] at hp
    exact (th1 p).mpr (Or.inr (j3 p hp))
  · rw [gST]
    by_cases z : p / 4 = v
    · rw [z, up_s]; decide
    · rw [up_n z]
      rcases (th1 p).mp hp with y | y
      · rw [y] at z; exact absurd hv z
      · exact j4 p y
  · rw [gUS] at hu
    rw [gST]
    by_cases z : u = v
    · rw [z, up_s]
    · rw [up_n z] at hu ⊢; exact j5 u hu
  · rw [gMK]
    rw [st2] at hsp
    rcases (th1 p).mp hp with y | y
    · rw [y, hv] at hsp; exact absurd hsp hs
    · exact j6 p y hsp
  · rw [gMK]
    rw [st2] at a2
    rw [gFD i] at a3
    by_cases z : i / 2 = k
    · rw [if_pos z] at a3; cases a3
    · rw [if_neg z] at a3
      exact j6b i kk (((th1 _).mp a1).resolve_left z) a2 a3
  · rw [gMK] at hp
    rw [hcnt]
    rw [gST] at hsp
    have tp := j3 p hp
    by_cases z : p / 4 = v
    · -- the page was empty or in
      by_cases y : (gM_ST m v).val = 1
      · exact j7 p hp (by rw [z]; exact y)
      · have hl := (gM_ST m v).isLt
        have n0 := j4 p tp
        rw [z] at n0
        omega
    · rw [up_n z] at hsp; exact j7 p hp hsp
  · rw [hm']; exact j8
