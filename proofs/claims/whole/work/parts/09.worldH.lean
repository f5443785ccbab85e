/-! the world of class H: written by wip/whole/world.py -/
abbrev HS : Type := (Nat → Bool) × (Nat → Bool) × (Nat → Int32) × (Nat → Option (Fin 32)) × (Nat → Option (Fin 32)) × (Nat → Fin 3) × (Nat → Bool) × (Nat → Int32) × (Nat → Bool) × (Nat → Fin 32) × Nat × (Fin 9) × Int32 × (Fin 8)
def gH_TK (s : HS) : Nat → Bool := s.1
def uH_TK (s : HS) (k : Nat) (v : Bool) : HS := (va_up s.1 k v, s.2)
def gH_BM (s : HS) : Nat → Bool := s.2.1
def uH_BM (s : HS) (k : Nat) (v : Bool) : HS := (s.1, va_up s.2.1 k v, s.2.2)
def gH_VA (s : HS) : Nat → Int32 := s.2.2.1
def uH_VA (s : HS) (k : Nat) (v : Int32) : HS := (s.1, s.2.1, va_up s.2.2.1 k v, s.2.2.2)
def gH_FD (s : HS) : Nat → Option (Fin 32) := s.2.2.2.1
def uH_FD (s : HS) (k : Nat) (v : Option (Fin 32)) : HS := (s.1, s.2.1, s.2.2.1, va_up s.2.2.2.1 k v, s.2.2.2.2)
def gH_RG (s : HS) : Nat → Option (Fin 32) := s.2.2.2.2.1
def uH_RG (s : HS) (k : Nat) (v : Option (Fin 32)) : HS := (s.1, s.2.1, s.2.2.1, s.2.2.2.1, va_up s.2.2.2.2.1 k v, s.2.2.2.2.2)
def gH_ST (s : HS) : Nat → Fin 3 := s.2.2.2.2.2.1
def uH_ST (s : HS) (k : Nat) (v : Fin 3) : HS := (s.1, s.2.1, s.2.2.1, s.2.2.2.1, s.2.2.2.2.1, va_up s.2.2.2.2.2.1 k v, s.2.2.2.2.2.2)
def gH_US (s : HS) : Nat → Bool := s.2.2.2.2.2.2.1
def uH_US (s : HS) (k : Nat) (v : Bool) : HS := (s.1, s.2.1, s.2.2.1, s.2.2.2.1, s.2.2.2.2.1, s.2.2.2.2.2.1, va_up s.2.2.2.2.2.2.1 k v, s.2.2.2.2.2.2.2)
def gH_CT (s : HS) : Nat → Int32 := s.2.2.2.2.2.2.2.1
def uH_CT (s : HS) (k : Nat) (v : Int32) : HS := (s.1, s.2.1, s.2.2.1, s.2.2.2.1, s.2.2.2.2.1, s.2.2.2.2.2.1, s.2.2.2.2.2.2.1, va_up s.2.2.2.2.2.2.2.1 k v, s.2.2.2.2.2.2.2.2)
def gH_KP (s : HS) : Nat → Bool := s.2.2.2.2.2.2.2.2.1
def uH_KP (s : HS) (k : Nat) (v : Bool) : HS := (s.1, s.2.1, s.2.2.1, s.2.2.2.1, s.2.2.2.2.1, s.2.2.2.2.2.1, s.2.2.2.2.2.2.1, s.2.2.2.2.2.2.2.1, va_up s.2.2.2.2.2.2.2.2.1 k v, s.2.2.2.2.2.2.2.2.2)
def gH_KL (s : HS) : Nat → Fin 32 := s.2.2.2.2.2.2.2.2.2.1
def uH_KL (s : HS) (k : Nat) (v : Fin 32) : HS := (s.1, s.2.1, s.2.2.1, s.2.2.2.1, s.2.2.2.2.1, s.2.2.2.2.2.1, s.2.2.2.2.2.2.1, s.2.2.2.2.2.2.2.1, s.2.2.2.2.2.2.2.2.1, va_up s.2.2.2.2.2.2.2.2.2.1 k v, s.2.2.2.2.2.2.2.2.2.2)
def gH_KS (s : HS) : Nat := s.2.2.2.2.2.2.2.2.2.2.1
def uH_KS (s : HS) (v : Nat) : HS := (s.1, s.2.1, s.2.2.1, s.2.2.2.1, s.2.2.2.2.1, s.2.2.2.2.2.1, s.2.2.2.2.2.2.1, s.2.2.2.2.2.2.2.1, s.2.2.2.2.2.2.2.2.1, s.2.2.2.2.2.2.2.2.2.1, v, s.2.2.2.2.2.2.2.2.2.2.2)
def gH_BU (s : HS) : Fin 9 := s.2.2.2.2.2.2.2.2.2.2.2.1
def uH_BU (s : HS) (v : Fin 9) : HS := (s.1, s.2.1, s.2.2.1, s.2.2.2.1, s.2.2.2.2.1, s.2.2.2.2.2.1, s.2.2.2.2.2.2.1, s.2.2.2.2.2.2.2.1, s.2.2.2.2.2.2.2.2.1, s.2.2.2.2.2.2.2.2.2.1, s.2.2.2.2.2.2.2.2.2.2.1, v, s.2.2.2.2.2.2.2.2.2.2.2.2)
def gH_FA (s : HS) : Int32 := s.2.2.2.2.2.2.2.2.2.2.2.2.1
def uH_FA (s : HS) (v : Int32) : HS := (s.1, s.2.1, s.2.2.1, s.2.2.2.1, s.2.2.2.2.1, s.2.2.2.2.2.1, s.2.2.2.2.2.2.1, s.2.2.2.2.2.2.2.1, s.2.2.2.2.2.2.2.2.1, s.2.2.2.2.2.2.2.2.2.1, s.2.2.2.2.2.2.2.2.2.2.1, s.2.2.2.2.2.2.2.2.2.2.2.1, v, s.2.2.2.2.2.2.2.2.2.2.2.2.2)
def gH_HA (s : HS) : Fin 8 := s.2.2.2.2.2.2.2.2.2.2.2.2.2
def uH_HA (s : HS) (v : Fin 8) : HS := (s.1, s.2.1, s.2.2.1, s.2.2.2.1, s.2.2.2.2.1, s.2.2.2.2.2.1, s.2.2.2.2.2.2.1, s.2.2.2.2.2.2.2.1, s.2.2.2.2.2.2.2.2.1, s.2.2.2.2.2.2.2.2.2.1, s.2.2.2.2.2.2.2.2.2.2.1, s.2.2.2.2.2.2.2.2.2.2.2.1, s.2.2.2.2.2.2.2.2.2.2.2.2.1, v)
theorem up_c {α : Type} (c : α → Int32) (f : Nat → α) (k : Nat) (v : α) : upd (fun j => c (f j)) k (c v) = fun j => c (va_up f k v j) := by
  funext j
  unfold upd va_up
  split <;> rfl
def wldH (g : GG) (a : Nat → Nat) (s : HS) : va_W := [(a 0, .inr (0, [.ref (a 1), .ref (a 2), .ref (a 3), .ref (a 4), .ref (a 5), .ref (a 6), .ref (a 7), .ref (a 8), .ref (a 9), .ref (a 10), .int (nI (gH_KS s)), .int (nI (gH_BU s).val), .int (gH_FA s), .int (nI (gH_HA s).val)])), (a 1, .inl (g.2.1, 32, .inl (fun j => bI (gH_TK s j)))), (a 2, .inl (g.2.1, 32, .inl (fun j => bI (gH_BM s j)))), (a 3, .inl (g.2.2.1, 32, .inl (fun j => gH_VA s j))), (a 4, .inl (g.2.2.1, 64, .inl (fun j => oI (gH_FD s j)))), (a 5, .inl (g.2.2.1, 4, .inl (fun j => oI (gH_RG s j)))), (a 6, .inl (g.2.2.1, 8, .inl (fun j => nI (gH_ST s j).val))), (a 7, .inl (g.2.1, 8, .inl (fun j => bI (gH_US s j)))), (a 8, .inl (g.2.2.1, 8, .inl (fun j => gH_CT s j))), (a 9, .inl (g.2.1, 32, .inl (fun j => bI (gH_KP s j)))), (a 10, .inl (g.2.2.1, 32, .inl (fun j => nI (gH_KL s j).val)))]
def adH (a : Nat → Nat) : Nat → Prop := fun q => ∃ k, k < 11 ∧ q = a k
def apH (a : Nat → Nat) : Prop := ∀ i j, i < 11 → j < 11 → a i = a j → i = j
theorem wldH_at {g : GG} {a : Nat → Nat} {s : HS} {k : Nat} {q : Nat × va_E} (h : (wldH g a s)[k]? = some q) : k < 11 ∧ q.1 = a k := by
  have hk : k < 11 := (List.getElem?_eq_some_iff.mp h).1
  have h1 : ((wldH g a s).map (fun z => z.1))[k]? = some q.1 := by rw [List.getElem?_map, h]; rfl
  have h2 : (wldH g a s).map (fun z => z.1) = [a 0, a 1, a 2, a 3, a 4, a 5, a 6, a 7, a 8, a 9, a 10] := rfl
  rw [h2] at h1
  refine ⟨hk, ?_⟩
  rcases (show k = 0 ∨ k = 1 ∨ k = 2 ∨ k = 3 ∨ k = 4 ∨ k = 5 ∨ k = 6 ∨ k = 7 ∨ k = 8 ∨ k = 9 ∨ k = 10 by omega) with rfl | rfl | rfl | rfl | rfl | rfl | rfl | rfl | rfl | rfl | rfl <;> exact (Option.some.inj h1).symm
theorem wldH_D {g : GG} {a : Nat → Nat} (ha : apH a) : ∀ s, va_D (adH a) (wldH g a s) := fun s =>
  ⟨fun i j p q hp hq hpq => by
    obtain ⟨h1, h2⟩ := wldH_at hp
    obtain ⟨h3, h4⟩ := wldH_at hq
    exact ha i j h1 h3 (by rw [← h2, ← h4]; exact hpq), fun k q hq => by
    obtain ⟨h1, h2⟩ := wldH_at hq
    exact ⟨k, h1, h2⟩⟩
section WH
variable {p : Program} {l : Launch} {e : Env} {R : Room} {S : State} {m : MethodId} {args : Array Value} {below : List Frame} {meth : Method} {c : Code} {H : Heap} {locs : List Loc} {cells slots : Nat} {Q : State → Prop}
variable {cc : ByteArray} {pc : Nat} {ls : Array Slot} {rest : List Value} {g : GG} {a : Nat → Nat} {A : Nat → Prop} {s : HS} {nL : Nat} {ret : Option FieldType} {own : String}
theorem rH_TK (X : Cx RH g p S m args meth c cc nL ret) (Y : Yw g (wldH g a) A S H locs s) (hdg : decode cc pc = .ok (.getfield 9, 3)) (kk : W p l e R S m args below meth c H locs cells slots Q (F0 m (pc + 3) ls (.ref (a 1) :: rest))) : W p l e R S m args below meth c H locs cells slots Q (F0 m pc ls (.ref (a 0) :: rest)) := va_get (D := g.1) (ci := 0) (v := .ref (a 1)) (C := RH) (T := FH) (N := 14) X.1 X.2.1 X.2.2.2.2.2.1 inH X.2.2.2.2.1 X.2.2.2.2.2.2.1 Y.1 0 rfl rfl 0 (by decide) (X.2.2.2.2.2.1 _ fH_taken) (fun _ h9 => h9) rfl hdg kk
theorem lH_TK (X : Cx own g p S m args meth c cc nL ret) (Y : Yw g (wldH g a) A S H locs s) {k : Nat} (hk : k < 32) (hdg : decode cc pc = .ok (.baload, 1)) (kk : W p l e R S m args below meth c H locs cells slots Q (F0 m (pc + 1) ls (.int (bI (gH_TK s k)) :: rest))) : W p l e R S m args below meth c H locs cells slots Q (F0 m pc ls (.int (nI k) :: .ref (a 1) :: rest)) := by
  refine va_zald (D := g.1) (cl := bw_cl) X.1 X.2.1 X.2.2.2.2.2.2.1 Y.1 1 0 (cA := g.2.1) (n := 32) (f := fun j => bI (gH_TK s j)) rfl rfl (vp_in_nI hk (by omega)) hdg ?_
  rw [nI_clamp (by omega)]
  exact kk
theorem sH_TK (X : Cx own g p S m args meth c cc nL ret) (Y : Yw g (wldH g a) A S H locs s) {k : Nat} {x : Int32} (v : Bool) (hv : x = bI (v)) (hk : k < 32) (hdg : decode cc pc = .ok (.bastore, 1)) (kk : ∀ (H : Heap) (locs : List Loc), Yw g (wldH g a) A S H locs (uH_TK s k v) → W p l e R S m args below meth c H locs cells slots Q (F0 m (pc + 1) ls rest)) : W p l e R S m args below meth c H locs cells slots Q (F0 m pc ls (.int x :: .int (nI k) :: .ref (a 1) :: rest)) := by
  rw [hv]
  refine va_zast (D := g.1) (cl := bw_cl) X.1 X.2.1 X.2.2.2.2.2.2.1 Y.1 Y.2.1 Y.2.2 1 0 (cA := g.2.1) (n := 32) (f := fun j => bI (gH_TK s j)) rfl rfl (vp_in_nI hk (by omega)) hdg (fun H1 locs1 hP hD hS => ?_)
  have e1 : upd (fun j => bI (gH_TK s j)) (nI k).toNatClampNeg (vp_nar .boolean (bI v)) = fun j => bI (va_up (gH_TK s) k v j) := by
    rw [nI_clamp (by omega), bI_vn]
    exact up_c bI (gH_TK s) k v
  rw [e1] at hP hD
  exact kk H1 locs1 ⟨hP, hD, hS⟩
theorem rH_BM (X : Cx RH g p S m args meth c cc nL ret) (Y : Yw g (wldH g a) A S H locs s) (hdg : decode cc pc = .ok (.getfield 13, 3)) (kk : W p l e R S m args below meth c H locs cells slots Q (F0 m (pc + 3) ls (.ref (a 2) :: rest))) : W p l e R S m args below meth c H locs cells slots Q (F0 m pc ls (.ref (a 0) :: rest)) := va_get (D := g.1) (ci := 0) (v := .ref (a 2)) (C := RH) (T := FH) (N := 14) X.1 X.2.1 X.2.2.2.2.2.1 inH X.2.2.2.2.1 X.2.2.2.2.2.2.1 Y.1 0 rfl rfl 1 (by decide) (X.2.2.2.2.2.1 _ fH_bookmarked) (fun _ h9 => h9) rfl hdg kk
theorem lH_BM (X : Cx own g p S m args meth c cc nL ret) (Y : Yw g (wldH g a) A S H locs s) {k : Nat} (hk : k < 32) (hdg : decode cc pc = .ok (.baload, 1)) (kk : W p l e R S m args below meth c H locs cells slots Q (F0 m (pc + 1) ls (.int (bI (gH_BM s k)) :: rest))) : W p l e R S m args below meth c H locs cells slots Q (F0 m pc ls (.int (nI k) :: .ref (a 2) :: rest)) := by
  refine va_zald (D := g.1) (cl := bw_cl) X.1 X.2.1 X.2.2.2.2.2.2.1 Y.1 2 0 (cA := g.2.1) (n := 32) (f := fun j => bI (gH_BM s j)) rfl rfl (vp_in_nI hk (by omega)) hdg ?_
  rw [nI_clamp (by omega)]
  exact kk
theorem sH_BM (X : Cx own g p S m args meth c cc nL ret) (Y : Yw g (wldH g a) A S H locs s) {k : Nat} {x : Int32} (v : Bool) (hv : x = bI (v)) (hk : k < 32) (hdg : decode cc pc = .ok (.bastore, 1)) (kk : ∀ (H : Heap) (locs : List Loc), Yw g (wldH g a) A S H locs (uH_BM s k v) → W p l e R S m args below meth c H locs cells slots Q (F0 m (pc + 1) ls rest)) : W p l e R S m args below meth c H locs cells slots Q (F0 m pc ls (.int x :: .int (nI k) :: .ref (a 2) :: rest)) := by
  rw [hv]
  refine va_zast (D := g.1) (cl := bw_cl) X.1 X.2.1 X.2.2.2.2.2.2.1 Y.1 Y.2.1 Y.2.2 2 0 (cA := g.2.1) (n := 32) (f := fun j => bI (gH_BM s j)) rfl rfl (vp_in_nI hk (by omega)) hdg (fun H1 locs1 hP hD hS => ?_)
  have e1 : upd (fun j => bI (gH_BM s j)) (nI k).toNatClampNeg (vp_nar .boolean (bI v)) = fun j => bI (va_up (gH_BM s) k v j) := by
    rw [nI_clamp (by omega), bI_vn]
    exact up_c bI (gH_BM s) k v
  rw [e1] at hP hD
  exact kk H1 locs1 ⟨hP, hD, hS⟩
theorem rH_VA (X : Cx RH g p S m args meth c cc nL ret) (Y : Yw g (wldH g a) A S H locs s) (hdg : decode cc pc = .ok (.getfield 16, 3)) (kk : W p l e R S m args below meth c H locs cells slots Q (F0 m (pc + 3) ls (.ref (a 3) :: rest))) : W p l e R S m args below meth c H locs cells slots Q (F0 m pc ls (.ref (a 0) :: rest)) := va_get (D := g.1) (ci := 0) (v := .ref (a 3)) (C := RH) (T := FH) (N := 14) X.1 X.2.1 X.2.2.2.2.2.1 inH X.2.2.2.2.1 X.2.2.2.2.2.2.1 Y.1 0 rfl rfl 2 (by decide) (X.2.2.2.2.2.1 _ fH_values) (fun _ h9 => h9) rfl hdg kk
theorem lH_VA (X : Cx own g p S m args meth c cc nL ret) (Y : Yw g (wldH g a) A S H locs s) {k : Nat} (hk : k < 32) (hdg : decode cc pc = .ok (.iaload, 1)) (kk : W p l e R S m args below meth c H locs cells slots Q (F0 m (pc + 1) ls (.int (gH_VA s k) :: rest))) : W p l e R S m args below meth c H locs cells slots Q (F0 m pc ls (.int (nI k) :: .ref (a 3) :: rest)) := by
  refine va_iald (D := g.1) (cl := bw_cl) X.1 X.2.1 X.2.2.2.2.2.2.1 Y.1 3 1 (cA := g.2.2.1) (n := 32) (f := fun j => gH_VA s j) rfl rfl (vp_in_nI hk (by omega)) hdg ?_
  rw [nI_clamp (by omega)]
  exact kk
theorem sH_VA (X : Cx own g p S m args meth c cc nL ret) (Y : Yw g (wldH g a) A S H locs s) {k : Nat} {x : Int32} (v : Int32) (hv : x = v) (hk : k < 32) (hdg : decode cc pc = .ok (.iastore, 1)) (kk : ∀ (H : Heap) (locs : List Loc), Yw g (wldH g a) A S H locs (uH_VA s k v) → W p l e R S m args below meth c H locs cells slots Q (F0 m (pc + 1) ls rest)) : W p l e R S m args below meth c H locs cells slots Q (F0 m pc ls (.int x :: .int (nI k) :: .ref (a 3) :: rest)) := by
  rw [hv]
  refine va_iast (D := g.1) (cl := bw_cl) X.1 X.2.1 X.2.2.2.2.2.2.1 Y.1 Y.2.1 Y.2.2 3 1 (cA := g.2.2.1) (n := 32) (f := fun j => gH_VA s j) rfl rfl (vp_in_nI hk (by omega)) hdg (fun H1 locs1 hP hD hS => ?_)
  have e1 : upd (fun j => gH_VA s j) (nI k).toNatClampNeg (v) = fun j => va_up (gH_VA s) k v j := by
    rw [nI_clamp (by omega)]
    exact up_c (fun z => z) (gH_VA s) k v
  rw [e1] at hP hD
  exact kk H1 locs1 ⟨hP, hD, hS⟩
theorem rH_FD (X : Cx RH g p S m args meth c cc nL ret) (Y : Yw g (wldH g a) A S H locs s) (hdg : decode cc pc = .ok (.getfield 20, 3)) (kk : W p l e R S m args below meth c H locs cells slots Q (F0 m (pc + 3) ls (.ref (a 4) :: rest))) : W p l e R S m args below meth c H locs cells slots Q (F0 m pc ls (.ref (a 0) :: rest)) := va_get (D := g.1) (ci := 0) (v := .ref (a 4)) (C := RH) (T := FH) (N := 14) X.1 X.2.1 X.2.2.2.2.2.1 inH X.2.2.2.2.1 X.2.2.2.2.2.2.1 Y.1 0 rfl rfl 3 (by decide) (X.2.2.2.2.2.1 _ fH_fields) (fun _ h9 => h9) rfl hdg kk
theorem lH_FD (X : Cx own g p S m args meth c cc nL ret) (Y : Yw g (wldH g a) A S H locs s) {k : Nat} (hk : k < 64) (hdg : decode cc pc = .ok (.iaload, 1)) (kk : W p l e R S m args below meth c H locs cells slots Q (F0 m (pc + 1) ls (.int (oI (gH_FD s k)) :: rest))) : W p l e R S m args below meth c H locs cells slots Q (F0 m pc ls (.int (nI k) :: .ref (a 4) :: rest)) := by
  refine va_iald (D := g.1) (cl := bw_cl) X.1 X.2.1 X.2.2.2.2.2.2.1 Y.1 4 1 (cA := g.2.2.1) (n := 64) (f := fun j => oI (gH_FD s j)) rfl rfl (vp_in_nI hk (by omega)) hdg ?_
  rw [nI_clamp (by omega)]
  exact kk
theorem sH_FD (X : Cx own g p S m args meth c cc nL ret) (Y : Yw g (wldH g a) A S H locs s) {k : Nat} {x : Int32} (v : Option (Fin 32)) (hv : x = oI (v)) (hk : k < 64) (hdg : decode cc pc = .ok (.iastore, 1)) (kk : ∀ (H : Heap) (locs : List Loc), Yw g (wldH g a) A S H locs (uH_FD s k v) → W p l e R S m args below meth c H locs cells slots Q (F0 m (pc + 1) ls rest)) : W p l e R S m args below meth c H locs cells slots Q (F0 m pc ls (.int x :: .int (nI k) :: .ref (a 4) :: rest)) := by
  rw [hv]
  refine va_iast (D := g.1) (cl := bw_cl) X.1 X.2.1 X.2.2.2.2.2.2.1 Y.1 Y.2.1 Y.2.2 4 1 (cA := g.2.2.1) (n := 64) (f := fun j => oI (gH_FD s j)) rfl rfl (vp_in_nI hk (by omega)) hdg (fun H1 locs1 hP hD hS => ?_)
  have e1 : upd (fun j => oI (gH_FD s j)) (nI k).toNatClampNeg (oI (v)) = fun j => oI (va_up (gH_FD s) k v j) := by
    rw [nI_clamp (by omega)]
    exact up_c oI (gH_FD s) k v
  rw [e1] at hP hD
  exact kk H1 locs1 ⟨hP, hD, hS⟩
theorem rH_RG (X : Cx RH g p S m args meth c cc nL ret) (Y : Yw g (wldH g a) A S H locs s) (hdg : decode cc pc = .ok (.getfield 23, 3)) (kk : W p l e R S m args below meth c H locs cells slots Q (F0 m (pc + 3) ls (.ref (a 5) :: rest))) : W p l e R S m args below meth c H locs cells slots Q (F0 m pc ls (.ref (a 0) :: rest)) := va_get (D := g.1) (ci := 0) (v := .ref (a 5)) (C := RH) (T := FH) (N := 14) X.1 X.2.1 X.2.2.2.2.2.1 inH X.2.2.2.2.1 X.2.2.2.2.2.2.1 Y.1 0 rfl rfl 4 (by decide) (X.2.2.2.2.2.1 _ fH_registers) (fun _ h9 => h9) rfl hdg kk
theorem lH_RG (X : Cx own g p S m args meth c cc nL ret) (Y : Yw g (wldH g a) A S H locs s) {k : Nat} (hk : k < 4) (hdg : decode cc pc = .ok (.iaload, 1)) (kk : W p l e R S m args below meth c H locs cells slots Q (F0 m (pc + 1) ls (.int (oI (gH_RG s k)) :: rest))) : W p l e R S m args below meth c H locs cells slots Q (F0 m pc ls (.int (nI k) :: .ref (a 5) :: rest)) := by
  refine va_iald (D := g.1) (cl := bw_cl) X.1 X.2.1 X.2.2.2.2.2.2.1 Y.1 5 1 (cA := g.2.2.1) (n := 4) (f := fun j => oI (gH_RG s j)) rfl rfl (vp_in_nI hk (by omega)) hdg ?_
  rw [nI_clamp (by omega)]
  exact kk
theorem sH_RG (X : Cx own g p S m args meth c cc nL ret) (Y : Yw g (wldH g a) A S H locs s) {k : Nat} {x : Int32} (v : Option (Fin 32)) (hv : x = oI (v)) (hk : k < 4) (hdg : decode cc pc = .ok (.iastore, 1)) (kk : ∀ (H : Heap) (locs : List Loc), Yw g (wldH g a) A S H locs (uH_RG s k v) → W p l e R S m args below meth c H locs cells slots Q (F0 m (pc + 1) ls rest)) : W p l e R S m args below meth c H locs cells slots Q (F0 m pc ls (.int x :: .int (nI k) :: .ref (a 5) :: rest)) := by
  rw [hv]
  refine va_iast (D := g.1) (cl := bw_cl) X.1 X.2.1 X.2.2.2.2.2.2.1 Y.1 Y.2.1 Y.2.2 5 1 (cA := g.2.2.1) (n := 4) (f := fun j => oI (gH_RG s j)) rfl rfl (vp_in_nI hk (by omega)) hdg (fun H1 locs1 hP hD hS => ?_)
  have e1 : upd (fun j => oI (gH_RG s j)) (nI k).toNatClampNeg (oI (v)) = fun j => oI (va_up (gH_RG s) k v j) := by
    rw [nI_clamp (by omega)]
    exact up_c oI (gH_RG s) k v
  rw [e1] at hP hD
  exact kk H1 locs1 ⟨hP, hD, hS⟩
theorem rH_ST (X : Cx RH g p S m args meth c cc nL ret) (Y : Yw g (wldH g a) A S H locs s) (hdg : decode cc pc = .ok (.getfield 26, 3)) (kk : W p l e R S m args below meth c H locs cells slots Q (F0 m (pc + 3) ls (.ref (a 6) :: rest))) : W p l e R S m args below meth c H locs cells slots Q (F0 m pc ls (.ref (a 0) :: rest)) := va_get (D := g.1) (ci := 0) (v := .ref (a 6)) (C := RH) (T := FH) (N := 14) X.1 X.2.1 X.2.2.2.2.2.1 inH X.2.2.2.2.1 X.2.2.2.2.2.2.1 Y.1 0 rfl rfl 5 (by decide) (X.2.2.2.2.2.1 _ fH_states) (fun _ h9 => h9) rfl hdg kk
theorem lH_ST (X : Cx own g p S m args meth c cc nL ret) (Y : Yw g (wldH g a) A S H locs s) {k : Nat} (hk : k < 8) (hdg : decode cc pc = .ok (.iaload, 1)) (kk : W p l e R S m args below meth c H locs cells slots Q (F0 m (pc + 1) ls (.int (nI (gH_ST s k).val) :: rest))) : W p l e R S m args below meth c H locs cells slots Q (F0 m pc ls (.int (nI k) :: .ref (a 6) :: rest)) := by
  refine va_iald (D := g.1) (cl := bw_cl) X.1 X.2.1 X.2.2.2.2.2.2.1 Y.1 6 1 (cA := g.2.2.1) (n := 8) (f := fun j => nI (gH_ST s j).val) rfl rfl (vp_in_nI hk (by omega)) hdg ?_
  rw [nI_clamp (by omega)]
  exact kk
theorem sH_ST (X : Cx own g p S m args meth c cc nL ret) (Y : Yw g (wldH g a) A S H locs s) {k : Nat} {x : Int32} (v : Fin 3) (hv : x = nI (v).val) (hk : k < 8) (hdg : decode cc pc = .ok (.iastore, 1)) (kk : ∀ (H : Heap) (locs : List Loc), Yw g (wldH g a) A S H locs (uH_ST s k v) → W p l e R S m args below meth c H locs cells slots Q (F0 m (pc + 1) ls rest)) : W p l e R S m args below meth c H locs cells slots Q (F0 m pc ls (.int x :: .int (nI k) :: .ref (a 6) :: rest)) := by
  rw [hv]
  refine va_iast (D := g.1) (cl := bw_cl) X.1 X.2.1 X.2.2.2.2.2.2.1 Y.1 Y.2.1 Y.2.2 6 1 (cA := g.2.2.1) (n := 8) (f := fun j => nI (gH_ST s j).val) rfl rfl (vp_in_nI hk (by omega)) hdg (fun H1 locs1 hP hD hS => ?_)
  have e1 : upd (fun j => nI (gH_ST s j).val) (nI k).toNatClampNeg (nI (v).val) = fun j => nI (va_up (gH_ST s) k v j).val := by
    rw [nI_clamp (by omega)]
    exact up_c (fun z : Fin 3 => nI z.val) (gH_ST s) k v
  rw [e1] at hP hD
  exact kk H1 locs1 ⟨hP, hD, hS⟩
theorem rH_US (X : Cx RH g p S m args meth c cc nL ret) (Y : Yw g (wldH g a) A S H locs s) (hdg : decode cc pc = .ok (.getfield 29, 3)) (kk : W p l e R S m args below meth c H locs cells slots Q (F0 m (pc + 3) ls (.ref (a 7) :: rest))) : W p l e R S m args below meth c H locs cells slots Q (F0 m pc ls (.ref (a 0) :: rest)) := va_get (D := g.1) (ci := 0) (v := .ref (a 7)) (C := RH) (T := FH) (N := 14) X.1 X.2.1 X.2.2.2.2.2.1 inH X.2.2.2.2.1 X.2.2.2.2.2.2.1 Y.1 0 rfl rfl 6 (by decide) (X.2.2.2.2.2.1 _ fH_used) (fun _ h9 => h9) rfl hdg kk
theorem lH_US (X : Cx own g p S m args meth c cc nL ret) (Y : Yw g (wldH g a) A S H locs s) {k : Nat} (hk : k < 8) (hdg : decode cc pc = .ok (.baload, 1)) (kk : W p l e R S m args below meth c H locs cells slots Q (F0 m (pc + 1) ls (.int (bI (gH_US s k)) :: rest))) : W p l e R S m args below meth c H locs cells slots Q (F0 m pc ls (.int (nI k) :: .ref (a 7) :: rest)) := by
  refine va_zald (D := g.1) (cl := bw_cl) X.1 X.2.1 X.2.2.2.2.2.2.1 Y.1 7 0 (cA := g.2.1) (n := 8) (f := fun j => bI (gH_US s j)) rfl rfl (vp_in_nI hk (by omega)) hdg ?_
  rw [nI_clamp (by omega)]
  exact kk
theorem sH_US (X : Cx own g p S m args meth c cc nL ret) (Y : Yw g (wldH g a) A S H locs s) {k : Nat} {x : Int32} (v : Bool) (hv : x = bI (v)) (hk : k < 8) (hdg : decode cc pc = .ok (.bastore, 1)) (kk : ∀ (H : Heap) (locs : List Loc), Yw g (wldH g a) A S H locs (uH_US s k v) → W p l e R S m args below meth c H locs cells slots Q (F0 m (pc + 1) ls rest)) : W p l e R S m args below meth c H locs cells slots Q (F0 m pc ls (.int x :: .int (nI k) :: .ref (a 7) :: rest)) := by
  rw [hv]
  refine va_zast (D := g.1) (cl := bw_cl) X.1 X.2.1 X.2.2.2.2.2.2.1 Y.1 Y.2.1 Y.2.2 7 0 (cA := g.2.1) (n := 8) (f := fun j => bI (gH_US s j)) rfl rfl (vp_in_nI hk (by omega)) hdg (fun H1 locs1 hP hD hS => ?_)
  have e1 : upd (fun j => bI (gH_US s j)) (nI k).toNatClampNeg (vp_nar .boolean (bI v)) = fun j => bI (va_up (gH_US s) k v j) := by
    rw [nI_clamp (by omega), bI_vn]
    exact up_c bI (gH_US s) k v
  rw [e1] at hP hD
  exact kk H1 locs1 ⟨hP, hD, hS⟩
theorem rH_CT (X : Cx RH g p S m args meth c cc nL ret) (Y : Yw g (wldH g a) A S H locs s) (hdg : decode cc pc = .ok (.getfield 32, 3)) (kk : W p l e R S m args below meth c H locs cells slots Q (F0 m (pc + 3) ls (.ref (a 8) :: rest))) : W p l e R S m args below meth c H locs cells slots Q (F0 m pc ls (.ref (a 0) :: rest)) := va_get (D := g.1) (ci := 0) (v := .ref (a 8)) (C := RH) (T := FH) (N := 14) X.1 X.2.1 X.2.2.2.2.2.1 inH X.2.2.2.2.1 X.2.2.2.2.2.2.1 Y.1 0 rfl rfl 7 (by decide) (X.2.2.2.2.2.1 _ fH_counts) (fun _ h9 => h9) rfl hdg kk
theorem lH_CT (X : Cx own g p S m args meth c cc nL ret) (Y : Yw g (wldH g a) A S H locs s) {k : Nat} (hk : k < 8) (hdg : decode cc pc = .ok (.iaload, 1)) (kk : W p l e R S m args below meth c H locs cells slots Q (F0 m (pc + 1) ls (.int (gH_CT s k) :: rest))) : W p l e R S m args below meth c H locs cells slots Q (F0 m pc ls (.int (nI k) :: .ref (a 8) :: rest)) := by
  refine va_iald (D := g.1) (cl := bw_cl) X.1 X.2.1 X.2.2.2.2.2.2.1 Y.1 8 1 (cA := g.2.2.1) (n := 8) (f := fun j => gH_CT s j) rfl rfl (vp_in_nI hk (by omega)) hdg ?_
  rw [nI_clamp (by omega)]
  exact kk
theorem sH_CT (X : Cx own g p S m args meth c cc nL ret) (Y : Yw g (wldH g a) A S H locs s) {k : Nat} {x : Int32} (v : Int32) (hv : x = v) (hk : k < 8) (hdg : decode cc pc = .ok (.iastore, 1)) (kk : ∀ (H : Heap) (locs : List Loc), Yw g (wldH g a) A S H locs (uH_CT s k v) → W p l e R S m args below meth c H locs cells slots Q (F0 m (pc + 1) ls rest)) : W p l e R S m args below meth c H locs cells slots Q (F0 m pc ls (.int x :: .int (nI k) :: .ref (a 8) :: rest)) := by
  rw [hv]
  refine va_iast (D := g.1) (cl := bw_cl) X.1 X.2.1 X.2.2.2.2.2.2.1 Y.1 Y.2.1 Y.2.2 8 1 (cA := g.2.2.1) (n := 8) (f := fun j => gH_CT s j) rfl rfl (vp_in_nI hk (by omega)) hdg (fun H1 locs1 hP hD hS => ?_)
  have e1 : upd (fun j => gH_CT s j) (nI k).toNatClampNeg (v) = fun j => va_up (gH_CT s) k v j := by
    rw [nI_clamp (by omega)]
    exact up_c (fun z => z) (gH_CT s) k v
  rw [e1] at hP hD
  exact kk H1 locs1 ⟨hP, hD, hS⟩
theorem rH_KP (X : Cx RH g p S m args meth c cc nL ret) (Y : Yw g (wldH g a) A S H locs s) (hdg : decode cc pc = .ok (.getfield 35, 3)) (kk : W p l e R S m args below meth c H locs cells slots Q (F0 m (pc + 3) ls (.ref (a 9) :: rest))) : W p l e R S m args below meth c H locs cells slots Q (F0 m pc ls (.ref (a 0) :: rest)) := va_get (D := g.1) (ci := 0) (v := .ref (a 9)) (C := RH) (T := FH) (N := 14) X.1 X.2.1 X.2.2.2.2.2.1 inH X.2.2.2.2.1 X.2.2.2.2.2.2.1 Y.1 0 rfl rfl 8 (by decide) (X.2.2.2.2.2.1 _ fH_kept) (fun _ h9 => h9) rfl hdg kk
theorem lH_KP (X : Cx own g p S m args meth c cc nL ret) (Y : Yw g (wldH g a) A S H locs s) {k : Nat} (hk : k < 32) (hdg : decode cc pc = .ok (.baload, 1)) (kk : W p l e R S m args below meth c H locs cells slots Q (F0 m (pc + 1) ls (.int (bI (gH_KP s k)) :: rest))) : W p l e R S m args below meth c H locs cells slots Q (F0 m pc ls (.int (nI k) :: .ref (a 9) :: rest)) := by
  refine va_zald (D := g.1) (cl := bw_cl) X.1 X.2.1 X.2.2.2.2.2.2.1 Y.1 9 0 (cA := g.2.1) (n := 32) (f := fun j => bI (gH_KP s j)) rfl rfl (vp_in_nI hk (by omega)) hdg ?_
  rw [nI_clamp (by omega)]
  exact kk
theorem sH_KP (X : Cx own g p S m args meth c cc nL ret) (Y : Yw g (wldH g a) A S H locs s) {k : Nat} {x : Int32} (v : Bool) (hv : x = bI (v)) (hk : k < 32) (hdg : decode cc pc = .ok (.bastore, 1)) (kk : ∀ (H : Heap) (locs : List Loc), Yw g (wldH g a) A S H locs (uH_KP s k v) → W p l e R S m args below meth c H locs cells slots Q (F0 m (pc + 1) ls rest)) : W p l e R S m args below meth c H locs cells slots Q (F0 m pc ls (.int x :: .int (nI k) :: .ref (a 9) :: rest)) := by
  rw [hv]
  refine va_zast (D := g.1) (cl := bw_cl) X.1 X.2.1 X.2.2.2.2.2.2.1 Y.1 Y.2.1 Y.2.2 9 0 (cA := g.2.1) (n := 32) (f := fun j => bI (gH_KP s j)) rfl rfl (vp_in_nI hk (by omega)) hdg (fun H1 locs1 hP hD hS => ?_)
  have e1 : upd (fun j => bI (gH_KP s j)) (nI k).toNatClampNeg (vp_nar .boolean (bI v)) = fun j => bI (va_up (gH_KP s) k v j) := by
    rw [nI_clamp (by omega), bI_vn]
    exact up_c bI (gH_KP s) k v
  rw [e1] at hP hD
  exact kk H1 locs1 ⟨hP, hD, hS⟩
theorem rH_KL (X : Cx RH g p S m args meth c cc nL ret) (Y : Yw g (wldH g a) A S H locs s) (hdg : decode cc pc = .ok (.getfield 38, 3)) (kk : W p l e R S m args below meth c H locs cells slots Q (F0 m (pc + 3) ls (.ref (a 10) :: rest))) : W p l e R S m args below meth c H locs cells slots Q (F0 m pc ls (.ref (a 0) :: rest)) := va_get (D := g.1) (ci := 0) (v := .ref (a 10)) (C := RH) (T := FH) (N := 14) X.1 X.2.1 X.2.2.2.2.2.1 inH X.2.2.2.2.1 X.2.2.2.2.2.2.1 Y.1 0 rfl rfl 9 (by decide) (X.2.2.2.2.2.1 _ fH_keptPlaces) (fun _ h9 => h9) rfl hdg kk
theorem lH_KL (X : Cx own g p S m args meth c cc nL ret) (Y : Yw g (wldH g a) A S H locs s) {k : Nat} (hk : k < 32) (hdg : decode cc pc = .ok (.iaload, 1)) (kk : W p l e R S m args below meth c H locs cells slots Q (F0 m (pc + 1) ls (.int (nI (gH_KL s k).val) :: rest))) : W p l e R S m args below meth c H locs cells slots Q (F0 m pc ls (.int (nI k) :: .ref (a 10) :: rest)) := by
  refine va_iald (D := g.1) (cl := bw_cl) X.1 X.2.1 X.2.2.2.2.2.2.1 Y.1 10 1 (cA := g.2.2.1) (n := 32) (f := fun j => nI (gH_KL s j).val) rfl rfl (vp_in_nI hk (by omega)) hdg ?_
  rw [nI_clamp (by omega)]
  exact kk
theorem sH_KL (X : Cx own g p S m args meth c cc nL ret) (Y : Yw g (wldH g a) A S H locs s) {k : Nat} {x : Int32} (v : Fin 32) (hv : x = nI (v).val) (hk : k < 32) (hdg : decode cc pc = .ok (.iastore, 1)) (kk : ∀ (H : Heap) (locs : List Loc), Yw g (wldH g a) A S H locs (uH_KL s k v) → W p l e R S m args below meth c H locs cells slots Q (F0 m (pc + 1) ls rest)) : W p l e R S m args below meth c H locs cells slots Q (F0 m pc ls (.int x :: .int (nI k) :: .ref (a 10) :: rest)) := by
  rw [hv]
  refine va_iast (D := g.1) (cl := bw_cl) X.1 X.2.1 X.2.2.2.2.2.2.1 Y.1 Y.2.1 Y.2.2 10 1 (cA := g.2.2.1) (n := 32) (f := fun j => nI (gH_KL s j).val) rfl rfl (vp_in_nI hk (by omega)) hdg (fun H1 locs1 hP hD hS => ?_)
  have e1 : upd (fun j => nI (gH_KL s j).val) (nI k).toNatClampNeg (nI (v).val) = fun j => nI (va_up (gH_KL s) k v j).val := by
    rw [nI_clamp (by omega)]
    exact up_c (fun z : Fin 32 => nI z.val) (gH_KL s) k v
  rw [e1] at hP hD
  exact kk H1 locs1 ⟨hP, hD, hS⟩
theorem rH_KS (X : Cx RH g p S m args meth c cc nL ret) (Y : Yw g (wldH g a) A S H locs s) (hdg : decode cc pc = .ok (.getfield 159, 3)) (kk : W p l e R S m args below meth c H locs cells slots Q (F0 m (pc + 3) ls (.int (nI (gH_KS s)) :: rest))) : W p l e R S m args below meth c H locs cells slots Q (F0 m pc ls (.ref (a 0) :: rest)) := va_get (D := g.1) (ci := 0) (v := .int (nI (gH_KS s))) (C := RH) (T := FH) (N := 14) X.1 X.2.1 X.2.2.2.2.2.1 inH X.2.2.2.2.1 X.2.2.2.2.2.2.1 Y.1 0 rfl rfl 10 (by decide) (X.2.2.2.2.2.1 _ fH_keptSize) (fun _ h9 => h9) rfl hdg kk
theorem pH_KS (X : Cx RH g p S m args meth c cc nL ret) (Y : Yw g (wldH g a) A S H locs s) {x : Int32} (v : Nat) (hv : x = nI (v)) (hdg : decode cc pc = .ok (.putfield 159, 3)) (kk : ∀ (H : Heap) (locs : List Loc), Yw g (wldH g a) A S H locs (uH_KS s v) → W p l e R S m args below meth c H locs cells slots Q (F0 m (pc + 3) ls rest)) : W p l e R S m args below meth c H locs cells slots Q (F0 m pc ls (.int x :: .ref (a 0) :: rest)) := by
  rw [hv]
  exact va_put (D := g.1) (ci := 0) (v := .int (nI (v))) (ty := .int) (C := RH) (T := FH) (N := 14) X.1 X.2.1 X.2.2.2.2.2.1 inH tH tH_ok nH X.2.2.2.2.1 X.2.2.2.2.2.2.1 Y.1 Y.2.1 Y.2.2 0 rfl rfl 10 (by decide) (X.2.2.2.2.2.1 _ fH_keptSize) (fun _ h9 => h9) rfl (by decide +kernel) rfl rfl (Nat.le_of_ble_eq_true rfl) hdg (fun H1 locs1 hP hD hS => kk H1 locs1 ⟨hP, hD, hS⟩)
theorem rH_BU (X : Cx RH g p S m args meth c cc nL ret) (Y : Yw g (wldH g a) A S H locs s) (hdg : decode cc pc = .ok (.getfield 47, 3)) (kk : W p l e R S m args below meth c H locs cells slots Q (F0 m (pc + 3) ls (.int (nI (gH_BU s).val) :: rest))) : W p l e R S m args below meth c H locs cells slots Q (F0 m pc ls (.ref (a 0) :: rest)) := va_get (D := g.1) (ci := 0) (v := .int (nI (gH_BU s).val)) (C := RH) (T := FH) (N := 14) X.1 X.2.1 X.2.2.2.2.2.1 inH X.2.2.2.2.1 X.2.2.2.2.2.2.1 Y.1 0 rfl rfl 11 (by decide) (X.2.2.2.2.2.1 _ fH_pagesAllowed) (fun _ h9 => h9) rfl hdg kk
theorem pH_BU (X : Cx RH g p S m args meth c cc nL ret) (Y : Yw g (wldH g a) A S H locs s) {x : Int32} (v : Fin 9) (hv : x = nI (v).val) (hdg : decode cc pc = .ok (.putfield 47, 3)) (kk : ∀ (H : Heap) (locs : List Loc), Yw g (wldH g a) A S H locs (uH_BU s v) → W p l e R S m args below meth c H locs cells slots Q (F0 m (pc + 3) ls rest)) : W p l e R S m args below meth c H locs cells slots Q (F0 m pc ls (.int x :: .ref (a 0) :: rest)) := by
  rw [hv]
  exact va_put (D := g.1) (ci := 0) (v := .int (nI (v).val)) (ty := .int) (C := RH) (T := FH) (N := 14) X.1 X.2.1 X.2.2.2.2.2.1 inH tH tH_ok nH X.2.2.2.2.1 X.2.2.2.2.2.2.1 Y.1 Y.2.1 Y.2.2 0 rfl rfl 11 (by decide) (X.2.2.2.2.2.1 _ fH_pagesAllowed) (fun _ h9 => h9) rfl (by decide +kernel) rfl rfl (Nat.le_of_ble_eq_true rfl) hdg (fun H1 locs1 hP hD hS => kk H1 locs1 ⟨hP, hD, hS⟩)
theorem rH_FA (X : Cx RH g p S m args meth c cc nL ret) (Y : Yw g (wldH g a) A S H locs s) (hdg : decode cc pc = .ok (.getfield 86, 3)) (kk : W p l e R S m args below meth c H locs cells slots Q (F0 m (pc + 3) ls (.int (gH_FA s) :: rest))) : W p l e R S m args below meth c H locs cells slots Q (F0 m pc ls (.ref (a 0) :: rest)) := va_get (D := g.1) (ci := 0) (v := .int (gH_FA s)) (C := RH) (T := FH) (N := 14) X.1 X.2.1 X.2.2.2.2.2.1 inH X.2.2.2.2.1 X.2.2.2.2.2.2.1 Y.1 0 rfl rfl 12 (by decide) (X.2.2.2.2.2.1 _ fH_faultsSoFar) (fun _ h9 => h9) rfl hdg kk
theorem pH_FA (X : Cx RH g p S m args meth c cc nL ret) (Y : Yw g (wldH g a) A S H locs s) {x : Int32} (v : Int32) (hv : x = v) (hdg : decode cc pc = .ok (.putfield 86, 3)) (kk : ∀ (H : Heap) (locs : List Loc), Yw g (wldH g a) A S H locs (uH_FA s v) → W p l e R S m args below meth c H locs cells slots Q (F0 m (pc + 3) ls rest)) : W p l e R S m args below meth c H locs cells slots Q (F0 m pc ls (.int x :: .ref (a 0) :: rest)) := by
  rw [hv]
  exact va_put (D := g.1) (ci := 0) (v := .int (v)) (ty := .int) (C := RH) (T := FH) (N := 14) X.1 X.2.1 X.2.2.2.2.2.1 inH tH tH_ok nH X.2.2.2.2.1 X.2.2.2.2.2.2.1 Y.1 Y.2.1 Y.2.2 0 rfl rfl 12 (by decide) (X.2.2.2.2.2.1 _ fH_faultsSoFar) (fun _ h9 => h9) rfl (by decide +kernel) rfl rfl (Nat.le_of_ble_eq_true rfl) hdg (fun H1 locs1 hP hD hS => kk H1 locs1 ⟨hP, hD, hS⟩)
theorem rH_HA (X : Cx RH g p S m args meth c cc nL ret) (Y : Yw g (wldH g a) A S H locs s) (hdg : decode cc pc = .ok (.getfield 104, 3)) (kk : W p l e R S m args below meth c H locs cells slots Q (F0 m (pc + 3) ls (.int (nI (gH_HA s).val) :: rest))) : W p l e R S m args below meth c H locs cells slots Q (F0 m pc ls (.ref (a 0) :: rest)) := va_get (D := g.1) (ci := 0) (v := .int (nI (gH_HA s).val)) (C := RH) (T := FH) (N := 14) X.1 X.2.1 X.2.2.2.2.2.1 inH X.2.2.2.2.1 X.2.2.2.2.2.2.1 Y.1 0 rfl rfl 13 (by decide) (X.2.2.2.2.2.1 _ fH_handPage) (fun _ h9 => h9) rfl hdg kk
theorem pH_HA (X : Cx RH g p S m args meth c cc nL ret) (Y : Yw g (wldH g a) A S H locs s) {x : Int32} (v : Fin 8) (hv : x = nI (v).val) (hdg : decode cc pc = .ok (.putfield 104, 3)) (kk : ∀ (H : Heap) (locs : List Loc), Yw g (wldH g a) A S H locs (uH_HA s v) → W p l e R S m args below meth c H locs cells slots Q (F0 m (pc + 3) ls rest)) : W p l e R S m args below meth c H locs cells slots Q (F0 m pc ls (.int x :: .ref (a 0) :: rest)) := by
  rw [hv]
  exact va_put (D := g.1) (ci := 0) (v := .int (nI (v).val)) (ty := .int) (C := RH) (T := FH) (N := 14) X.1 X.2.1 X.2.2.2.2.2.1 inH tH tH_ok nH X.2.2.2.2.1 X.2.2.2.2.2.2.1 Y.1 Y.2.1 Y.2.2 0 rfl rfl 13 (by decide) (X.2.2.2.2.2.1 _ fH_handPage) (fun _ h9 => h9) rfl (by decide +kernel) rfl rfl (Nat.le_of_ble_eq_true rfl) hdg (fun H1 locs1 hP hD hS => kk H1 locs1 ⟨hP, hD, hS⟩)
end WH
