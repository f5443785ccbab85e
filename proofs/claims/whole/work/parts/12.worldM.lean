/-! the world of class M: written by wip/whole/world.py -/
abbrev MS : Type := (Nat → Bool) × (Nat → Int32) × (Nat → Option (Fin 32)) × (Nat → Bool) × (Nat → Bool) × (Nat → Fin 3) × (Nat → Bool) × (Nat → Option (Fin 32)) × (Fin 9) × (Fin 8) × Int32 × Int32
def gM_TH (s : MS) : Nat → Bool := s.1
def uM_TH (s : MS) (k : Nat) (v : Bool) : MS := (va_up s.1 k v, s.2)
def gM_VA (s : MS) : Nat → Int32 := s.2.1
def uM_VA (s : MS) (k : Nat) (v : Int32) : MS := (s.1, va_up s.2.1 k v, s.2.2)
def gM_FD (s : MS) : Nat → Option (Fin 32) := s.2.2.1
def uM_FD (s : MS) (k : Nat) (v : Option (Fin 32)) : MS := (s.1, s.2.1, va_up s.2.2.1 k v, s.2.2.2)
def gM_MK (s : MS) : Nat → Bool := s.2.2.2.1
def uM_MK (s : MS) (k : Nat) (v : Bool) : MS := (s.1, s.2.1, s.2.2.1, va_up s.2.2.2.1 k v, s.2.2.2.2)
def gM_KP (s : MS) : Nat → Bool := s.2.2.2.2.1
def uM_KP (s : MS) (k : Nat) (v : Bool) : MS := (s.1, s.2.1, s.2.2.1, s.2.2.2.1, va_up s.2.2.2.2.1 k v, s.2.2.2.2.2)
def gM_ST (s : MS) : Nat → Fin 3 := s.2.2.2.2.2.1
def uM_ST (s : MS) (k : Nat) (v : Fin 3) : MS := (s.1, s.2.1, s.2.2.1, s.2.2.2.1, s.2.2.2.2.1, va_up s.2.2.2.2.2.1 k v, s.2.2.2.2.2.2)
def gM_US (s : MS) : Nat → Bool := s.2.2.2.2.2.2.1
def uM_US (s : MS) (k : Nat) (v : Bool) : MS := (s.1, s.2.1, s.2.2.1, s.2.2.2.1, s.2.2.2.2.1, s.2.2.2.2.2.1, va_up s.2.2.2.2.2.2.1 k v, s.2.2.2.2.2.2.2)
def gM_RG (s : MS) : Nat → Option (Fin 32) := s.2.2.2.2.2.2.2.1
def uM_RG (s : MS) (k : Nat) (v : Option (Fin 32)) : MS := (s.1, s.2.1, s.2.2.1, s.2.2.2.1, s.2.2.2.2.1, s.2.2.2.2.2.1, s.2.2.2.2.2.2.1, va_up s.2.2.2.2.2.2.2.1 k v, s.2.2.2.2.2.2.2.2)
def gM_BU (s : MS) : Fin 9 := s.2.2.2.2.2.2.2.2.1
def uM_BU (s : MS) (v : Fin 9) : MS := (s.1, s.2.1, s.2.2.1, s.2.2.2.1, s.2.2.2.2.1, s.2.2.2.2.2.1, s.2.2.2.2.2.2.1, s.2.2.2.2.2.2.2.1, v, s.2.2.2.2.2.2.2.2.2)
def gM_HA (s : MS) : Fin 8 := s.2.2.2.2.2.2.2.2.2.1
def uM_HA (s : MS) (v : Fin 8) : MS := (s.1, s.2.1, s.2.2.1, s.2.2.2.1, s.2.2.2.2.1, s.2.2.2.2.2.1, s.2.2.2.2.2.2.1, s.2.2.2.2.2.2.2.1, s.2.2.2.2.2.2.2.2.1, v, s.2.2.2.2.2.2.2.2.2.2)
def gM_FA (s : MS) : Int32 := s.2.2.2.2.2.2.2.2.2.2.1
def uM_FA (s : MS) (v : Int32) : MS := (s.1, s.2.1, s.2.2.1, s.2.2.2.1, s.2.2.2.2.1, s.2.2.2.2.2.1, s.2.2.2.2.2.2.1, s.2.2.2.2.2.2.2.1, s.2.2.2.2.2.2.2.2.1, s.2.2.2.2.2.2.2.2.2.1, v, s.2.2.2.2.2.2.2.2.2.2.2)
def gM_TR (s : MS) : Int32 := s.2.2.2.2.2.2.2.2.2.2.2
def uM_TR (s : MS) (v : Int32) : MS := (s.1, s.2.1, s.2.2.1, s.2.2.2.1, s.2.2.2.2.1, s.2.2.2.2.2.1, s.2.2.2.2.2.2.1, s.2.2.2.2.2.2.2.1, s.2.2.2.2.2.2.2.2.1, s.2.2.2.2.2.2.2.2.2.1, s.2.2.2.2.2.2.2.2.2.2.1, v)
def wldM (g : GG) (a : Nat → Nat) (s : MS) : va_W := [(a 0, .inr (1, [.ref (a 1), .ref (a 2), .ref (a 3), .ref (a 4), .ref (a 5), .ref (a 6), .ref (a 7), .ref (a 8), .int (nI (gM_BU s).val), .int (nI (gM_HA s).val), .int (gM_FA s), .int (gM_TR s)])), (a 1, .inl (g.2.1, 32, .inl (fun j => bI (gM_TH s j)))), (a 2, .inl (g.2.2.1, 32, .inl (fun j => gM_VA s j))), (a 3, .inl (g.2.2.1, 64, .inl (fun j => oI (gM_FD s j)))), (a 4, .inl (g.2.1, 32, .inl (fun j => bI (gM_MK s j)))), (a 5, .inl (g.2.1, 32, .inl (fun j => bI (gM_KP s j)))), (a 6, .inl (g.2.2.1, 8, .inl (fun j => nI (gM_ST s j).val))), (a 7, .inl (g.2.1, 8, .inl (fun j => bI (gM_US s j)))), (a 8, .inl (g.2.2.1, 4, .inl (fun j => oI (gM_RG s j))))]
def adM (a : Nat → Nat) : Nat → Prop := fun q => ∃ k, k < 9 ∧ q = a k
def apM (a : Nat → Nat) : Prop := ∀ i j, i < 9 → j < 9 → a i = a j → i = j
theorem wldM_at {g : GG} {a : Nat → Nat} {s : MS} {k : Nat} {q : Nat × va_E} (h : (wldM g a s)[k]? = some q) : k < 9 ∧ q.1 = a k := by
  have hk : k < 9 := (List.getElem?_eq_some_iff.mp h).1
  have h1 : ((wldM g a s).map (fun z => z.1))[k]? = some q.1 := by rw [List.getElem?_map, h]; rfl
  have h2 : (wldM g a s).map (fun z => z.1) = [a 0, a 1, a 2, a 3, a 4, a 5, a 6, a 7, a 8] := rfl
  rw [h2] at h1
  refine ⟨hk, ?_⟩
  rcases (show k = 0 ∨ k = 1 ∨ k = 2 ∨ k = 3 ∨ k = 4 ∨ k = 5 ∨ k = 6 ∨ k = 7 ∨ k = 8 by omega) with rfl | rfl | rfl | rfl | rfl | rfl | rfl | rfl | rfl <;> exact (Option.some.inj h1).symm
theorem wldM_D {g : GG} {a : Nat → Nat} (ha : apM a) : ∀ s, va_D (adM a) (wldM g a s) := fun s =>
  ⟨fun i j p q hp hq hpq => by
    obtain ⟨h1, h2⟩ := wldM_at hp
    obtain ⟨h3, h4⟩ := wldM_at hq
    exact ha i j h1 h3 (by rw [← h2, ← h4]; exact hpq), fun k q hq => by
    obtain ⟨h1, h2⟩ := wldM_at hq
    exact ⟨k, h1, h2⟩⟩
section WM
variable {p : Program} {l : Launch} {e : Env} {R : Room} {S : State} {m : MethodId} {args : Array Value} {below : List Frame} {meth : Method} {c : Code} {H : Heap} {locs : List Loc} {cells slots : Nat} {Q : State → Prop}
variable {cc : ByteArray} {pc : Nat} {ls : Array Slot} {rest : List Value} {g : GG} {a : Nat → Nat} {A : Nat → Prop} {s : MS} {nL : Nat} {ret : Option FieldType} {own : String}
theorem rM_TH (X : Cx RM g p S m args meth c cc nL ret) (Y : Yw g (wldM g a) A S H locs s) (hdg : decode cc pc = .ok (.getfield 7, 3)) (kk : W p l e R S m args below meth c H locs cells slots Q (F0 m (pc + 3) ls (.ref (a 1) :: rest))) : W p l e R S m args below meth c H locs cells slots Q (F0 m pc ls (.ref (a 0) :: rest)) := va_get (D := g.1) (ci := 1) (v := .ref (a 1)) (C := RM) (T := FM) (N := 12) X.1 X.2.1 X.2.2.2.2.2.1 inM X.2.2.2.2.1 X.2.2.2.2.2.2.1 Y.1 0 rfl rfl 0 (by decide) (X.2.2.2.2.2.1 _ fM_there) (fun _ h9 => h9) rfl hdg kk
theorem lM_TH (X : Cx own g p S m args meth c cc nL ret) (Y : Yw g (wldM g a) A S H locs s) {k : Nat} (hk : k < 32) (hdg : decode cc pc = .ok (.baload, 1)) (kk : W p l e R S m args below meth c H locs cells slots Q (F0 m (pc + 1) ls (.int (bI (gM_TH s k)) :: rest))) : W p l e R S m args below meth c H locs cells slots Q (F0 m pc ls (.int (nI k) :: .ref (a 1) :: rest)) := by
  refine va_zald (D := g.1) (cl := bw_cl) X.1 X.2.1 X.2.2.2.2.2.2.1 Y.1 1 0 (cA := g.2.1) (n := 32) (f := fun j => bI (gM_TH s j)) rfl rfl (vp_in_nI hk (by omega)) hdg ?_
  rw [nI_clamp (by omega)]
  exact kk
theorem sM_TH (X : Cx own g p S m args meth c cc nL ret) (Y : Yw g (wldM g a) A S H locs s) {k : Nat} {x : Int32} (v : Bool) (hv : x = bI (v)) (hk : k < 32) (hdg : decode cc pc = .ok (.bastore, 1)) (kk : ∀ (H : Heap) (locs : List Loc), Yw g (wldM g a) A S H locs (uM_TH s k v) → W p l e R S m args below meth c H locs cells slots Q (F0 m (pc + 1) ls rest)) : W p l e R S m args below meth c H locs cells slots Q (F0 m pc ls (.int x :: .int (nI k) :: .ref (a 1) :: rest)) := by
  rw [hv]
  refine va_zast (D := g.1) (cl := bw_cl) X.1 X.2.1 X.2.2.2.2.2.2.1 Y.1 Y.2.1 Y.2.2 1 0 (cA := g.2.1) (n := 32) (f := fun j => bI (gM_TH s j)) rfl rfl (vp_in_nI hk (by omega)) hdg (fun H1 locs1 hP hD hS => ?_)
  have e1 : upd (fun j => bI (gM_TH s j)) (nI k).toNatClampNeg (vp_nar .boolean (bI v)) = fun j => bI (va_up (gM_TH s) k v j) := by
    rw [nI_clamp (by omega), bI_vn]
    exact up_c bI (gM_TH s) k v
  rw [e1] at hP hD
  exact kk H1 locs1 ⟨hP, hD, hS⟩
theorem rM_VA (X : Cx RM g p S m args meth c cc nL ret) (Y : Yw g (wldM g a) A S H locs s) (hdg : decode cc pc = .ok (.getfield 13, 3)) (kk : W p l e R S m args below meth c H locs cells slots Q (F0 m (pc + 3) ls (.ref (a 2) :: rest))) : W p l e R S m args below meth c H locs cells slots Q (F0 m pc ls (.ref (a 0) :: rest)) := va_get (D := g.1) (ci := 1) (v := .ref (a 2)) (C := RM) (T := FM) (N := 12) X.1 X.2.1 X.2.2.2.2.2.1 inM X.2.2.2.2.1 X.2.2.2.2.2.2.1 Y.1 0 rfl rfl 1 (by decide) (X.2.2.2.2.2.1 _ fM_values) (fun _ h9 => h9) rfl hdg kk
theorem lM_VA (X : Cx own g p S m args meth c cc nL ret) (Y : Yw g (wldM g a) A S H locs s) {k : Nat} (hk : k < 32) (hdg : decode cc pc = .ok (.iaload, 1)) (kk : W p l e R S m args below meth c H locs cells slots Q (F0 m (pc + 1) ls (.int (gM_VA s k) :: rest))) : W p l e R S m args below meth c H locs cells slots Q (F0 m pc ls (.int (nI k) :: .ref (a 2) :: rest)) := by
  refine va_iald (D := g.1) (cl := bw_cl) X.1 X.2.1 X.2.2.2.2.2.2.1 Y.1 2 1 (cA := g.2.2.1) (n := 32) (f := fun j => gM_VA s j) rfl rfl (vp_in_nI hk (by omega)) hdg ?_
  rw [nI_clamp (by omega)]
  exact kk
theorem sM_VA (X : Cx own g p S m args meth c cc nL ret) (Y : Yw g (wldM g a) A S H locs s) {k : Nat} {x : Int32} (v : Int32) (hv : x = v) (hk : k < 32) (hdg : decode cc pc = .ok (.iastore, 1)) (kk : ∀ (H : Heap) (locs : List Loc), Yw g (wldM g a) A S H locs (uM_VA s k v) → W p l e R S m args below meth c H locs cells slots Q (F0 m (pc + 1) ls rest)) : W p l e R S m args below meth c H locs cells slots Q (F0 m pc ls (.int x :: .int (nI k) :: .ref (a 2) :: rest)) := by
  rw [hv]
  refine va_iast (D := g.1) (cl := bw_cl) X.1 X.2.1 X.2.2.2.2.2.2.1 Y.1 Y.2.1 Y.2.2 2 1 (cA := g.2.2.1) (n := 32) (f := fun j => gM_VA s j) rfl rfl (vp_in_nI hk (by omega)) hdg (fun H1 locs1 hP hD hS => ?_)
  have e1 : upd (fun j => gM_VA s j) (nI k).toNatClampNeg (v) = fun j => va_up (gM_VA s) k v j := by
    rw [nI_clamp (by omega)]
    exact up_c (fun z => z) (gM_VA s) k v
  rw [e1] at hP hD
  exact kk H1 locs1 ⟨hP, hD, hS⟩
theorem rM_FD (X : Cx RM g p S m args meth c cc nL ret) (Y : Yw g (wldM g a) A S H locs s) (hdg : decode cc pc = .ok (.getfield 17, 3)) (kk : W p l e R S m args below meth c H locs cells slots Q (F0 m (pc + 3) ls (.ref (a 3) :: rest))) : W p l e R S m args below meth c H locs cells slots Q (F0 m pc ls (.ref (a 0) :: rest)) := va_get (D := g.1) (ci := 1) (v := .ref (a 3)) (C := RM) (T := FM) (N := 12) X.1 X.2.1 X.2.2.2.2.2.1 inM X.2.2.2.2.1 X.2.2.2.2.2.2.1 Y.1 0 rfl rfl 2 (by decide) (X.2.2.2.2.2.1 _ fM_fields) (fun _ h9 => h9) rfl hdg kk
theorem lM_FD (X : Cx own g p S m args meth c cc nL ret) (Y : Yw g (wldM g a) A S H locs s) {k : Nat} (hk : k < 64) (hdg : decode cc pc = .ok (.iaload, 1)) (kk : W p l e R S m args below meth c H locs cells slots Q (F0 m (pc + 1) ls (.int (oI (gM_FD s k)) :: rest))) : W p l e R S m args below meth c H locs cells slots Q (F0 m pc ls (.int (nI k) :: .ref (a 3) :: rest)) := by
  refine va_iald (D := g.1) (cl := bw_cl) X.1 X.2.1 X.2.2.2.2.2.2.1 Y.1 3 1 (cA := g.2.2.1) (n := 64) (f := fun j => oI (gM_FD s j)) rfl rfl (vp_in_nI hk (by omega)) hdg ?_
  rw [nI_clamp (by omega)]
  exact kk
theorem sM_FD (X : Cx own g p S m args meth c cc nL ret) (Y : Yw g (wldM g a) A S H locs s) {k : Nat} {x : Int32} (v : Option (Fin 32)) (hv : x = oI (v)) (hk : k < 64) (hdg : decode cc pc = .ok (.iastore, 1)) (kk : ∀ (H : Heap) (locs : List Loc), Yw g (wldM g a) A S H locs (uM_FD s k v) → W p l e R S m args below meth c H locs cells slots Q (F0 m (pc + 1) ls rest)) : W p l e R S m args below meth c H locs cells slots Q (F0 m pc ls (.int x :: .int (nI k) :: .ref (a 3) :: rest)) := by
  rw [hv]
  refine va_iast (D := g.1) (cl := bw_cl) X.1 X.2.1 X.2.2.2.2.2.2.1 Y.1 Y.2.1 Y.2.2 3 1 (cA := g.2.2.1) (n := 64) (f := fun j => oI (gM_FD s j)) rfl rfl (vp_in_nI hk (by omega)) hdg (fun H1 locs1 hP hD hS => ?_)
  have e1 : upd (fun j => oI (gM_FD s j)) (nI k).toNatClampNeg (oI (v)) = fun j => oI (va_up (gM_FD s) k v j) := by
    rw [nI_clamp (by omega)]
    exact up_c oI (gM_FD s) k v
  rw [e1] at hP hD
  exact kk H1 locs1 ⟨hP, hD, hS⟩
theorem rM_MK (X : Cx RM g p S m args meth c cc nL ret) (Y : Yw g (wldM g a) A S H locs s) (hdg : decode cc pc = .ok (.getfield 20, 3)) (kk : W p l e R S m args below meth c H locs cells slots Q (F0 m (pc + 3) ls (.ref (a 4) :: rest))) : W p l e R S m args below meth c H locs cells slots Q (F0 m pc ls (.ref (a 0) :: rest)) := va_get (D := g.1) (ci := 1) (v := .ref (a 4)) (C := RM) (T := FM) (N := 12) X.1 X.2.1 X.2.2.2.2.2.1 inM X.2.2.2.2.1 X.2.2.2.2.2.2.1 Y.1 0 rfl rfl 3 (by decide) (X.2.2.2.2.2.1 _ fM_marked) (fun _ h9 => h9) rfl hdg kk
theorem lM_MK (X : Cx own g p S m args meth c cc nL ret) (Y : Yw g (wldM g a) A S H locs s) {k : Nat} (hk : k < 32) (hdg : decode cc pc = .ok (.baload, 1)) (kk : W p l e R S m args below meth c H locs cells slots Q (F0 m (pc + 1) ls (.int (bI (gM_MK s k)) :: rest))) : W p l e R S m args below meth c H locs cells slots Q (F0 m pc ls (.int (nI k) :: .ref (a 4) :: rest)) := by
  refine va_zald (D := g.1) (cl := bw_cl) X.1 X.2.1 X.2.2.2.2.2.2.1 Y.1 4 0 (cA := g.2.1) (n := 32) (f := fun j => bI (gM_MK s j)) rfl rfl (vp_in_nI hk (by omega)) hdg ?_
  rw [nI_clamp (by omega)]
  exact kk
theorem sM_MK (X : Cx own g p S m args meth c cc nL ret) (Y : Yw g (wldM g a) A S H locs s) {k : Nat} {x : Int32} (v : Bool) (hv : x = bI (v)) (hk : k < 32) (hdg : decode cc pc = .ok (.bastore, 1)) (kk : ∀ (H : Heap) (locs : List Loc), Yw g (wldM g a) A S H locs (uM_MK s k v) → W p l e R S m args below meth c H locs cells slots Q (F0 m (pc + 1) ls rest)) : W p l e R S m args below meth c H locs cells slots Q (F0 m pc ls (.int x :: .int (nI k) :: .ref (a 4) :: rest)) := by
  rw [hv]
  refine va_zast (D := g.1) (cl := bw_cl) X.1 X.2.1 X.2.2.2.2.2.2.1 Y.1 Y.2.1 Y.2.2 4 0 (cA := g.2.1) (n := 32) (f := fun j => bI (gM_MK s j)) rfl rfl (vp_in_nI hk (by omega)) hdg (fun H1 locs1 hP hD hS => ?_)
  have e1 : upd (fun j => bI (gM_MK s j)) (nI k).toNatClampNeg (vp_nar .boolean (bI v)) = fun j => bI (va_up (gM_MK s) k v j) := by
    rw [nI_clamp (by omega), bI_vn]
    exact up_c bI (gM_MK s) k v
  rw [e1] at hP hD
  exact kk H1 locs1 ⟨hP, hD, hS⟩
theorem rM_KP (X : Cx RM g p S m args meth c cc nL ret) (Y : Yw g (wldM g a) A S H locs s) (hdg : decode cc pc = .ok (.getfield 23, 3)) (kk : W p l e R S m args below meth c H locs cells slots Q (F0 m (pc + 3) ls (.ref (a 5) :: rest))) : W p l e R S m args below meth c H locs cells slots Q (F0 m pc ls (.ref (a 0) :: rest)) := va_get (D := g.1) (ci := 1) (v := .ref (a 5)) (C := RM) (T := FM) (N := 12) X.1 X.2.1 X.2.2.2.2.2.1 inM X.2.2.2.2.1 X.2.2.2.2.2.2.1 Y.1 0 rfl rfl 4 (by decide) (X.2.2.2.2.2.1 _ fM_kept) (fun _ h9 => h9) rfl hdg kk
theorem lM_KP (X : Cx own g p S m args meth c cc nL ret) (Y : Yw g (wldM g a) A S H locs s) {k : Nat} (hk : k < 32) (hdg : decode cc pc = .ok (.baload, 1)) (kk : W p l e R S m args below meth c H locs cells slots Q (F0 m (pc + 1) ls (.int (bI (gM_KP s k)) :: rest))) : W p l e R S m args below meth c H locs cells slots Q (F0 m pc ls (.int (nI k) :: .ref (a 5) :: rest)) := by
  refine va_zald (D := g.1) (cl := bw_cl) X.1 X.2.1 X.2.2.2.2.2.2.1 Y.1 5 0 (cA := g.2.1) (n := 32) (f := fun j => bI (gM_KP s j)) rfl rfl (vp_in_nI hk (by omega)) hdg ?_
  rw [nI_clamp (by omega)]
  exact kk
theorem sM_KP (X : Cx own g p S m args meth c cc nL ret) (Y : Yw g (wldM g a) A S H locs s) {k : Nat} {x : Int32} (v : Bool) (hv : x = bI (v)) (hk : k < 32) (hdg : decode cc pc = .ok (.bastore, 1)) (kk : ∀ (H : Heap) (locs : List Loc), Yw g (wldM g a) A S H locs (uM_KP s k v) → W p l e R S m args below meth c H locs cells slots Q (F0 m (pc + 1) ls rest)) : W p l e R S m args below meth c H locs cells slots Q (F0 m pc ls (.int x :: .int (nI k) :: .ref (a 5) :: rest)) := by
  rw [hv]
  refine va_zast (D := g.1) (cl := bw_cl) X.1 X.2.1 X.2.2.2.2.2.2.1 Y.1 Y.2.1 Y.2.2 5 0 (cA := g.2.1) (n := 32) (f := fun j => bI (gM_KP s j)) rfl rfl (vp_in_nI hk (by omega)) hdg (fun H1 locs1 hP hD hS => ?_)
  have e1 : upd (fun j => bI (gM_KP s j)) (nI k).toNatClampNeg (vp_nar .boolean (bI v)) = fun j => bI (va_up (gM_KP s) k v j) := by
    rw [nI_clamp (by omega), bI_vn]
    exact up_c bI (gM_KP s) k v
  rw [e1] at hP hD
  exact kk H1 locs1 ⟨hP, hD, hS⟩
theorem rM_ST (X : Cx RM g p S m args meth c cc nL ret) (Y : Yw g (wldM g a) A S H locs s) (hdg : decode cc pc = .ok (.getfield 26, 3)) (kk : W p l e R S m args below meth c H locs cells slots Q (F0 m (pc + 3) ls (.ref (a 6) :: rest))) : W p l e R S m args below meth c H locs cells slots Q (F0 m pc ls (.ref (a 0) :: rest)) := va_get (D := g.1) (ci := 1) (v := .ref (a 6)) (C := RM) (T := FM) (N := 12) X.1 X.2.1 X.2.2.2.2.2.1 inM X.2.2.2.2.1 X.2.2.2.2.2.2.1 Y.1 0 rfl rfl 5 (by decide) (X.2.2.2.2.2.1 _ fM_state) (fun _ h9 => h9) rfl hdg kk
theorem lM_ST (X : Cx own g p S m args meth c cc nL ret) (Y : Yw g (wldM g a) A S H locs s) {k : Nat} (hk : k < 8) (hdg : decode cc pc = .ok (.iaload, 1)) (kk : W p l e R S m args below meth c H locs cells slots Q (F0 m (pc + 1) ls (.int (nI (gM_ST s k).val) :: rest))) : W p l e R S m args below meth c H locs cells slots Q (F0 m pc ls (.int (nI k) :: .ref (a 6) :: rest)) := by
  refine va_iald (D := g.1) (cl := bw_cl) X.1 X.2.1 X.2.2.2.2.2.2.1 Y.1 6 1 (cA := g.2.2.1) (n := 8) (f := fun j => nI (gM_ST s j).val) rfl rfl (vp_in_nI hk (by omega)) hdg ?_
  rw [nI_clamp (by omega)]
  exact kk
theorem sM_ST (X : Cx own g p S m args meth c cc nL ret) (Y : Yw g (wldM g a) A S H locs s) {k : Nat} {x : Int32} (v : Fin 3) (hv : x = nI (v).val) (hk : k < 8) (hdg : decode cc pc = .ok (.iastore, 1)) (kk : ∀ (H : Heap) (locs : List Loc), Yw g (wldM g a) A S H locs (uM_ST s k v) → W p l e R S m args below meth c H locs cells slots Q (F0 m (pc + 1) ls rest)) : W p l e R S m args below meth c H locs cells slots Q (F0 m pc ls (.int x :: .int (nI k) :: .ref (a 6) :: rest)) := by
  rw [hv]
  refine va_iast (D := g.1) (cl := bw_cl) X.1 X.2.1 X.2.2.2.2.2.2.1 Y.1 Y.2.1 Y.2.2 6 1 (cA := g.2.2.1) (n := 8) (f := fun j => nI (gM_ST s j).val) rfl rfl (vp_in_nI hk (by omega)) hdg (fun H1 locs1 hP hD hS => ?_)
  have e1 : upd (fun j => nI (gM_ST s j).val) (nI k).toNatClampNeg (nI (v).val) = fun j => nI (va_up (gM_ST s) k v j).val := by
    rw [nI_clamp (by omega)]
    exact up_c (fun z : Fin 3 => nI z.val) (gM_ST s) k v
  rw [e1] at hP hD
  exact kk H1 locs1 ⟨hP, hD, hS⟩
theorem rM_US (X : Cx RM g p S m args meth c cc nL ret) (Y : Yw g (wldM g a) A S H locs s) (hdg : decode cc pc = .ok (.getfield 29, 3)) (kk : W p l e R S m args below meth c H locs cells slots Q (F0 m (pc + 3) ls (.ref (a 7) :: rest))) : W p l e R S m args below meth c H locs cells slots Q (F0 m pc ls (.ref (a 0) :: rest)) := va_get (D := g.1) (ci := 1) (v := .ref (a 7)) (C := RM) (T := FM) (N := 12) X.1 X.2.1 X.2.2.2.2.2.1 inM X.2.2.2.2.1 X.2.2.2.2.2.2.1 Y.1 0 rfl rfl 6 (by decide) (X.2.2.2.2.2.1 _ fM_used) (fun _ h9 => h9) rfl hdg kk
theorem lM_US (X : Cx own g p S m args meth c cc nL ret) (Y : Yw g (wldM g a) A S H locs s) {k : Nat} (hk : k < 8) (hdg : decode cc pc = .ok (.baload, 1)) (kk : W p l e R S m args below meth c H locs cells slots Q (F0 m (pc + 1) ls (.int (bI (gM_US s k)) :: rest))) : W p l e R S m args below meth c H locs cells slots Q (F0 m pc ls (.int (nI k) :: .ref (a 7) :: rest)) := by
  refine va_zald (D := g.1) (cl := bw_cl) X.1 X.2.1 X.2.2.2.2.2.2.1 Y.1 7 0 (cA := g.2.1) (n := 8) (f := fun j => bI (gM_US s j)) rfl rfl (vp_in_nI hk (by omega)) hdg ?_
  rw [nI_clamp (by omega)]
  exact kk
theorem sM_US (X : Cx own g p S m args meth c cc nL ret) (Y : Yw g (wldM g a) A S H locs s) {k : Nat} {x : Int32} (v : Bool) (hv : x = bI (v)) (hk : k < 8) (hdg : decode cc pc = .ok (.bastore, 1)) (kk : ∀ (H : Heap) (locs : List Loc), Yw g (wldM g a) A S H locs (uM_US s k v) → W p l e R S m args below meth c H locs cells slots Q (F0 m (pc + 1) ls rest)) : W p l e R S m args below meth c H locs cells slots Q (F0 m pc ls (.int x :: .int (nI k) :: .ref (a 7) :: rest)) := by
  rw [hv]
  refine va_zast (D := g.1) (cl := bw_cl) X.1 X.2.1 X.2.2.2.2.2.2.1 Y.1 Y.2.1 Y.2.2 7 0 (cA := g.2.1) (n := 8) (f := fun j => bI (gM_US s j)) rfl rfl (vp_in_nI hk (by omega)) hdg (fun H1 locs1 hP hD hS => ?_)
  have e1 : upd (fun j => bI (gM_US s j)) (nI k).toNatClampNeg (vp_nar .boolean (bI v)) = fun j => bI (va_up (gM_US s) k v j) := by
    rw [nI_clamp (by omega), bI_vn]
    exact up_c bI (gM_US s) k v
  rw [e1] at hP hD
  exact kk H1 locs1 ⟨hP, hD, hS⟩
theorem rM_RG (X : Cx RM g p S m args meth c cc nL ret) (Y : Yw g (wldM g a) A S H locs s) (hdg : decode cc pc = .ok (.getfield 32, 3)) (kk : W p l e R S m args below meth c H locs cells slots Q (F0 m (pc + 3) ls (.ref (a 8) :: rest))) : W p l e R S m args below meth c H locs cells slots Q (F0 m pc ls (.ref (a 0) :: rest)) := va_get (D := g.1) (ci := 1) (v := .ref (a 8)) (C := RM) (T := FM) (N := 12) X.1 X.2.1 X.2.2.2.2.2.1 inM X.2.2.2.2.1 X.2.2.2.2.2.2.1 Y.1 0 rfl rfl 7 (by decide) (X.2.2.2.2.2.1 _ fM_registers) (fun _ h9 => h9) rfl hdg kk
theorem lM_RG (X : Cx own g p S m args meth c cc nL ret) (Y : Yw g (wldM g a) A S H locs s) {k : Nat} (hk : k < 4) (hdg : decode cc pc = .ok (.iaload, 1)) (kk : W p l e R S m args below meth c H locs cells slots Q (F0 m (pc + 1) ls (.int (oI (gM_RG s k)) :: rest))) : W p l e R S m args below meth c H locs cells slots Q (F0 m pc ls (.int (nI k) :: .ref (a 8) :: rest)) := by
  refine va_iald (D := g.1) (cl := bw_cl) X.1 X.2.1 X.2.2.2.2.2.2.1 Y.1 8 1 (cA := g.2.2.1) (n := 4) (f := fun j => oI (gM_RG s j)) rfl rfl (vp_in_nI hk (by omega)) hdg ?_
  rw [nI_clamp (by omega)]
  exact kk
theorem sM_RG (X : Cx own g p S m args meth c cc nL ret) (Y : Yw g (wldM g a) A S H locs s) {k : Nat} {x : Int32} (v : Option (Fin 32)) (hv : x = oI (v)) (hk : k < 4) (hdg : decode cc pc = .ok (.iastore, 1)) (kk : ∀ (H : Heap) (locs : List Loc), Yw g (wldM g a) A S H locs (uM_RG s k v) → W p l e R S m args below meth c H locs cells slots Q (F0 m (pc + 1) ls rest)) : W p l e R S m args below meth c H locs cells slots Q (F0 m pc ls (.int x :: .int (nI k) :: .ref (a 8) :: rest)) := by
  rw [hv]
  refine va_iast (D := g.1) (cl := bw_cl) X.1 X.2.1 X.2.2.2.2.2.2.1 Y.1 Y.2.1 Y.2.2 8 1 (cA := g.2.2.1) (n := 4) (f := fun j => oI (gM_RG s j)) rfl rfl (vp_in_nI hk (by omega)) hdg (fun H1 locs1 hP hD hS => ?_)
  have e1 : upd (fun j => oI (gM_RG s j)) (nI k).toNatClampNeg (oI (v)) = fun j => oI (va_up (gM_RG s) k v j) := by
    rw [nI_clamp (by omega)]
    exact up_c oI (gM_RG s) k v
  rw [e1] at hP hD
  exact kk H1 locs1 ⟨hP, hD, hS⟩
theorem rM_BU (X : Cx RM g p S m args meth c cc nL ret) (Y : Yw g (wldM g a) A S H locs s) (hdg : decode cc pc = .ok (.getfield 35, 3)) (kk : W p l e R S m args below meth c H locs cells slots Q (F0 m (pc + 3) ls (.int (nI (gM_BU s).val) :: rest))) : W p l e R S m args below meth c H locs cells slots Q (F0 m pc ls (.ref (a 0) :: rest)) := va_get (D := g.1) (ci := 1) (v := .int (nI (gM_BU s).val)) (C := RM) (T := FM) (N := 12) X.1 X.2.1 X.2.2.2.2.2.1 inM X.2.2.2.2.1 X.2.2.2.2.2.2.1 Y.1 0 rfl rfl 8 (by decide) (X.2.2.2.2.2.1 _ fM_budget) (fun _ h9 => h9) rfl hdg kk
theorem pM_BU (X : Cx RM g p S m args meth c cc nL ret) (Y : Yw g (wldM g a) A S H locs s) {x : Int32} (v : Fin 9) (hv : x = nI (v).val) (hdg : decode cc pc = .ok (.putfield 35, 3)) (kk : ∀ (H : Heap) (locs : List Loc), Yw g (wldM g a) A S H locs (uM_BU s v) → W p l e R S m args below meth c H locs cells slots Q (F0 m (pc + 3) ls rest)) : W p l e R S m args below meth c H locs cells slots Q (F0 m pc ls (.int x :: .ref (a 0) :: rest)) := by
  rw [hv]
  exact va_put (D := g.1) (ci := 1) (v := .int (nI (v).val)) (ty := .int) (C := RM) (T := FM) (N := 12) X.1 X.2.1 X.2.2.2.2.2.1 inM tM tM_ok nM X.2.2.2.2.1 X.2.2.2.2.2.2.1 Y.1 Y.2.1 Y.2.2 0 rfl rfl 8 (by decide) (X.2.2.2.2.2.1 _ fM_budget) (fun _ h9 => h9) rfl (by decide +kernel) rfl rfl (Nat.le_of_ble_eq_true rfl) hdg (fun H1 locs1 hP hD hS => kk H1 locs1 ⟨hP, hD, hS⟩)
theorem rM_HA (X : Cx RM g p S m args meth c cc nL ret) (Y : Yw g (wldM g a) A S H locs s) (hdg : decode cc pc = .ok (.getfield 46, 3)) (kk : W p l e R S m args below meth c H locs cells slots Q (F0 m (pc + 3) ls (.int (nI (gM_HA s).val) :: rest))) : W p l e R S m args below meth c H locs cells slots Q (F0 m pc ls (.ref (a 0) :: rest)) := va_get (D := g.1) (ci := 1) (v := .int (nI (gM_HA s).val)) (C := RM) (T := FM) (N := 12) X.1 X.2.1 X.2.2.2.2.2.1 inM X.2.2.2.2.1 X.2.2.2.2.2.2.1 Y.1 0 rfl rfl 9 (by decide) (X.2.2.2.2.2.1 _ fM_hand) (fun _ h9 => h9) rfl hdg kk
theorem pM_HA (X : Cx RM g p S m args meth c cc nL ret) (Y : Yw g (wldM g a) A S H locs s) {x : Int32} (v : Fin 8) (hv : x = nI (v).val) (hdg : decode cc pc = .ok (.putfield 46, 3)) (kk : ∀ (H : Heap) (locs : List Loc), Yw g (wldM g a) A S H locs (uM_HA s v) → W p l e R S m args below meth c H locs cells slots Q (F0 m (pc + 3) ls rest)) : W p l e R S m args below meth c H locs cells slots Q (F0 m pc ls (.int x :: .ref (a 0) :: rest)) := by
  rw [hv]
  exact va_put (D := g.1) (ci := 1) (v := .int (nI (v).val)) (ty := .int) (C := RM) (T := FM) (N := 12) X.1 X.2.1 X.2.2.2.2.2.1 inM tM tM_ok nM X.2.2.2.2.1 X.2.2.2.2.2.2.1 Y.1 Y.2.1 Y.2.2 0 rfl rfl 9 (by decide) (X.2.2.2.2.2.1 _ fM_hand) (fun _ h9 => h9) rfl (by decide +kernel) rfl rfl (Nat.le_of_ble_eq_true rfl) hdg (fun H1 locs1 hP hD hS => kk H1 locs1 ⟨hP, hD, hS⟩)
theorem rM_FA (X : Cx RM g p S m args meth c cc nL ret) (Y : Yw g (wldM g a) A S H locs s) (hdg : decode cc pc = .ok (.getfield 70, 3)) (kk : W p l e R S m args below meth c H locs cells slots Q (F0 m (pc + 3) ls (.int (gM_FA s) :: rest))) : W p l e R S m args below meth c H locs cells slots Q (F0 m pc ls (.ref (a 0) :: rest)) := va_get (D := g.1) (ci := 1) (v := .int (gM_FA s)) (C := RM) (T := FM) (N := 12) X.1 X.2.1 X.2.2.2.2.2.1 inM X.2.2.2.2.1 X.2.2.2.2.2.2.1 Y.1 0 rfl rfl 10 (by decide) (X.2.2.2.2.2.1 _ fM_faults) (fun _ h9 => h9) rfl hdg kk
theorem pM_FA (X : Cx RM g p S m args meth c cc nL ret) (Y : Yw g (wldM g a) A S H locs s) {x : Int32} (v : Int32) (hv : x = v) (hdg : decode cc pc = .ok (.putfield 70, 3)) (kk : ∀ (H : Heap) (locs : List Loc), Yw g (wldM g a) A S H locs (uM_FA s v) → W p l e R S m args below meth c H locs cells slots Q (F0 m (pc + 3) ls rest)) : W p l e R S m args below meth c H locs cells slots Q (F0 m pc ls (.int x :: .ref (a 0) :: rest)) := by
  rw [hv]
  exact va_put (D := g.1) (ci := 1) (v := .int (v)) (ty := .int) (C := RM) (T := FM) (N := 12) X.1 X.2.1 X.2.2.2.2.2.1 inM tM tM_ok nM X.2.2.2.2.1 X.2.2.2.2.2.2.1 Y.1 Y.2.1 Y.2.2 0 rfl rfl 10 (by decide) (X.2.2.2.2.2.1 _ fM_faults) (fun _ h9 => h9) rfl (by decide +kernel) rfl rfl (Nat.le_of_ble_eq_true rfl) hdg (fun H1 locs1 hP hD hS => kk H1 locs1 ⟨hP, hD, hS⟩)
theorem rM_TR (X : Cx RM g p S m args meth c cc nL ret) (Y : Yw g (wldM g a) A S H locs s) (hdg : decode cc pc = .ok (.getfield 39, 3)) (kk : W p l e R S m args below meth c H locs cells slots Q (F0 m (pc + 3) ls (.int (gM_TR s) :: rest))) : W p l e R S m args below meth c H locs cells slots Q (F0 m pc ls (.ref (a 0) :: rest)) := va_get (D := g.1) (ci := 1) (v := .int (gM_TR s)) (C := RM) (T := FM) (N := 12) X.1 X.2.1 X.2.2.2.2.2.1 inM X.2.2.2.2.1 X.2.2.2.2.2.2.1 Y.1 0 rfl rfl 11 (by decide) (X.2.2.2.2.2.1 _ fM_thrown) (fun _ h9 => h9) rfl hdg kk
theorem pM_TR (X : Cx RM g p S m args meth c cc nL ret) (Y : Yw g (wldM g a) A S H locs s) {x : Int32} (v : Int32) (hv : x = v) (hdg : decode cc pc = .ok (.putfield 39, 3)) (kk : ∀ (H : Heap) (locs : List Loc), Yw g (wldM g a) A S H locs (uM_TR s v) → W p l e R S m args below meth c H locs cells slots Q (F0 m (pc + 3) ls rest)) : W p l e R S m args below meth c H locs cells slots Q (F0 m pc ls (.int x :: .ref (a 0) :: rest)) := by
  rw [hv]
  exact va_put (D := g.1) (ci := 1) (v := .int (v)) (ty := .int) (C := RM) (T := FM) (N := 12) X.1 X.2.1 X.2.2.2.2.2.1 inM tM tM_ok nM X.2.2.2.2.1 X.2.2.2.2.2.2.1 Y.1 Y.2.1 Y.2.2 0 rfl rfl 11 (by decide) (X.2.2.2.2.2.1 _ fM_thrown) (fun _ h9 => h9) rfl (by decide +kernel) rfl rfl (Nat.le_of_ble_eq_true rfl) hdg (fun H1 locs1 hP hD hS => kk H1 locs1 ⟨hP, hD, hS⟩)
end WM
