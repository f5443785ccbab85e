/-! the constructors: written by wip/whole/init.py -/
def iH_00 : HS := (fun _ => false, fun _ => false, fun _ => 0, fun _ => some ⟨0, by decide⟩, fun _ => some ⟨0, by decide⟩, fun _ => ⟨0, by decide⟩, fun _ => false, fun _ => 0, fun _ => false, fun _ => ⟨0, by decide⟩, 0, ⟨0, by decide⟩, 0, ⟨0, by decide⟩)
def wFD (s : HS) (f : Nat → Option (Fin 32)) : HS := (s.1, s.2.1, s.2.2.1, f, s.2.2.2.2)
def wRG (s : HS) (f : Nat → Option (Fin 32)) : HS := (s.1, s.2.1, s.2.2.1, s.2.2.2.1, f, s.2.2.2.2.2)
def h_init : HS := uH_BU (wRG (wFD iH_00 (fun _ => none)) (fun _ => none)) ⟨4, by decide⟩
def kH_init : List Cond := bw yH_init cH_init 1 none
abbrev iH_F : List Value := [.null, .null, .null, .null, .null, .null, .null, .null, .null, .null, .int 0, .int 0, .int 0, .int 0]
theorem wldH_get {g : GG} {a : Nat → Nat} {s : HS} {i : Nat} (hi : i < 11) : ∃ e, (wldH g a s)[i]? = some (a i, e) := by
  rcases (show i = 0 ∨ i = 1 ∨ i = 2 ∨ i = 3 ∨ i = 4 ∨ i = 5 ∨ i = 6 ∨ i = 7 ∨ i = 8 ∨ i = 9 ∨ i = 10 by omega) with rfl | rfl | rfl | rfl | rfl | rfl | rfl | rfl | rfl | rfl | rfl <;> exact ⟨_, rfl⟩
theorem wldH_fin {g : GG} {a : Nat → Nat} {s : HS} {h0 sz : Nat} (h : a 0 = h0) (hD : va_D (iA h0 sz) (wldH g a s)) : apH a ∧ ∀ k, 0 < k → k < 11 → sz ≤ a k := by
  have h1 : apH a := fun i j hi hj e => by
    obtain ⟨e1, g1⟩ := wldH_get (g := g) (a := a) (s := s) hi
    obtain ⟨e2, g2⟩ := wldH_get (g := g) (a := a) (s := s) hj
    exact hD.1 i j _ _ g1 g2 e
  refine ⟨h1, fun k hk hk2 => ?_⟩
  obtain ⟨e1, g1⟩ := wldH_get (g := g) (a := a) (s := s) hk2
  rcases hD.2 k _ g1 with z | z
  · exact absurd (h1 k 0 hk2 (by omega) (z.trans h.symm)) (by omega)
  · exact z
theorem wldH_Dmv {g : GG} {a : Nat → Nat} {s s' : HS} {A : Nat → Prop} (h : va_D A (wldH g a s)) : va_D A (wldH g a s') := ⟨fun i j p q hp hq e => by
  obtain ⟨h1, h2⟩ := wldH_at hp
  obtain ⟨h3, h4⟩ := wldH_at hq
  obtain ⟨e1, g1⟩ := wldH_get (g := g) (a := a) (s := s) h1
  obtain ⟨e2, g2⟩ := wldH_get (g := g) (a := a) (s := s) h3
  exact h.1 i j _ _ g1 g2 (h2.symm.trans (e.trans h4)), fun k q hq => by
  obtain ⟨h1, h2⟩ := wldH_at hq
  obtain ⟨e1, g1⟩ := wldH_get (g := g) (a := a) (s := s) h1
  rw [h2]
  exact h.2 k _ g1⟩
theorem hh_fillFD {p : Program} {l : Launch} {e : Env} {R : Room} {S : State} {m : MethodId} {args : Array Value} {below : List Frame} {meth : Method} {c : Code} {H : Heap} {locs : List Loc} {cells slots : Nat} {Q : State → Prop} {cc : ByteArray} {pc : Nat} {ls : Array Slot} {g : GG} {a : Nat → Nat} {A : Nat → Prop} {s : HS} {nL : Nat} {ret : Option FieldType}
    (X : Cx RH g p S m args meth c cc nL ret) (Y : Yw g (wldH g a) A S H locs s) (hR : 0 + 1 ≤ R.frames ∧ 8 + (4 + 11) + 0 ≤ R.locals) (hcs : cells ≤ R.cells ∧ slots ≤ R.slots) (hls : ls.size = nL) (hdg : decode cc pc = .ok (.invokestatic 41, 3))
    (kk : ∀ (H : Heap) (locs : List Loc), Yw g (wldH g a) A S H locs (wFD s (fun _ => none)) → W p l e R S m args below meth c H locs cells slots Q (F0 m (pc + 3) ls [])) : W p l e R S m args below meth c H locs cells slots Q (F0 m pc ls [.int (-1), .ref (a 4)]) := by
  obtain ⟨hx, hb, -, hml, hown, hts, hK, -⟩ := X
  obtain ⟨hP, hDt, hS⟩ := Y
  have hP4 : va_P g.1 bw_cl (wA g (a 4) 64 (fun j => oI (gH_FD s j))) H := hP.sub [4] rfl
  have hA4 : A (a 4) := hDt.2 4 _ rfl
  refine va_callv (A0 := A) (va_runS (As := [.ref (a 4), .int (-1)]) (rest := []) ⟨hx, hb, hml, hown, hts⟩ (tJ_fill l g (a 4) 64 (by decide) (fun j => oI (gH_FD s j)) (-1)) (va_cwS 2 hts (bw_good gH_J_fill) rfl rfl rfl (by decide +kernel) hR) ⟨PreW.blind, fun U hU hW => ⟨rfl, by rw [hU]; exact hP4, va_K.moved hW.alike hK⟩⟩ rfl rfl hls rfl (lv_room (Nat.le_of_ble_eq_true rfl)) hdg hcs) hS (fun q _ h => by rw [h]; exact hA4) (fun q h => by rw [h]; exact hA4) (fun u t H1 locs1 ht hvm hw hB hz1 hk1 hS1 => ?_)
  have hB : va_P g.1 bw_cl (wA g (a 4) 64 (fun _ => -1)) t.heap := hB
  rw [ht] at hB
  have hD2 : va_D A (wldH g a (wFD s (fun _ => none))) := wldH_Dmv hDt
  refine kk H1 locs1 ⟨fun k q hq => ?_, hD2, hS1⟩
  by_cases z : k = 4
  · rw [z] at hq
    cases hq
    exact hB 0 _ rfl
  · have hq2 : (wldH g a s)[k]? = some q := by
      have hk := (wldH_at hq).1
      rw [← hq]
      rcases (show k = 0 ∨ k = 1 ∨ k = 2 ∨ k = 3 ∨ k = 4 ∨ k = 5 ∨ k = 6 ∨ k = 7 ∨ k = 8 ∨ k = 9 ∨ k = 10 by omega) with rfl | rfl | rfl | rfl | rfl | rfl | rfl | rfl | rfl | rfl | rfl <;> first | rfl | exact absurd rfl z
    have hl := (hP k q hq2).lt
    refine (hP k q hq2).kept (hk1 q.1 hl (fun y => z ?_))
    exact hDt.1 k 4 q _ hq2 rfl y
theorem hh_fillRG {p : Program} {l : Launch} {e : Env} {R : Room} {S : State} {m : MethodId} {args : Array Value} {below : List Frame} {meth : Method} {c : Code} {H : Heap} {locs : List Loc} {cells slots : Nat} {Q : State → Prop} {cc : ByteArray} {pc : Nat} {ls : Array Slot} {g : GG} {a : Nat → Nat} {A : Nat → Prop} {s : HS} {nL : Nat} {ret : Option FieldType}
    (X : Cx RH g p S m args meth c cc nL ret) (Y : Yw g (wldH g a) A S H locs s) (hR : 0 + 1 ≤ R.frames ∧ 8 + (4 + 11) + 0 ≤ R.locals) (hcs : cells ≤ R.cells ∧ slots ≤ R.slots) (hls : ls.size = nL) (hdg : decode cc pc = .ok (.invokestatic 41, 3))
    (kk : ∀ (H : Heap) (locs : List Loc), Yw g (wldH g a) A S H locs (wRG s (fun _ => none)) → W p l e R S m args below meth c H locs cells slots Q (F0 m (pc + 3) ls [])) : W p l e R S m args below meth c H locs cells slots Q (F0 m pc ls [.int (-1), .ref (a 5)]) := by
  obtain ⟨hx, hb, -, hml, hown, hts, hK, -⟩ := X
  obtain ⟨hP, hDt, hS⟩ := Y
  have hP4 : va_P g.1 bw_cl (wA g (a 5) 4 (fun j => oI (gH_RG s j))) H := hP.sub [5] rfl
  have hA4 : A (a 5) := hDt.2 5 _ rfl
  refine va_callv (A0 := A) (va_runS (As := [.ref (a 5), .int (-1)]) (rest := []) ⟨hx, hb, hml, hown, hts⟩ (tJ_fill l g (a 5) 4 (by decide) (fun j => oI (gH_RG s j)) (-1)) (va_cwS 2 hts (bw_good gH_J_fill) rfl rfl rfl (by decide +kernel) hR) ⟨PreW.blind, fun U hU hW => ⟨rfl, by rw [hU]; exact hP4, va_K.moved hW.alike hK⟩⟩ rfl rfl hls rfl (lv_room (Nat.le_of_ble_eq_true rfl)) hdg hcs) hS (fun q _ h => by rw [h]; exact hA4) (fun q h => by rw [h]; exact hA4) (fun u t H1 locs1 ht hvm hw hB hz1 hk1 hS1 => ?_)
  have hB : va_P g.1 bw_cl (wA g (a 5) 4 (fun _ => -1)) t.heap := hB
  rw [ht] at hB
  have hD2 : va_D A (wldH g a (wRG s (fun _ => none))) := wldH_Dmv hDt
  refine kk H1 locs1 ⟨fun k q hq => ?_, hD2, hS1⟩
  by_cases z : k = 5
  · rw [z] at hq
    cases hq
    exact hB 0 _ rfl
  · have hq2 : (wldH g a s)[k]? = some q := by
      have hk := (wldH_at hq).1
      rw [← hq]
      rcases (show k = 0 ∨ k = 1 ∨ k = 2 ∨ k = 3 ∨ k = 4 ∨ k = 5 ∨ k = 6 ∨ k = 7 ∨ k = 8 ∨ k = 9 ∨ k = 10 by omega) with rfl | rfl | rfl | rfl | rfl | rfl | rfl | rfl | rfl | rfl | rfl <;> first | rfl | exact absurd rfl z
    have hl := (hP k q hq2).lt
    refine (hP k q hq2).kept (hk1 q.1 hl (fun y => z ?_))
    exact hDt.1 k 5 q _ hq2 rfl y
theorem oi_code : Cond.code objectInit ⟨#[0xb1]⟩ 1 none ∈ bw_G := by decide +kernel
set_option maxHeartbeats 4000000 in
set_option maxRecDepth 100000 in
theorem tH_init (l : Launch) (g : GG) (h0 sz : Nat) : Met l yH_init kH_init ({ frames := 1, cells := 10, slots := 252, locals := 23 }) (va_Pc [.ref h0] (fun U => U.heap.size = sz ∧ va_P g.1 bw_cl [(h0, .inr (0, iH_F))] U.heap ∧ va_K g.1 bw_cl (bw_ty g) U)) (va_Qv (fun a : Nat → Nat => a 0 = h0 ∧ apH a ∧ ∀ k, 0 < k → k < 11 → sz ≤ a k) (fun a U => va_P g.1 bw_cl (wldH g a h_init) U.heap) (iA h0 sz)) 10 252 (iA h0 sz) := by
  refine Met.ofW (cc := cH_init) (maxL := 1) (ret := none) (by decide) rfl ?_
  intro p e S m args below meth c s₁ B hml hv
  obtain ⟨rfl, hsz, hP, hK⟩ := hv
  have hx := B.exec
  have hb := B.bytes
  have hts0 := atoms_spec (ws := kH_init) B.pre
  have hown : S.vm.findClass RH = some m.cls := findClass_of_methodNamed B.named
  have hlocks := B.notSynchronized
  have hin : meth.name = "<init>" := (name_of_methodNamed B.named B.method).1
  subst hsz
  have X : Cx RH g p S m [Value.ref h0].toArray meth c cH_init 1 none := ⟨hx, hb, B.returns, hml, hown, fun w h => hts0 w (List.mem_cons_of_mem _ h), hK, hlocks⟩
  have hts := X.2.2.2.2.2.1
  have hA : ∀ q : Nat, S.heap.size ≤ q → iA h0 S.heap.size q := fun q h => Or.inr h
  have hS : va_S (iA h0 S.heap.size) S.heap S.heap [] := va_S.rf
  have hD := iD h0 S.heap.size (.inr (0, iH_F))
  have hl := lv_entry ([.ref h0]) (n := 1) (Nat.le_of_ble_eq_true rfl)
  rw [lg_entry_eq]
  generalize (lg_sl ([.ref h0]) ++ List.replicate (1 - (lg_sl ([.ref h0])).length) Slot.unset).toArray = ls at hl ⊢
  have hl : lv_has ls 1 [(0, .ref h0)] := hl
  refine lv_aload_n hx hb dH_init_0 rfl (lv_at hl 0 rfl) ?_
  refine W.objInit hx hb hown (hts (.methodLink RH 3 objectInit) (by decide +kernel)) (hts (.instanceMethod objectInit) (by decide +kernel)) (hts (.code objectInit ⟨#[0xb1]⟩ 1 none) oi_code) rfl (by rw [hml]; exact hl.1) rfl dH_init_1 (Nat.le_of_ble_eq_true rfl) (Nat.le_of_ble_eq_true rfl) ?_
  refine W.eq (g2 := F0 m 4 ls []) rfl ?_
  refine lv_aload_n hx hb dH_init_4 rfl (lv_at hl 0 rfl) ?_
  refine lv_bipush (v := nI 32) hx hb dH_init_5 (by decide) ?_
  refine bk_nz X hP hD hS hA 32 (by decide) (Nat.le_of_ble_eq_true rfl) (Nat.le_of_ble_eq_true rfl) dH_init_7 (fun q1 H hP hD hS => ?_)
  have hP : va_P g.1 bw_cl [(h0, .inr (0, [.null, .null, .null, .null, .null, .null, .null, .null, .null, .null, .int 0, .int 0, .int 0, .int 0])), (q1, .inl (g.2.1, 32, .inl (fun _ => 0)))] H := hP
  have hD : va_D (iA h0 S.heap.size) [(h0, .inr (0, [.null, .null, .null, .null, .null, .null, .null, .null, .null, .null, .int 0, .int 0, .int 0, .int 0])), (q1, .inl (g.2.1, 32, .inl (fun _ => 0)))] := hD
  refine va_putF (D := g.1) (ci := 0) (v := .ref q1) (ty := .array .boolean) (C := RH) (T := FH) (N := 14) hx hb hts inH tH tH_ok nH hown hK hP hD hS 0 rfl rfl 0 (by decide) (hts _ fH_taken) (fun _ h9 => h9) rfl hin rfl (by decide +kernel) rfl rfl (Nat.le_of_ble_eq_true rfl) dH_init_9 (fun H locs hP hD hS => ?_)
  have hP : va_P g.1 bw_cl [(h0, .inr (0, [.ref q1, .null, .null, .null, .null, .null, .null, .null, .null, .null, .int 0, .int 0, .int 0, .int 0])), (q1, .inl (g.2.1, 32, .inl (fun _ => 0)))] H := hP
  have hD : va_D (iA h0 S.heap.size) [(h0, .inr (0, [.ref q1, .null, .null, .null, .null, .null, .null, .null, .null, .null, .int 0, .int 0, .int 0, .int 0])), (q1, .inl (g.2.1, 32, .inl (fun _ => 0)))] := hD
  refine lv_aload_n hx hb dH_init_12 rfl (lv_at hl 0 rfl) ?_
  refine lv_bipush (v := nI 32) hx hb dH_init_13 (by decide) ?_
  refine bk_nz X hP hD hS hA 32 (by decide) (Nat.le_of_ble_eq_true rfl) (Nat.le_of_ble_eq_true rfl) dH_init_15 (fun q2 H hP hD hS => ?_)
  have hP : va_P g.1 bw_cl [(h0, .inr (0, [.ref q1, .null, .null, .null, .null, .null, .null, .null, .null, .null, .int 0, .int 0, .int 0, .int 0])), (q1, .inl (g.2.1, 32, .inl (fun _ => 0))), (q2, .inl (g.2.1, 32, .inl (fun _ => 0)))] H := hP
  have hD : va_D (iA h0 S.heap.size) [(h0, .inr (0, [.ref q1, .null, .null, .null, .null, .null, .null, .null, .null, .null, .int 0, .int 0, .int 0, .int 0])), (q1, .inl (g.2.1, 32, .inl (fun _ => 0))), (q2, .inl (g.2.1, 32, .inl (fun _ => 0)))] := hD
  refine va_putF (D := g.1) (ci := 0) (v := .ref q2) (ty := .array .boolean) (C := RH) (T := FH) (N := 14) hx hb hts inH tH tH_ok nH hown hK hP hD hS 0 rfl rfl 1 (by decide) (hts _ fH_bookmarked) (fun _ h9 => h9) rfl hin rfl (by decide +kernel) rfl rfl (Nat.le_of_ble_eq_true rfl) dH_init_17 (fun H locs hP hD hS => ?_)
  have hP : va_P g.1 bw_cl [(h0, .inr (0, [.ref q1, .ref q2, .null, .null, .null, .null, .null, .null, .null, .null, .int 0, .int 0, .int 0, .int 0])), (q1, .inl (g.2.1, 32, .inl (fun _ => 0))), (q2, .inl (g.2.1, 32, .inl (fun _ => 0)))] H := hP
  have hD : va_D (iA h0 S.heap.size) [(h0, .inr (0, [.ref q1, .ref q2, .null, .null, .null, .null, .null, .null, .null, .null, .int 0, .int 0, .int 0, .int 0])), (q1, .inl (g.2.1, 32, .inl (fun _ => 0))), (q2, .inl (g.2.1, 32, .inl (fun _ => 0)))] := hD
  refine lv_aload_n hx hb dH_init_20 rfl (lv_at hl 0 rfl) ?_
  refine lv_bipush (v := nI 32) hx hb dH_init_21 (by decide) ?_
  refine bk_ni X hP hD hS hA 32 (by decide) (Nat.le_of_ble_eq_true rfl) (Nat.le_of_ble_eq_true rfl) dH_init_23 (fun q3 H hP hD hS => ?_)
  have hP : va_P g.1 bw_cl [(h0, .inr (0, [.ref q1, .ref q2, .null, .null, .null, .null, .null, .null, .null, .null, .int 0, .int 0, .int 0, .int 0])), (q1, .inl (g.2.1, 32, .inl (fun _ => 0))), (q2, .inl (g.2.1, 32, .inl (fun _ => 0))), (q3, .inl (g.2.2.1, 32, .inl (fun _ => 0)))] H := hP
  have hD : va_D (iA h0 S.heap.size) [(h0, .inr (0, [.ref q1, .ref q2, .null, .null, .null, .null, .null, .null, .null, .null, .int 0, .int 0, .int 0, .int 0])), (q1, .inl (g.2.1, 32, .inl (fun _ => 0))), (q2, .inl (g.2.1, 32, .inl (fun _ => 0))), (q3, .inl (g.2.2.1, 32, .inl (fun _ => 0)))] := hD
  refine va_putF (D := g.1) (ci := 0) (v := .ref q3) (ty := .array .int) (C := RH) (T := FH) (N := 14) hx hb hts inH tH tH_ok nH hown hK hP hD hS 0 rfl rfl 2 (by decide) (hts _ fH_values) (fun _ h9 => h9) rfl hin rfl (by decide +kernel) rfl rfl (Nat.le_of_ble_eq_true rfl) dH_init_25 (fun H locs hP hD hS => ?_)
  have hP : va_P g.1 bw_cl [(h0, .inr (0, [.ref q1, .ref q2, .ref q3, .null, .null, .null, .null, .null, .null, .null, .int 0, .int 0, .int 0, .int 0])), (q1, .inl (g.2.1, 32, .inl (fun _ => 0))), (q2, .inl (g.2.1, 32, .inl (fun _ => 0))), (q3, .inl (g.2.2.1, 32, .inl (fun _ => 0)))] H := hP
  have hD : va_D (iA h0 S.heap.size) [(h0, .inr (0, [.ref q1, .ref q2, .ref q3, .null, .null, .null, .null, .null, .null, .null, .int 0, .int 0, .int 0, .int 0])), (q1, .inl (g.2.1, 32, .inl (fun _ => 0))), (q2, .inl (g.2.1, 32, .inl (fun _ => 0))), (q3, .inl (g.2.2.1, 32, .inl (fun _ => 0)))] := hD
  refine lv_aload_n hx hb dH_init_28 rfl (lv_at hl 0 rfl) ?_
  refine lv_bipush (v := nI 64) hx hb dH_init_29 (by decide) ?_
  refine bk_ni X hP hD hS hA 64 (by decide) (Nat.le_of_ble_eq_true rfl) (Nat.le_of_ble_eq_true rfl) dH_init_31 (fun q4 H hP hD hS => ?_)
  have hP : va_P g.1 bw_cl [(h0, .inr (0, [.ref q1, .ref q2, .ref q3, .null, .null, .null, .null, .null, .null, .null, .int 0, .int 0, .int 0, .int 0])), (q1, .inl (g.2.1, 32, .inl (fun _ => 0))), (q2, .inl (g.2.1, 32, .inl (fun _ => 0))), (q3, .inl (g.2.2.1, 32, .inl (fun _ => 0))), (q4, .inl (g.2.2.1, 64, .inl (fun _ => 0)))] H := hP
  have hD : va_D (iA h0 S.heap.size) [(h0, .inr (0, [.ref q1, .ref q2, .ref q3, .null, .null, .null, .null, .null, .null, .null, .int 0, .int 0, .int 0, .int 0])), (q1, .inl (g.2.1, 32, .inl (fun _ => 0))), (q2, .inl (g.2.1, 32, .inl (fun _ => 0))), (q3, .inl (g.2.2.1, 32, .inl (fun _ => 0))), (q4, .inl (g.2.2.1, 64, .inl (fun _ => 0)))] := hD
  refine va_putF (D := g.1) (ci := 0) (v := .ref q4) (ty := .array .int) (C := RH) (T := FH) (N := 14) hx hb hts inH tH tH_ok nH hown hK hP hD hS 0 rfl rfl 3 (by decide) (hts _ fH_fields) (fun _ h9 => h9) rfl hin rfl (by decide +kernel) rfl rfl (Nat.le_of_ble_eq_true rfl) dH_init_33 (fun H locs hP hD hS => ?_)
  have hP : va_P g.1 bw_cl [(h0, .inr (0, [.ref q1, .ref q2, .ref q3, .ref q4, .null, .null, .null, .null, .null, .null, .int 0, .int 0, .int 0, .int 0])), (q1, .inl (g.2.1, 32, .inl (fun _ => 0))), (q2, .inl (g.2.1, 32, .inl (fun _ => 0))), (q3, .inl (g.2.2.1, 32, .inl (fun _ => 0))), (q4, .inl (g.2.2.1, 64, .inl (fun _ => 0)))] H := hP
  have hD : va_D (iA h0 S.heap.size) [(h0, .inr (0, [.ref q1, .ref q2, .ref q3, .ref q4, .null, .null, .null, .null, .null, .null, .int 0, .int 0, .int 0, .int 0])), (q1, .inl (g.2.1, 32, .inl (fun _ => 0))), (q2, .inl (g.2.1, 32, .inl (fun _ => 0))), (q3, .inl (g.2.2.1, 32, .inl (fun _ => 0))), (q4, .inl (g.2.2.1, 64, .inl (fun _ => 0)))] := hD
  refine lv_aload_n hx hb dH_init_36 rfl (lv_at hl 0 rfl) ?_
  refine lv_iconst (v := nI 4) hx hb dH_init_37 (by decide) ?_
  refine bk_ni X hP hD hS hA 4 (by decide) (Nat.le_of_ble_eq_true rfl) (Nat.le_of_ble_eq_true rfl) dH_init_38 (fun q5 H hP hD hS => ?_)
  have hP : va_P g.1 bw_cl [(h0, .inr (0, [.ref q1, .ref q2, .ref q3, .ref q4, .null, .null, .null, .null, .null, .null, .int 0, .int 0, .int 0, .int 0])), (q1, .inl (g.2.1, 32, .inl (fun _ => 0))), (q2, .inl (g.2.1, 32, .inl (fun _ => 0))), (q3, .inl (g.2.2.1, 32, .inl (fun _ => 0))), (q4, .inl (g.2.2.1, 64, .inl (fun _ => 0))), (q5, .inl (g.2.2.1, 4, .inl (fun _ => 0)))] H := hP
  have hD : va_D (iA h0 S.heap.size) [(h0, .inr (0, [.ref q1, .ref q2, .ref q3, .ref q4, .null, .null, .null, .null, .null, .null, .int 0, .int 0, .int 0, .int 0])), (q1, .inl (g.2.1, 32, .inl (fun _ => 0))), (q2, .inl (g.2.1, 32, .inl (fun _ => 0))), (q3, .inl (g.2.2.1, 32, .inl (fun _ => 0))), (q4, .inl (g.2.2.1, 64, .inl (fun _ => 0))), (q5, .inl (g.2.2.1, 4, .inl (fun _ => 0)))] := hD
  refine va_putF (D := g.1) (ci := 0) (v := .ref q5) (ty := .array .int) (C := RH) (T := FH) (N := 14) hx hb hts inH tH tH_ok nH hown hK hP hD hS 0 rfl rfl 4 (by decide) (hts _ fH_registers) (fun _ h9 => h9) rfl hin rfl (by decide +kernel) rfl rfl (Nat.le_of_ble_eq_true rfl) dH_init_40 (fun H locs hP hD hS => ?_)
  have hP : va_P g.1 bw_cl [(h0, .inr (0, [.ref q1, .ref q2, .ref q3, .ref q4, .ref q5, .null, .null, .null, .null, .null, .int 0, .int 0, .int 0, .int 0])), (q1, .inl (g.2.1, 32, .inl (fun _ => 0))), (q2, .inl (g.2.1, 32, .inl (fun _ => 0))), (q3, .inl (g.2.2.1, 32, .inl (fun _ => 0))), (q4, .inl (g.2.2.1, 64, .inl (fun _ => 0))), (q5, .inl (g.2.2.1, 4, .inl (fun _ => 0)))] H := hP
  have hD : va_D (iA h0 S.heap.size) [(h0, .inr (0, [.ref q1, .ref q2, .ref q3, .ref q4, .ref q5, .null, .null, .null, .null, .null, .int 0, .int 0, .int 0, .int 0])), (q1, .inl (g.2.1, 32, .inl (fun _ => 0))), (q2, .inl (g.2.1, 32, .inl (fun _ => 0))), (q3, .inl (g.2.2.1, 32, .inl (fun _ => 0))), (q4, .inl (g.2.2.1, 64, .inl (fun _ => 0))), (q5, .inl (g.2.2.1, 4, .inl (fun _ => 0)))] := hD
  refine lv_aload_n hx hb dH_init_43 rfl (lv_at hl 0 rfl) ?_
  refine lv_bipush (v := nI 8) hx hb dH_init_44 (by decide) ?_
  refine bk_ni X hP hD hS hA 8 (by decide) (Nat.le_of_ble_eq_true rfl) (Nat.le_of_ble_eq_true rfl) dH_init_46 (fun q6 H hP hD hS => ?_)
  have hP : va_P g.1 bw_cl [(h0, .inr (0, [.ref q1, .ref q2, .ref q3, .ref q4, .ref q5, .null, .null, .null, .null, .null, .int 0, .int 0, .int 0, .int 0])), (q1, .inl (g.2.1, 32, .inl (fun _ => 0))), (q2, .inl (g.2.1, 32, .inl (fun _ => 0))), (q3, .inl (g.2.2.1, 32, .inl (fun _ => 0))), (q4, .inl (g.2.2.1, 64, .inl (fun _ => 0))), (q5, .inl (g.2.2.1, 4, .inl (fun _ => 0))), (q6, .inl (g.2.2.1, 8, .inl (fun _ => 0)))] H := hP
  have hD : va_D (iA h0 S.heap.size) [(h0, .inr (0, [.ref q1, .ref q2, .ref q3, .ref q4, .ref q5, .null, .null, .null, .null, .null, .int 0, .int 0, .int 0, .int 0])), (q1, .inl (g.2.1, 32, .inl (fun _ => 0))), (q2, .inl (g.2.1, 32, .inl (fun _ => 0))), (q3, .inl (g.2.2.1, 32, .inl (fun _ => 0))), (q4, .inl (g.2.2.1, 64, .inl (fun _ => 0))), (q5, .inl (g.2.2.1, 4, .inl (fun _ => 0))), (q6, .inl (g.2.2.1, 8, .inl (fun _ => 0)))] := hD
  refine va_putF (D := g.1) (ci := 0) (v := .ref q6) (ty := .array .int) (C := RH) (T := FH) (N := 14) hx hb hts inH tH tH_ok nH hown hK hP hD hS 0 rfl rfl 5 (by decide) (hts _ fH_states) (fun _ h9 => h9) rfl hin rfl (by decide +kernel) rfl rfl (Nat.le_of_ble_eq_true rfl) dH_init_48 (fun H locs hP hD hS => ?_)
  have hP : va_P g.1 bw_cl [(h0, .inr (0, [.ref q1, .ref q2, .ref q3, .ref q4, .ref q5, .ref q6, .null, .null, .null, .null, .int 0, .int 0, .int 0, .int 0])), (q1, .inl (g.2.1, 32, .inl (fun _ => 0))), (q2, .inl (g.2.1, 32, .inl (fun _ => 0))), (q3, .inl (g.2.2.1, 32, .inl (fun _ => 0))), (q4, .inl (g.2.2.1, 64, .inl (fun _ => 0))), (q5, .inl (g.2.2.1, 4, .inl (fun _ => 0))), (q6, .inl (g.2.2.1, 8, .inl (fun _ => 0)))] H := hP
  have hD : va_D (iA h0 S.heap.size) [(h0, .inr (0, [.ref q1, .ref q2, .ref q3, .ref q4, .ref q5, .ref q6, .null, .null, .null, .null, .int 0, .int 0, .int 0, .int 0])), (q1, .inl (g.2.1, 32, .inl (fun _ => 0))), (q2, .inl (g.2.1, 32, .inl (fun _ => 0))), (q3, .inl (g.2.2.1, 32, .inl (fun _ => 0))), (q4, .inl (g.2.2.1, 64, .inl (fun _ => 0))), (q5, .inl (g.2.2.1, 4, .inl (fun _ => 0))), (q6, .inl (g.2.2.1, 8, .inl (fun _ => 0)))] := hD
  refine lv_aload_n hx hb dH_init_51 rfl (lv_at hl 0 rfl) ?_
  refine lv_bipush (v := nI 8) hx hb dH_init_52 (by decide) ?_
  refine bk_nz X hP hD hS hA 8 (by decide) (Nat.le_of_ble_eq_true rfl) (Nat.le_of_ble_eq_true rfl) dH_init_54 (fun q7 H hP hD hS => ?_)
  have hP : va_P g.1 bw_cl [(h0, .inr (0, [.ref q1, .ref q2, .ref q3, .ref q4, .ref q5, .ref q6, .null, .null, .null, .null, .int 0, .int 0, .int 0, .int 0])), (q1, .inl (g.2.1, 32, .inl (fun _ => 0))), (q2, .inl (g.2.1, 32, .inl (fun _ => 0))), (q3, .inl (g.2.2.1, 32, .inl (fun _ => 0))), (q4, .inl (g.2.2.1, 64, .inl (fun _ => 0))), (q5, .inl (g.2.2.1, 4, .inl (fun _ => 0))), (q6, .inl (g.2.2.1, 8, .inl (fun _ => 0))), (q7, .inl (g.2.1, 8, .inl (fun _ => 0)))] H := hP
  have hD : va_D (iA h0 S.heap.size) [(h0, .inr (0, [.ref q1, .ref q2, .ref q3, .ref q4, .ref q5, .ref q6, .null, .null, .null, .null, .int 0, .int 0, .int 0, .int 0])), (q1, .inl (g.2.1, 32, .inl (fun _ => 0))), (q2, .inl (g.2.1, 32, .inl (fun _ => 0))), (q3, .inl (g.2.2.1, 32, .inl (fun _ => 0))), (q4, .inl (g.2.2.1, 64, .inl (fun _ => 0))), (q5, .inl (g.2.2.1, 4, .inl (fun _ => 0))), (q6, .inl (g.2.2.1, 8, .inl (fun _ => 0))), (q7, .inl (g.2.1, 8, .inl (fun _ => 0)))] := hD
  refine va_putF (D := g.1) (ci := 0) (v := .ref q7) (ty := .array .boolean) (C := RH) (T := FH) (N := 14) hx hb hts inH tH tH_ok nH hown hK hP hD hS 0 rfl rfl 6 (by decide) (hts _ fH_used) (fun _ h9 => h9) rfl hin rfl (by decide +kernel) rfl rfl (Nat.le_of_ble_eq_true rfl) dH_init_56 (fun H locs hP hD hS => ?_)
  have hP : va_P g.1 bw_cl [(h0, .inr (0, [.ref q1, .ref q2, .ref q3, .ref q4, .ref q5, .ref q6, .ref q7, .null, .null, .null, .int 0, .int 0, .int 0, .int 0])), (q1, .inl (g.2.1, 32, .inl (fun _ => 0))), (q2, .inl (g.2.1, 32, .inl (fun _ => 0))), (q3, .inl (g.2.2.1, 32, .inl (fun _ => 0))), (q4, .inl (g.2.2.1, 64, .inl (fun _ => 0))), (q5, .inl (g.2.2.1, 4, .inl (fun _ => 0))), (q6, .inl (g.2.2.1, 8, .inl (fun _ => 0))), (q7, .inl (g.2.1, 8, .inl (fun _ => 0)))] H := hP
  have hD : va_D (iA h0 S.heap.size) [(h0, .inr (0, [.ref q1, .ref q2, .ref q3, .ref q4, .ref q5, .ref q6, .ref q7, .null, .null, .null, .int 0, .int 0, .int 0, .int 0])), (q1, .inl (g.2.1, 32, .inl (fun _ => 0))), (q2, .inl (g.2.1, 32, .inl (fun _ => 0))), (q3, .inl (g.2.2.1, 32, .inl (fun _ => 0))), (q4, .inl (g.2.2.1, 64, .inl (fun _ => 0))), (q5, .inl (g.2.2.1, 4, .inl (fun _ => 0))), (q6, .inl (g.2.2.1, 8, .inl (fun _ => 0))), (q7, .inl (g.2.1, 8, .inl (fun _ => 0)))] := hD
  refine lv_aload_n hx hb dH_init_59 rfl (lv_at hl 0 rfl) ?_
  refine lv_bipush (v := nI 8) hx hb dH_init_60 (by decide) ?_
  refine bk_ni X hP hD hS hA 8 (by decide) (Nat.le_of_ble_eq_true rfl) (Nat.le_of_ble_eq_true rfl) dH_init_62 (fun q8 H hP hD hS => ?_)
  have hP : va_P g.1 bw_cl [(h0, .inr (0, [.ref q1, .ref q2, .ref q3, .ref q4, .ref q5, .ref q6, .ref q7, .null, .null, .null, .int 0, .int 0, .int 0, .int 0])), (q1, .inl (g.2.1, 32, .inl (fun _ => 0))), (q2, .inl (g.2.1, 32, .inl (fun _ => 0))), (q3, .inl (g.2.2.1, 32, .inl (fun _ => 0))), (q4, .inl (g.2.2.1, 64, .inl (fun _ => 0))), (q5, .inl (g.2.2.1, 4, .inl (fun _ => 0))), (q6, .inl (g.2.2.1, 8, .inl (fun _ => 0))), (q7, .inl (g.2.1, 8, .inl (fun _ => 0))), (q8, .inl (g.2.2.1, 8, .inl (fun _ => 0)))] H := hP
  have hD : va_D (iA h0 S.heap.size) [(h0, .inr (0, [.ref q1, .ref q2, .ref q3, .ref q4, .ref q5, .ref q6, .ref q7, .null, .null, .null, .int 0, .int 0, .int 0, .int 0])), (q1, .inl (g.2.1, 32, .inl (fun _ => 0))), (q2, .inl (g.2.1, 32, .inl (fun _ => 0))), (q3, .inl (g.2.2.1, 32, .inl (fun _ => 0))), (q4, .inl (g.2.2.1, 64, .inl (fun _ => 0))), (q5, .inl (g.2.2.1, 4, .inl (fun _ => 0))), (q6, .inl (g.2.2.1, 8, .inl (fun _ => 0))), (q7, .inl (g.2.1, 8, .inl (fun _ => 0))), (q8, .inl (g.2.2.1, 8, .inl (fun _ => 0)))] := hD
  refine va_putF (D := g.1) (ci := 0) (v := .ref q8) (ty := .array .int) (C := RH) (T := FH) (N := 14) hx hb hts inH tH tH_ok nH hown hK hP hD hS 0 rfl rfl 7 (by decide) (hts _ fH_counts) (fun _ h9 => h9) rfl hin rfl (by decide +kernel) rfl rfl (Nat.le_of_ble_eq_true rfl) dH_init_64 (fun H locs hP hD hS => ?_)
  have hP : va_P g.1 bw_cl [(h0, .inr (0, [.ref q1, .ref q2, .ref q3, .ref q4, .ref q5, .ref q6, .ref q7, .ref q8, .null, .null, .int 0, .int 0, .int 0, .int 0])), (q1, .inl (g.2.1, 32, .inl (fun _ => 0))), (q2, .inl (g.2.1, 32, .inl (fun _ => 0))), (q3, .inl (g.2.2.1, 32, .inl (fun _ => 0))), (q4, .inl (g.2.2.1, 64, .inl (fun _ => 0))), (q5, .inl (g.2.2.1, 4, .inl (fun _ => 0))), (q6, .inl (g.2.2.1, 8, .inl (fun _ => 0))), (q7, .inl (g.2.1, 8, .inl (fun _ => 0))), (q8, .inl (g.2.2.1, 8, .inl (fun _ => 0)))] H := hP
  have hD : va_D (iA h0 S.heap.size) [(h0, .inr (0, [.ref q1, .ref q2, .ref q3, .ref q4, .ref q5, .ref q6, .ref q7, .ref q8, .null, .null, .int 0, .int 0, .int 0, .int 0])), (q1, .inl (g.2.1, 32, .inl (fun _ => 0))), (q2, .inl (g.2.1, 32, .inl (fun _ => 0))), (q3, .inl (g.2.2.1, 32, .inl (fun _ => 0))), (q4, .inl (g.2.2.1, 64, .inl (fun _ => 0))), (q5, .inl (g.2.2.1, 4, .inl (fun _ => 0))), (q6, .inl (g.2.2.1, 8, .inl (fun _ => 0))), (q7, .inl (g.2.1, 8, .inl (fun _ => 0))), (q8, .inl (g.2.2.1, 8, .inl (fun _ => 0)))] := hD
  refine lv_aload_n hx hb dH_init_67 rfl (lv_at hl 0 rfl) ?_
  refine lv_bipush (v := nI 32) hx hb dH_init_68 (by decide) ?_
  refine bk_nz X hP hD hS hA 32 (by decide) (Nat.le_of_ble_eq_true rfl) (Nat.le_of_ble_eq_true rfl) dH_init_70 (fun q9 H hP hD hS => ?_)
  have hP : va_P g.1 bw_cl [(h0, .inr (0, [.ref q1, .ref q2, .ref q3, .ref q4, .ref q5, .ref q6, .ref q7, .ref q8, .null, .null, .int 0, .int 0, .int 0, .int 0])), (q1, .inl (g.2.1, 32, .inl (fun _ => 0))), (q2, .inl (g.2.1, 32, .inl (fun _ => 0))), (q3, .inl (g.2.2.1, 32, .inl (fun _ => 0))), (q4, .inl (g.2.2.1, 64, .inl (fun _ => 0))), (q5, .inl (g.2.2.1, 4, .inl (fun _ => 0))), (q6, .inl (g.2.2.1, 8, .inl (fun _ => 0))), (q7, .inl (g.2.1, 8, .inl (fun _ => 0))), (q8, .inl (g.2.2.1, 8, .inl (fun _ => 0))), (q9, .inl (g.2.1, 32, .inl (fun _ => 0)))] H := hP
  have hD : va_D (iA h0 S.heap.size) [(h0, .inr (0, [.ref q1, .ref q2, .ref q3, .ref q4, .ref q5, .ref q6, .ref q7, .ref q8, .null, .null, .int 0, .int 0, .int 0, .int 0])), (q1, .inl (g.2.1, 32, .inl (fun _ => 0))), (q2, .inl (g.2.1, 32, .inl (fun _ => 0))), (q3, .inl (g.2.2.1, 32, .inl (fun _ => 0))), (q4, .inl (g.2.2.1, 64, .inl (fun _ => 0))), (q5, .inl (g.2.2.1, 4, .inl (fun _ => 0))), (q6, .inl (g.2.2.1, 8, .inl (fun _ => 0))), (q7, .inl (g.2.1, 8, .inl (fun _ => 0))), (q8, .inl (g.2.2.1, 8, .inl (fun _ => 0))), (q9, .inl (g.2.1, 32, .inl (fun _ => 0)))] := hD
  refine va_putF (D := g.1) (ci := 0) (v := .ref q9) (ty := .array .boolean) (C := RH) (T := FH) (N := 14) hx hb hts inH tH tH_ok nH hown hK hP hD hS 0 rfl rfl 8 (by decide) (hts _ fH_kept) (fun _ h9 => h9) rfl hin rfl (by decide +kernel) rfl rfl (Nat.le_of_ble_eq_true rfl) dH_init_72 (fun H locs hP hD hS => ?_)
  have hP : va_P g.1 bw_cl [(h0, .inr (0, [.ref q1, .ref q2, .ref q3, .ref q4, .ref q5, .ref q6, .ref q7, .ref q8, .ref q9, .null, .int 0, .int 0, .int 0, .int 0])), (q1, .inl (g.2.1, 32, .inl (fun _ => 0))), (q2, .inl (g.2.1, 32, .inl (fun _ => 0))), (q3, .inl (g.2.2.1, 32, .inl (fun _ => 0))), (q4, .inl (g.2.2.1, 64, .inl (fun _ => 0))), (q5, .inl (g.2.2.1, 4, .inl (fun _ => 0))), (q6, .inl (g.2.2.1, 8, .inl (fun _ => 0))), (q7, .inl (g.2.1, 8, .inl (fun _ => 0))), (q8, .inl (g.2.2.1, 8, .inl (fun _ => 0))), (q9, .inl (g.2.1, 32, .inl (fun _ => 0)))] H := hP
  have hD : va_D (iA h0 S.heap.size) [(h0, .inr (0, [.ref q1, .ref q2, .ref q3, .ref q4, .ref q5, .ref q6, .ref q7, .ref q8, .ref q9, .null, .int 0, .int 0, .int 0, .int 0])), (q1, .inl (g.2.1, 32, .inl (fun _ => 0))), (q2, .inl (g.2.1, 32, .inl (fun _ => 0))), (q3, .inl (g.2.2.1, 32, .inl (fun _ => 0))), (q4, .inl (g.2.2.1, 64, .inl (fun _ => 0))), (q5, .inl (g.2.2.1, 4, .inl (fun _ => 0))), (q6, .inl (g.2.2.1, 8, .inl (fun _ => 0))), (q7, .inl (g.2.1, 8, .inl (fun _ => 0))), (q8, .inl (g.2.2.1, 8, .inl (fun _ => 0))), (q9, .inl (g.2.1, 32, .inl (fun _ => 0)))] := hD
  refine lv_aload_n hx hb dH_init_75 rfl (lv_at hl 0 rfl) ?_
  refine lv_bipush (v := nI 32) hx hb dH_init_76 (by decide) ?_
  refine bk_ni X hP hD hS hA 32 (by decide) (Nat.le_of_ble_eq_true rfl) (Nat.le_of_ble_eq_true rfl) dH_init_78 (fun q10 H hP hD hS => ?_)
  have hP : va_P g.1 bw_cl [(h0, .inr (0, [.ref q1, .ref q2, .ref q3, .ref q4, .ref q5, .ref q6, .ref q7, .ref q8, .ref q9, .null, .int 0, .int 0, .int 0, .int 0])), (q1, .inl (g.2.1, 32, .inl (fun _ => 0))), (q2, .inl (g.2.1, 32, .inl (fun _ => 0))), (q3, .inl (g.2.2.1, 32, .inl (fun _ => 0))), (q4, .inl (g.2.2.1, 64, .inl (fun _ => 0))), (q5, .inl (g.2.2.1, 4, .inl (fun _ => 0))), (q6, .inl (g.2.2.1, 8, .inl (fun _ => 0))), (q7, .inl (g.2.1, 8, .inl (fun _ => 0))), (q8, .inl (g.2.2.1, 8, .inl (fun _ => 0))), (q9, .inl (g.2.1, 32, .inl (fun _ => 0))), (q10, .inl (g.2.2.1, 32, .inl (fun _ => 0)))] H := hP
  have hD : va_D (iA h0 S.heap.size) [(h0, .inr (0, [.ref q1, .ref q2, .ref q3, .ref q4, .ref q5, .ref q6, .ref q7, .ref q8, .ref q9, .null, .int 0, .int 0, .int 0, .int 0])), (q1, .inl (g.2.1, 32, .inl (fun _ => 0))), (q2, .inl (g.2.1, 32, .inl (fun _ => 0))), (q3, .inl (g.2.2.1, 32, .inl (fun _ => 0))), (q4, .inl (g.2.2.1, 64, .inl (fun _ => 0))), (q5, .inl (g.2.2.1, 4, .inl (fun _ => 0))), (q6, .inl (g.2.2.1, 8, .inl (fun _ => 0))), (q7, .inl (g.2.1, 8, .inl (fun _ => 0))), (q8, .inl (g.2.2.1, 8, .inl (fun _ => 0))), (q9, .inl (g.2.1, 32, .inl (fun _ => 0))), (q10, .inl (g.2.2.1, 32, .inl (fun _ => 0)))] := hD
  refine va_putF (D := g.1) (ci := 0) (v := .ref q10) (ty := .array .int) (C := RH) (T := FH) (N := 14) hx hb hts inH tH tH_ok nH hown hK hP hD hS 0 rfl rfl 9 (by decide) (hts _ fH_keptPlaces) (fun _ h9 => h9) rfl hin rfl (by decide +kernel) rfl rfl (Nat.le_of_ble_eq_true rfl) dH_init_80 (fun H locs hP hD hS => ?_)
  have hP : va_P g.1 bw_cl [(h0, .inr (0, [.ref q1, .ref q2, .ref q3, .ref q4, .ref q5, .ref q6, .ref q7, .ref q8, .ref q9, .ref q10, .int 0, .int 0, .int 0, .int 0])), (q1, .inl (g.2.1, 32, .inl (fun _ => 0))), (q2, .inl (g.2.1, 32, .inl (fun _ => 0))), (q3, .inl (g.2.2.1, 32, .inl (fun _ => 0))), (q4, .inl (g.2.2.1, 64, .inl (fun _ => 0))), (q5, .inl (g.2.2.1, 4, .inl (fun _ => 0))), (q6, .inl (g.2.2.1, 8, .inl (fun _ => 0))), (q7, .inl (g.2.1, 8, .inl (fun _ => 0))), (q8, .inl (g.2.2.1, 8, .inl (fun _ => 0))), (q9, .inl (g.2.1, 32, .inl (fun _ => 0))), (q10, .inl (g.2.2.1, 32, .inl (fun _ => 0)))] H := hP
  have hD : va_D (iA h0 S.heap.size) [(h0, .inr (0, [.ref q1, .ref q2, .ref q3, .ref q4, .ref q5, .ref q6, .ref q7, .ref q8, .ref q9, .ref q10, .int 0, .int 0, .int 0, .int 0])), (q1, .inl (g.2.1, 32, .inl (fun _ => 0))), (q2, .inl (g.2.1, 32, .inl (fun _ => 0))), (q3, .inl (g.2.2.1, 32, .inl (fun _ => 0))), (q4, .inl (g.2.2.1, 64, .inl (fun _ => 0))), (q5, .inl (g.2.2.1, 4, .inl (fun _ => 0))), (q6, .inl (g.2.2.1, 8, .inl (fun _ => 0))), (q7, .inl (g.2.1, 8, .inl (fun _ => 0))), (q8, .inl (g.2.2.1, 8, .inl (fun _ => 0))), (q9, .inl (g.2.1, 32, .inl (fun _ => 0))), (q10, .inl (g.2.2.1, 32, .inl (fun _ => 0)))] := hD
  refine W.widen (k := 10) (n := 252) (by omega) (by omega) ?_
  obtain ⟨a, ea⟩ : ∃ a : Nat → Nat, a = fun k => [h0, q1, q2, q3, q4, q5, q6, q7, q8, q9, q10].getD k 0 := ⟨_, rfl⟩
  have ea0 : a 0 = h0 := by rw [ea]; rfl
  have Y : Yw g (wldH g a) (iA h0 S.heap.size) S H locs iH_00 := by rw [ea]; exact ⟨hP, hD, hS⟩
  have hl : lv_has ls 1 [(0, .ref (a 0))] := by rw [ea0]; exact hl
  clear hP hD hS
  have ret : ∀ (H : Heap) (locs : List Loc) (pc : Nat) (ls : Array Slot), Yw g (wldH g a) (iA h0 S.heap.size) S H locs h_init → decode cH_init pc = .ok (.return_, 1) → W p l e ({ frames := 1, cells := 10, slots := 252, locals := 23 }) S m [Value.ref h0].toArray below meth c H locs 10 252 (MQ below (va_Qv (fun a : Nat → Nat => a 0 = h0 ∧ apH a ∧ ∀ k, 0 < k → k < 11 → S.heap.size ≤ a k) (fun a U => va_P g.1 bw_cl (wldH g a h_init) U.heap) (iA h0 S.heap.size)) [Value.ref h0].toArray S 10 252 (iA h0 S.heap.size)) (F0 m pc ls []) := by
    intro H locs pc ls Y hd
    obtain ⟨f1, f2⟩ := wldH_fin ea0 Y.2.1
    exact W.vret hx hb B.returns (fun t ht hW => ⟨⟨a, rfl, ⟨ea0, f1, f2⟩, by show va_P g.1 bw_cl (wldH g a h_init) t.heap; rw [ht]; exact Y.1⟩, Y.2.2.F ht⟩) Y.2.2.2.2 hd
  refine lv_aload_n hx hb dH_init_83 rfl (lv_at hl 0 rfl) ?_
  refine rH_FD X Y dH_init_84 ?_
  refine lv_iconst (v := -1) hx hb dH_init_87 (by decide) ?_
  refine hh_fillFD X Y ⟨Nat.le_of_ble_eq_true rfl, Nat.le_of_ble_eq_true rfl⟩ ⟨Nat.le_of_ble_eq_true rfl, Nat.le_of_ble_eq_true rfl⟩ hl.1 dH_init_88 (fun H locs Y => ?_)
  refine lv_aload_n hx hb dH_init_91 rfl (lv_at hl 0 rfl) ?_
  refine rH_RG X Y dH_init_92 ?_
  refine lv_iconst (v := -1) hx hb dH_init_95 (by decide) ?_
  refine hh_fillRG X Y ⟨Nat.le_of_ble_eq_true rfl, Nat.le_of_ble_eq_true rfl⟩ ⟨Nat.le_of_ble_eq_true rfl, Nat.le_of_ble_eq_true rfl⟩ hl.1 dH_init_96 (fun H locs Y => ?_)
  refine lv_aload_n hx hb dH_init_99 rfl (lv_at hl 0 rfl) ?_
  refine lv_iconst (v := nI 4) hx hb dH_init_100 (by decide) ?_
  refine pH_BU X Y ⟨4, by decide⟩ rfl dH_init_101 (fun H locs Y => ?_)
  exact ret _ _ _ _ Y dH_init_104
def iM_00 : MS := (fun _ => false, fun _ => 0, fun _ => some ⟨0, by decide⟩, fun _ => false, fun _ => false, fun _ => ⟨0, by decide⟩, fun _ => false, fun _ => some ⟨0, by decide⟩, ⟨0, by decide⟩, ⟨0, by decide⟩, 0, 0)
def m_ir (r : Nat) (s : MS) : MS := uM_RG s r none
def m_init : MS := fldN m_ir (uM_BU iM_00 ⟨4, by decide⟩) 4
def kM_init : List Cond := bw yM_init cM_init 2 none
abbrev iM_F : List Value := [.null, .null, .null, .null, .null, .null, .null, .null, .int 0, .int 0, .int 0, .int 0]
theorem wldM_get {g : GG} {a : Nat → Nat} {s : MS} {i : Nat} (hi : i < 9) : ∃ e, (wldM g a s)[i]? = some (a i, e) := by
  rcases (show i = 0 ∨ i = 1 ∨ i = 2 ∨ i = 3 ∨ i = 4 ∨ i = 5 ∨ i = 6 ∨ i = 7 ∨ i = 8 by omega) with rfl | rfl | rfl | rfl | rfl | rfl | rfl | rfl | rfl <;> exact ⟨_, rfl⟩
theorem wldM_fin {g : GG} {a : Nat → Nat} {s : MS} {h0 sz : Nat} (h : a 0 = h0) (hD : va_D (iA h0 sz) (wldM g a s)) : apM a ∧ ∀ k, 0 < k → k < 9 → sz ≤ a k := by
  have h1 : apM a := fun i j hi hj e => by
    obtain ⟨e1, g1⟩ := wldM_get (g := g) (a := a) (s := s) hi
    obtain ⟨e2, g2⟩ := wldM_get (g := g) (a := a) (s := s) hj
    exact hD.1 i j _ _ g1 g2 e
  refine ⟨h1, fun k hk hk2 => ?_⟩
  obtain ⟨e1, g1⟩ := wldM_get (g := g) (a := a) (s := s) hk2
  rcases hD.2 k _ g1 with z | z
  · exact absurd (h1 k 0 hk2 (by omega) (z.trans h.symm)) (by omega)
  · exact z
set_option maxHeartbeats 4000000 in
set_option maxRecDepth 100000 in
theorem tM_init (l : Launch) (g : GG) (h0 sz : Nat) : Met l yM_init kM_init ({ frames := 1, cells := 8, slots := 212, locals := 23 }) (va_Pc [.ref h0] (fun U => U.heap.size = sz ∧ va_P g.1 bw_cl [(h0, .inr (1, iM_F))] U.heap ∧ va_K g.1 bw_cl (bw_ty g) U)) (va_Qv (fun a : Nat → Nat => a 0 = h0 ∧ apM a ∧ ∀ k, 0 < k → k < 9 → sz ≤ a k) (fun a U => va_P g.1 bw_cl (wldM g a m_init) U.heap) (iA h0 sz)) 8 212 (iA h0 sz) := by
  refine Met.ofW (cc := cM_init) (maxL := 2) (ret := none) (by decide) rfl ?_
  intro p e S m args below meth c s₁ B hml hv
  obtain ⟨rfl, hsz, hP, hK⟩ := hv
  have hx := B.exec
  have hb := B.bytes
  have hts0 := atoms_spec (ws := kM_init) B.pre
  have hown : S.vm.findClass RM = some m.cls := findClass_of_methodNamed B.named
  have hlocks := B.notSynchronized
  have hin : meth.name = "<init>" := (name_of_methodNamed B.named B.method).1
  subst hsz
  have X : Cx RM g p S m [Value.ref h0].toArray meth c cM_init 2 none := ⟨hx, hb, B.returns, hml, hown, fun w h => hts0 w (List.mem_cons_of_mem _ h), hK, hlocks⟩
  have hts := X.2.2.2.2.2.1
  have hA : ∀ q : Nat, S.heap.size ≤ q → iA h0 S.heap.size q := fun q h => Or.inr h
  have hS : va_S (iA h0 S.heap.size) S.heap S.heap [] := va_S.rf
  have hD := iD h0 S.heap.size (.inr (1, iM_F))
  have hl := lv_entry ([.ref h0]) (n := 2) (Nat.le_of_ble_eq_true rfl)
  rw [lg_entry_eq]
  generalize (lg_sl ([.ref h0]) ++ List.replicate (2 - (lg_sl ([.ref h0])).length) Slot.unset).toArray = ls at hl ⊢
  have hl : lv_has ls 2 [(0, .ref h0)] := hl
  refine lv_aload_n hx hb dM_init_0 rfl (lv_at hl 0 rfl) ?_
  refine W.objInit hx hb hown (hts (.methodLink RM 1 objectInit) (by decide +kernel)) (hts (.instanceMethod objectInit) (by decide +kernel)) (hts (.code objectInit ⟨#[0xb1]⟩ 1 none) oi_code) rfl (by rw [hml]; exact hl.1) rfl dM_init_1 (Nat.le_of_ble_eq_true rfl) (Nat.le_of_ble_eq_true rfl) ?_
  refine W.eq (g2 := F0 m 4 ls []) rfl ?_
  refine lv_aload_n hx hb dM_init_4 rfl (lv_at hl 0 rfl) ?_
  refine lv_bipush (v := nI 32) hx hb dM_init_5 (by decide) ?_
  refine bk_nz X hP hD hS hA 32 (by decide) (Nat.le_of_ble_eq_true rfl) (Nat.le_of_ble_eq_true rfl) dM_init_7 (fun q1 H hP hD hS => ?_)
  have hP : va_P g.1 bw_cl [(h0, .inr (1, [.null, .null, .null, .null, .null, .null, .null, .null, .int 0, .int 0, .int 0, .int 0])), (q1, .inl (g.2.1, 32, .inl (fun _ => 0)))] H := hP
  have hD : va_D (iA h0 S.heap.size) [(h0, .inr (1, [.null, .null, .null, .null, .null, .null, .null, .null, .int 0, .int 0, .int 0, .int 0])), (q1, .inl (g.2.1, 32, .inl (fun _ => 0)))] := hD
  refine va_putF (D := g.1) (ci := 1) (v := .ref q1) (ty := .array .boolean) (C := RM) (T := FM) (N := 12) hx hb hts inM tM tM_ok nM hown hK hP hD hS 0 rfl rfl 0 (by decide) (hts _ fM_there) (fun _ h9 => h9) rfl hin rfl (by decide +kernel) rfl rfl (Nat.le_of_ble_eq_true rfl) dM_init_9 (fun H locs hP hD hS => ?_)
  have hP : va_P g.1 bw_cl [(h0, .inr (1, [.ref q1, .null, .null, .null, .null, .null, .null, .null, .int 0, .int 0, .int 0, .int 0])), (q1, .inl (g.2.1, 32, .inl (fun _ => 0)))] H := hP
  have hD : va_D (iA h0 S.heap.size) [(h0, .inr (1, [.ref q1, .null, .null, .null, .null, .null, .null, .null, .int 0, .int 0, .int 0, .int 0])), (q1, .inl (g.2.1, 32, .inl (fun _ => 0)))] := hD
  refine lv_aload_n hx hb dM_init_12 rfl (lv_at hl 0 rfl) ?_
  refine lv_bipush (v := nI 32) hx hb dM_init_13 (by decide) ?_
  refine bk_ni X hP hD hS hA 32 (by decide) (Nat.le_of_ble_eq_true rfl) (Nat.le_of_ble_eq_true rfl) dM_init_15 (fun q2 H hP hD hS => ?_)
  have hP : va_P g.1 bw_cl [(h0, .inr (1, [.ref q1, .null, .null, .null, .null, .null, .null, .null, .int 0, .int 0, .int 0, .int 0])), (q1, .inl (g.2.1, 32, .inl (fun _ => 0))), (q2, .inl (g.2.2.1, 32, .inl (fun _ => 0)))] H := hP
  have hD : va_D (iA h0 S.heap.size) [(h0, .inr (1, [.ref q1, .null, .null, .null, .null, .null, .null, .null, .int 0, .int 0, .int 0, .int 0])), (q1, .inl (g.2.1, 32, .inl (fun _ => 0))), (q2, .inl (g.2.2.1, 32, .inl (fun _ => 0)))] := hD
  refine va_putF (D := g.1) (ci := 1) (v := .ref q2) (ty := .array .int) (C := RM) (T := FM) (N := 12) hx hb hts inM tM tM_ok nM hown hK hP hD hS 0 rfl rfl 1 (by decide) (hts _ fM_values) (fun _ h9 => h9) rfl hin rfl (by decide +kernel) rfl rfl (Nat.le_of_ble_eq_true rfl) dM_init_17 (fun H locs hP hD hS => ?_)
  have hP : va_P g.1 bw_cl [(h0, .inr (1, [.ref q1, .ref q2, .null, .null, .null, .null, .null, .null, .int 0, .int 0, .int 0, .int 0])), (q1, .inl (g.2.1, 32, .inl (fun _ => 0))), (q2, .inl (g.2.2.1, 32, .inl (fun _ => 0)))] H := hP
  have hD : va_D (iA h0 S.heap.size) [(h0, .inr (1, [.ref q1, .ref q2, .null, .null, .null, .null, .null, .null, .int 0, .int 0, .int 0, .int 0])), (q1, .inl (g.2.1, 32, .inl (fun _ => 0))), (q2, .inl (g.2.2.1, 32, .inl (fun _ => 0)))] := hD
  refine lv_aload_n hx hb dM_init_20 rfl (lv_at hl 0 rfl) ?_
  refine lv_bipush (v := nI 64) hx hb dM_init_21 (by decide) ?_
  refine bk_ni X hP hD hS hA 64 (by decide) (Nat.le_of_ble_eq_true rfl) (Nat.le_of_ble_eq_true rfl) dM_init_23 (fun q3 H hP hD hS => ?_)
  have hP : va_P g.1 bw_cl [(h0, .inr (1, [.ref q1, .ref q2, .null, .null, .null, .null, .null, .null, .int 0, .int 0, .int 0, .int 0])), (q1, .inl (g.2.1, 32, .inl (fun _ => 0))), (q2, .inl (g.2.2.1, 32, .inl (fun _ => 0))), (q3, .inl (g.2.2.1, 64, .inl (fun _ => 0)))] H := hP
  have hD : va_D (iA h0 S.heap.size) [(h0, .inr (1, [.ref q1, .ref q2, .null, .null, .null, .null, .null, .null, .int 0, .int 0, .int 0, .int 0])), (q1, .inl (g.2.1, 32, .inl (fun _ => 0))), (q2, .inl (g.2.2.1, 32, .inl (fun _ => 0))), (q3, .inl (g.2.2.1, 64, .inl (fun _ => 0)))] := hD
  refine va_putF (D := g.1) (ci := 1) (v := .ref q3) (ty := .array .int) (C := RM) (T := FM) (N := 12) hx hb hts inM tM tM_ok nM hown hK hP hD hS 0 rfl rfl 2 (by decide) (hts _ fM_fields) (fun _ h9 => h9) rfl hin rfl (by decide +kernel) rfl rfl (Nat.le_of_ble_eq_true rfl) dM_init_25 (fun H locs hP hD hS => ?_)
  have hP : va_P g.1 bw_cl [(h0, .inr (1, [.ref q1, .ref q2, .ref q3, .null, .null, .null, .null, .null, .int 0, .int 0, .int 0, .int 0])), (q1, .inl (g.2.1, 32, .inl (fun _ => 0))), (q2, .inl (g.2.2.1, 32, .inl (fun _ => 0))), (q3, .inl (g.2.2.1, 64, .inl (fun _ => 0)))] H := hP
  have hD : va_D (iA h0 S.heap.size) [(h0, .inr (1, [.ref q1, .ref q2, .ref q3, .null, .null, .null, .null, .null, .int 0, .int 0, .int 0, .int 0])), (q1, .inl (g.2.1, 32, .inl (fun _ => 0))), (q2, .inl (g.2.2.1, 32, .inl (fun _ => 0))), (q3, .inl (g.2.2.1, 64, .inl (fun _ => 0)))] := hD
  refine lv_aload_n hx hb dM_init_28 rfl (lv_at hl 0 rfl) ?_
  refine lv_bipush (v := nI 32) hx hb dM_init_29 (by decide) ?_
  refine bk_nz X hP hD hS hA 32 (by decide) (Nat.le_of_ble_eq_true rfl) (Nat.le_of_ble_eq_true rfl) dM_init_31 (fun q4 H hP hD hS => ?_)
  have hP : va_P g.1 bw_cl [(h0, .inr (1, [.ref q1, .ref q2, .ref q3, .null, .null, .null, .null, .null, .int 0, .int 0, .int 0, .int 0])), (q1, .inl (g.2.1, 32, .inl (fun _ => 0))), (q2, .inl (g.2.2.1, 32, .inl (fun _ => 0))), (q3, .inl (g.2.2.1, 64, .inl (fun _ => 0))), (q4, .inl (g.2.1, 32, .inl (fun _ => 0)))] H := hP
  have hD : va_D (iA h0 S.heap.size) [(h0, .inr (1, [.ref q1, .ref q2, .ref q3, .null, .null, .null, .null, .null, .int 0, .int 0, .int 0, .int 0])), (q1, .inl (g.2.1, 32, .inl (fun _ => 0))), (q2, .inl (g.2.2.1, 32, .inl (fun _ => 0))), (q3, .inl (g.2.2.1, 64, .inl (fun _ => 0))), (q4, .inl (g.2.1, 32, .inl (fun _ => 0)))] := hD
  refine va_putF (D := g.1) (ci := 1) (v := .ref q4) (ty := .array .boolean) (C := RM) (T := FM) (N := 12) hx hb hts inM tM tM_ok nM hown hK hP hD hS 0 rfl rfl 3 (by decide) (hts _ fM_marked) (fun _ h9 => h9) rfl hin rfl (by decide +kernel) rfl rfl (Nat.le_of_ble_eq_true rfl) dM_init_33 (fun H locs hP hD hS => ?_)
  have hP : va_P g.1 bw_cl [(h0, .inr (1, [.ref q1, .ref q2, .ref q3, .ref q4, .null, .null, .null, .null, .int 0, .int 0, .int 0, .int 0])), (q1, .inl (g.2.1, 32, .inl (fun _ => 0))), (q2, .inl (g.2.2.1, 32, .inl (fun _ => 0))), (q3, .inl (g.2.2.1, 64, .inl (fun _ => 0))), (q4, .inl (g.2.1, 32, .inl (fun _ => 0)))] H := hP
  have hD : va_D (iA h0 S.heap.size) [(h0, .inr (1, [.ref q1, .ref q2, .ref q3, .ref q4, .null, .null, .null, .null, .int 0, .int 0, .int 0, .int 0])), (q1, .inl (g.2.1, 32, .inl (fun _ => 0))), (q2, .inl (g.2.2.1, 32, .inl (fun _ => 0))), (q3, .inl (g.2.2.1, 64, .inl (fun _ => 0))), (q4, .inl (g.2.1, 32, .inl (fun _ => 0)))] := hD
  refine lv_aload_n hx hb dM_init_36 rfl (lv_at hl 0 rfl) ?_
  refine lv_bipush (v := nI 32) hx hb dM_init_37 (by decide) ?_
  refine bk_nz X hP hD hS hA 32 (by decide) (Nat.le_of_ble_eq_true rfl) (Nat.le_of_ble_eq_true rfl) dM_init_39 (fun q5 H hP hD hS => ?_)
  have hP : va_P g.1 bw_cl [(h0, .inr (1, [.ref q1, .ref q2, .ref q3, .ref q4, .null, .null, .null, .null, .int 0, .int 0, .int 0, .int 0])), (q1, .inl (g.2.1, 32, .inl (fun _ => 0))), (q2, .inl (g.2.2.1, 32, .inl (fun _ => 0))), (q3, .inl (g.2.2.1, 64, .inl (fun _ => 0))), (q4, .inl (g.2.1, 32, .inl (fun _ => 0))), (q5, .inl (g.2.1, 32, .inl (fun _ => 0)))] H := hP
  have hD : va_D (iA h0 S.heap.size) [(h0, .inr (1, [.ref q1, .ref q2, .ref q3, .ref q4, .null, .null, .null, .null, .int 0, .int 0, .int 0, .int 0])), (q1, .inl (g.2.1, 32, .inl (fun _ => 0))), (q2, .inl (g.2.2.1, 32, .inl (fun _ => 0))), (q3, .inl (g.2.2.1, 64, .inl (fun _ => 0))), (q4, .inl (g.2.1, 32, .inl (fun _ => 0))), (q5, .inl (g.2.1, 32, .inl (fun _ => 0)))] := hD
  refine va_putF (D := g.1) (ci := 1) (v := .ref q5) (ty := .array .boolean) (C := RM) (T := FM) (N := 12) hx hb hts inM tM tM_ok nM hown hK hP hD hS 0 rfl rfl 4 (by decide) (hts _ fM_kept) (fun _ h9 => h9) rfl hin rfl (by decide +kernel) rfl rfl (Nat.le_of_ble_eq_true rfl) dM_init_41 (fun H locs hP hD hS => ?_)
  have hP : va_P g.1 bw_cl [(h0, .inr (1, [.ref q1, .ref q2, .ref q3, .ref q4, .ref q5, .null, .null, .null, .int 0, .int 0, .int 0, .int 0])), (q1, .inl (g.2.1, 32, .inl (fun _ => 0))), (q2, .inl (g.2.2.1, 32, .inl (fun _ => 0))), (q3, .inl (g.2.2.1, 64, .inl (fun _ => 0))), (q4, .inl (g.2.1, 32, .inl (fun _ => 0))), (q5, .inl (g.2.1, 32, .inl (fun _ => 0)))] H := hP
  have hD : va_D (iA h0 S.heap.size) [(h0, .inr (1, [.ref q1, .ref q2, .ref q3, .ref q4, .ref q5, .null, .null, .null, .int 0, .int 0, .int 0, .int 0])), (q1, .inl (g.2.1, 32, .inl (fun _ => 0))), (q2, .inl (g.2.2.1, 32, .inl (fun _ => 0))), (q3, .inl (g.2.2.1, 64, .inl (fun _ => 0))), (q4, .inl (g.2.1, 32, .inl (fun _ => 0))), (q5, .inl (g.2.1, 32, .inl (fun _ => 0)))] := hD
  refine lv_aload_n hx hb dM_init_44 rfl (lv_at hl 0 rfl) ?_
  refine lv_bipush (v := nI 8) hx hb dM_init_45 (by decide) ?_
  refine bk_ni X hP hD hS hA 8 (by decide) (Nat.le_of_ble_eq_true rfl) (Nat.le_of_ble_eq_true rfl) dM_init_47 (fun q6 H hP hD hS => ?_)
  have hP : va_P g.1 bw_cl [(h0, .inr (1, [.ref q1, .ref q2, .ref q3, .ref q4, .ref q5, .null, .null, .null, .int 0, .int 0, .int 0, .int 0])), (q1, .inl (g.2.1, 32, .inl (fun _ => 0))), (q2, .inl (g.2.2.1, 32, .inl (fun _ => 0))), (q3, .inl (g.2.2.1, 64, .inl (fun _ => 0))), (q4, .inl (g.2.1, 32, .inl (fun _ => 0))), (q5, .inl (g.2.1, 32, .inl (fun _ => 0))), (q6, .inl (g.2.2.1, 8, .inl (fun _ => 0)))] H := hP
  have hD : va_D (iA h0 S.heap.size) [(h0, .inr (1, [.ref q1, .ref q2, .ref q3, .ref q4, .ref q5, .null, .null, .null, .int 0, .int 0, .int 0, .int 0])), (q1, .inl (g.2.1, 32, .inl (fun _ => 0))), (q2, .inl (g.2.2.1, 32, .inl (fun _ => 0))), (q3, .inl (g.2.2.1, 64, .inl (fun _ => 0))), (q4, .inl (g.2.1, 32, .inl (fun _ => 0))), (q5, .inl (g.2.1, 32, .inl (fun _ => 0))), (q6, .inl (g.2.2.1, 8, .inl (fun _ => 0)))] := hD
  refine va_putF (D := g.1) (ci := 1) (v := .ref q6) (ty := .array .int) (C := RM) (T := FM) (N := 12) hx hb hts inM tM tM_ok nM hown hK hP hD hS 0 rfl rfl 5 (by decide) (hts _ fM_state) (fun _ h9 => h9) rfl hin rfl (by decide +kernel) rfl rfl (Nat.le_of_ble_eq_true rfl) dM_init_49 (fun H locs hP hD hS => ?_)
  have hP : va_P g.1 bw_cl [(h0, .inr (1, [.ref q1, .ref q2, .ref q3, .ref q4, .ref q5, .ref q6, .null, .null, .int 0, .int 0, .int 0, .int 0])), (q1, .inl (g.2.1, 32, .inl (fun _ => 0))), (q2, .inl (g.2.2.1, 32, .inl (fun _ => 0))), (q3, .inl (g.2.2.1, 64, .inl (fun _ => 0))), (q4, .inl (g.2.1, 32, .inl (fun _ => 0))), (q5, .inl (g.2.1, 32, .inl (fun _ => 0))), (q6, .inl (g.2.2.1, 8, .inl (fun _ => 0)))] H := hP
  have hD : va_D (iA h0 S.heap.size) [(h0, .inr (1, [.ref q1, .ref q2, .ref q3, .ref q4, .ref q5, .ref q6, .null, .null, .int 0, .int 0, .int 0, .int 0])), (q1, .inl (g.2.1, 32, .inl (fun _ => 0))), (q2, .inl (g.2.2.1, 32, .inl (fun _ => 0))), (q3, .inl (g.2.2.1, 64, .inl (fun _ => 0))), (q4, .inl (g.2.1, 32, .inl (fun _ => 0))), (q5, .inl (g.2.1, 32, .inl (fun _ => 0))), (q6, .inl (g.2.2.1, 8, .inl (fun _ => 0)))] := hD
  refine lv_aload_n hx hb dM_init_52 rfl (lv_at hl 0 rfl) ?_
  refine lv_bipush (v := nI 8) hx hb dM_init_53 (by decide) ?_
  refine bk_nz X hP hD hS hA 8 (by decide) (Nat.le_of_ble_eq_true rfl) (Nat.le_of_ble_eq_true rfl) dM_init_55 (fun q7 H hP hD hS => ?_)
  have hP : va_P g.1 bw_cl [(h0, .inr (1, [.ref q1, .ref q2, .ref q3, .ref q4, .ref q5, .ref q6, .null, .null, .int 0, .int 0, .int 0, .int 0])), (q1, .inl (g.2.1, 32, .inl (fun _ => 0))), (q2, .inl (g.2.2.1, 32, .inl (fun _ => 0))), (q3, .inl (g.2.2.1, 64, .inl (fun _ => 0))), (q4, .inl (g.2.1, 32, .inl (fun _ => 0))), (q5, .inl (g.2.1, 32, .inl (fun _ => 0))), (q6, .inl (g.2.2.1, 8, .inl (fun _ => 0))), (q7, .inl (g.2.1, 8, .inl (fun _ => 0)))] H := hP
  have hD : va_D (iA h0 S.heap.size) [(h0, .inr (1, [.ref q1, .ref q2, .ref q3, .ref q4, .ref q5, .ref q6, .null, .null, .int 0, .int 0, .int 0, .int 0])), (q1, .inl (g.2.1, 32, .inl (fun _ => 0))), (q2, .inl (g.2.2.1, 32, .inl (fun _ => 0))), (q3, .inl (g.2.2.1, 64, .inl (fun _ => 0))), (q4, .inl (g.2.1, 32, .inl (fun _ => 0))), (q5, .inl (g.2.1, 32, .inl (fun _ => 0))), (q6, .inl (g.2.2.1, 8, .inl (fun _ => 0))), (q7, .inl (g.2.1, 8, .inl (fun _ => 0)))] := hD
  refine va_putF (D := g.1) (ci := 1) (v := .ref q7) (ty := .array .boolean) (C := RM) (T := FM) (N := 12) hx hb hts inM tM tM_ok nM hown hK hP hD hS 0 rfl rfl 6 (by decide) (hts _ fM_used) (fun _ h9 => h9) rfl hin rfl (by decide +kernel) rfl rfl (Nat.le_of_ble_eq_true rfl) dM_init_57 (fun H locs hP hD hS => ?_)
  have hP : va_P g.1 bw_cl [(h0, .inr (1, [.ref q1, .ref q2, .ref q3, .ref q4, .ref q5, .ref q6, .ref q7, .null, .int 0, .int 0, .int 0, .int 0])), (q1, .inl (g.2.1, 32, .inl (fun _ => 0))), (q2, .inl (g.2.2.1, 32, .inl (fun _ => 0))), (q3, .inl (g.2.2.1, 64, .inl (fun _ => 0))), (q4, .inl (g.2.1, 32, .inl (fun _ => 0))), (q5, .inl (g.2.1, 32, .inl (fun _ => 0))), (q6, .inl (g.2.2.1, 8, .inl (fun _ => 0))), (q7, .inl (g.2.1, 8, .inl (fun _ => 0)))] H := hP
  have hD : va_D (iA h0 S.heap.size) [(h0, .inr (1, [.ref q1, .ref q2, .ref q3, .ref q4, .ref q5, .ref q6, .ref q7, .null, .int 0, .int 0, .int 0, .int 0])), (q1, .inl (g.2.1, 32, .inl (fun _ => 0))), (q2, .inl (g.2.2.1, 32, .inl (fun _ => 0))), (q3, .inl (g.2.2.1, 64, .inl (fun _ => 0))), (q4, .inl (g.2.1, 32, .inl (fun _ => 0))), (q5, .inl (g.2.1, 32, .inl (fun _ => 0))), (q6, .inl (g.2.2.1, 8, .inl (fun _ => 0))), (q7, .inl (g.2.1, 8, .inl (fun _ => 0)))] := hD
  refine lv_aload_n hx hb dM_init_60 rfl (lv_at hl 0 rfl) ?_
  refine lv_iconst (v := nI 4) hx hb dM_init_61 (by decide) ?_
  refine bk_ni X hP hD hS hA 4 (by decide) (Nat.le_of_ble_eq_true rfl) (Nat.le_of_ble_eq_true rfl) dM_init_62 (fun q8 H hP hD hS => ?_)
  have hP : va_P g.1 bw_cl [(h0, .inr (1, [.ref q1, .ref q2, .ref q3, .ref q4, .ref q5, .ref q6, .ref q7, .null, .int 0, .int 0, .int 0, .int 0])), (q1, .inl (g.2.1, 32, .inl (fun _ => 0))), (q2, .inl (g.2.2.1, 32, .inl (fun _ => 0))), (q3, .inl (g.2.2.1, 64, .inl (fun _ => 0))), (q4, .inl (g.2.1, 32, .inl (fun _ => 0))), (q5, .inl (g.2.1, 32, .inl (fun _ => 0))), (q6, .inl (g.2.2.1, 8, .inl (fun _ => 0))), (q7, .inl (g.2.1, 8, .inl (fun _ => 0))), (q8, .inl (g.2.2.1, 4, .inl (fun _ => 0)))] H := hP
  have hD : va_D (iA h0 S.heap.size) [(h0, .inr (1, [.ref q1, .ref q2, .ref q3, .ref q4, .ref q5, .ref q6, .ref q7, .null, .int 0, .int 0, .int 0, .int 0])), (q1, .inl (g.2.1, 32, .inl (fun _ => 0))), (q2, .inl (g.2.2.1, 32, .inl (fun _ => 0))), (q3, .inl (g.2.2.1, 64, .inl (fun _ => 0))), (q4, .inl (g.2.1, 32, .inl (fun _ => 0))), (q5, .inl (g.2.1, 32, .inl (fun _ => 0))), (q6, .inl (g.2.2.1, 8, .inl (fun _ => 0))), (q7, .inl (g.2.1, 8, .inl (fun _ => 0))), (q8, .inl (g.2.2.1, 4, .inl (fun _ => 0)))] := hD
  refine va_putF (D := g.1) (ci := 1) (v := .ref q8) (ty := .array .int) (C := RM) (T := FM) (N := 12) hx hb hts inM tM tM_ok nM hown hK hP hD hS 0 rfl rfl 7 (by decide) (hts _ fM_registers) (fun _ h9 => h9) rfl hin rfl (by decide +kernel) rfl rfl (Nat.le_of_ble_eq_true rfl) dM_init_64 (fun H locs hP hD hS => ?_)
  have hP : va_P g.1 bw_cl [(h0, .inr (1, [.ref q1, .ref q2, .ref q3, .ref q4, .ref q5, .ref q6, .ref q7, .ref q8, .int 0, .int 0, .int 0, .int 0])), (q1, .inl (g.2.1, 32, .inl (fun _ => 0))), (q2, .inl (g.2.2.1, 32, .inl (fun _ => 0))), (q3, .inl (g.2.2.1, 64, .inl (fun _ => 0))), (q4, .inl (g.2.1, 32, .inl (fun _ => 0))), (q5, .inl (g.2.1, 32, .inl (fun _ => 0))), (q6, .inl (g.2.2.1, 8, .inl (fun _ => 0))), (q7, .inl (g.2.1, 8, .inl (fun _ => 0))), (q8, .inl (g.2.2.1, 4, .inl (fun _ => 0)))] H := hP
  have hD : va_D (iA h0 S.heap.size) [(h0, .inr (1, [.ref q1, .ref q2, .ref q3, .ref q4, .ref q5, .ref q6, .ref q7, .ref q8, .int 0, .int 0, .int 0, .int 0])), (q1, .inl (g.2.1, 32, .inl (fun _ => 0))), (q2, .inl (g.2.2.1, 32, .inl (fun _ => 0))), (q3, .inl (g.2.2.1, 64, .inl (fun _ => 0))), (q4, .inl (g.2.1, 32, .inl (fun _ => 0))), (q5, .inl (g.2.1, 32, .inl (fun _ => 0))), (q6, .inl (g.2.2.1, 8, .inl (fun _ => 0))), (q7, .inl (g.2.1, 8, .inl (fun _ => 0))), (q8, .inl (g.2.2.1, 4, .inl (fun _ => 0)))] := hD
  refine W.widen (k := 8) (n := 212) (by omega) (by omega) ?_
  obtain ⟨a, ea⟩ : ∃ a : Nat → Nat, a = fun k => [h0, q1, q2, q3, q4, q5, q6, q7, q8].getD k 0 := ⟨_, rfl⟩
  have ea0 : a 0 = h0 := by rw [ea]; rfl
  have Y : Yw g (wldM g a) (iA h0 S.heap.size) S H locs iM_00 := by rw [ea]; exact ⟨hP, hD, hS⟩
  have hl : lv_has ls 2 [(0, .ref (a 0))] := by rw [ea0]; exact hl
  clear hP hD hS
  have ret : ∀ (H : Heap) (locs : List Loc) (pc : Nat) (ls : Array Slot), Yw g (wldM g a) (iA h0 S.heap.size) S H locs m_init → decode cM_init pc = .ok (.return_, 1) → W p l e ({ frames := 1, cells := 8, slots := 212, locals := 23 }) S m [Value.ref h0].toArray below meth c H locs 8 212 (MQ below (va_Qv (fun a : Nat → Nat => a 0 = h0 ∧ apM a ∧ ∀ k, 0 < k → k < 9 → S.heap.size ≤ a k) (fun a U => va_P g.1 bw_cl (wldM g a m_init) U.heap) (iA h0 S.heap.size)) [Value.ref h0].toArray S 8 212 (iA h0 S.heap.size)) (F0 m pc ls []) := by
    intro H locs pc ls Y hd
    obtain ⟨f1, f2⟩ := wldM_fin ea0 Y.2.1
    exact W.vret hx hb B.returns (fun t ht hW => ⟨⟨a, rfl, ⟨ea0, f1, f2⟩, by show va_P g.1 bw_cl (wldM g a m_init) t.heap; rw [ht]; exact Y.1⟩, Y.2.2.F ht⟩) Y.2.2.2.2 hd
  generalize hQ : MQ below _ _ _ _ _ _ = Q at ret ⊢
  refine lv_aload_n hx hb dM_init_67 rfl (lv_at hl 0 rfl) ?_
  refine lv_iconst (v := nI 4) hx hb dM_init_68 (by decide) ?_
  refine pM_BU X Y ⟨4, by decide⟩ rfl dM_init_69 (fun H locs Y => ?_)
  refine lv_iconst (v := nI 0) hx hb dM_init_72 (by decide) ?_
  refine lv_istore_n (lv' := [(1, .int (nI 0)), (0, .ref (a 0))]) hx hb dM_init_73 rfl hl (by decide) rfl (fun ls hl => ?_)
  have loop : ∀ (n i : Nat) (σ : MS), i ≤ 4 → 4 < i + n → fldN m_ir (uM_BU iM_00 ⟨4, by decide⟩) i = σ → ∀ (H : Heap) (locs : List Loc) (ls : Array Slot), Yw g (wldM g a) (iA h0 S.heap.size) S H locs σ → lv_has ls 2 [(0, .ref (a 0)), (1, .int (nI i))] → W p l e ({ frames := 1, cells := 8, slots := 212, locals := 23 }) S m [Value.ref h0].toArray below meth c H locs 8 212 Q (F0 m 74 ls []) := by
    intro n
    induction n with
    | zero =>
      intro i σ b1 b2
      exact absurd b2 (by omega)
    | succ n ih =>
      intro i σ hi hn eσ H locs ls Y hl
      refine lv_iload_n hx hb dM_init_74 rfl (lv_at hl 1 rfl) ?_
      refine lv_iconst (v := nI 4) hx hb dM_init_75 (by decide) ?_
      refine bn_ge (tgt := 92) hx hb dM_init_76 (by decide) (by omega) (by omega) (fun h7 => ?_) (fun h7 => ?_)
      · obtain rfl : i = 4 := by omega
        subst eσ
        exact ret _ _ _ _ Y dM_init_92
      · refine lv_aload_n hx hb dM_init_79 rfl (lv_at hl 0 rfl) ?_
        refine rM_RG X Y dM_init_80 ?_
        refine lv_iload_n hx hb dM_init_83 rfl (lv_at hl 1 rfl) ?_
        refine lv_iconst (v := -1) hx hb dM_init_84 (by decide) ?_
        refine sM_RG X Y (k := i) none rfl (by omega) dM_init_85 (fun H locs Y => ?_)
        refine lv_iinc (v := nI (i + 1)) (lv' := [(1, .int (nI (i + 1))), (0, .ref (a 0))]) hx hb dM_init_86 hl (k := 1) rfl (nI_1 _) (by decide) rfl (fun ls hl => ?_)
        refine lv_goto (tgt := 74) hx hb dM_init_89 (by decide) ?_
        exact ih (i + 1) (uM_RG σ i none) (by omega) (by omega) (by show m_ir i (fldN m_ir (uM_BU iM_00 ⟨4, by decide⟩) i) = _; rw [eσ]; rfl) _ _ _ Y (lv_sub hl [1, 0] rfl)
  exact loop (4 + 1) 0 _ (by omega) (by omega) fldN_zero _ _ _ Y (lv_sub hl [1, 0] rfl)
