/-! the law's own frame: its calls, its row, its script -/
def apL (a : Nat → Nat) (ao : Nat) (bm : Nat → Nat) (sz : Nat) : Prop := apO a ao ∧ apM bm ∧ (∀ i j, i < 11 → j < 9 → a i ≠ bm j) ∧ (∀ j, j < 9 → bm j ≠ ao) ∧ (∀ i, i < 11 → sz ≤ a i) ∧ sz ≤ ao ∧ ∀ j, j < 9 → sz ≤ bm j
def YL (g : GG) (a : Nat → Nat) (ao : Nat) (bm : Nat → Nat) (S : State) (H : Heap) (locs : List Loc) (h : HS) (z : Nat → Int64) (m : MS) : Prop := va_P g.1 bw_cl (wHO g a ao (h, z)) H ∧ va_P g.1 bw_cl (wldM g bm m) H ∧ va_S (fun q => S.heap.size ≤ q) S.heap H locs
theorem wHO_at {g : GG} {a : Nat → Nat} {ao : Nat} {t : HO} {k : Nat} {q : Nat × va_E} (h : (wHO g a ao t)[k]? = some q) : (k < 11 ∧ q.1 = a k) ∨ q.1 = ao := by
  unfold wHO at h
  have e : (wldH g a t.1).length = 11 := rfl
  rcases Nat.lt_or_ge k 11 with hk | hk
  · rw [List.getElem?_append_left (by rw [e]; exact hk)] at h
    exact Or.inl (wldH_at h)
  · rw [List.getElem?_append_right (by rw [e]; exact hk), e] at h
    have h1 : k - 11 < 1 := (List.getElem?_eq_some_iff.mp h).1
    have e1 : k - 11 = 0 := by omega
    rw [e1] at h
    cases h
    exact Or.inr rfl
section LA
variable {p : Program} {l : Launch} {e : Env} {R : Room} {S : State} {m : MethodId} {args : Array Value} {below : List Frame} {meth : Method} {c : Code} {H : Heap} {locs : List Loc} {cells slots : Nat} {Q : State → Prop}
variable {cc : ByteArray} {pc : Nat} {ls : Array Slot} {rest : List Value} {g : GG} {a : Nat → Nat} {ao nL : Nat} {bm : Nat → Nat} {ret0 : Option FieldType}
variable {h h' : HS} {z z' : Nat → Int64} {w w' : MS}
/-- a helper -/
theorem la_L {kk : Int32} {y : MethodName} {b : ByteArray} {n idx na : Nat} {hh : List (Nat × Nat × Nat × Nat)} {rm : Room} {av st0 : List Value} (hap : apL a ao bm S.heap.size)
    (X : Cx RL g p S m args meth c cc nL ret0) (hZ : Zt (fun q => S.heap.size ≤ q) S S.heap) (n1 : va_Nc exS exI S) (n2 : va_Nc exA exI S) (Y : YL g a ao bm S H locs h z w) (hM : LC l g a ao y (bwH y b n (some .int) hh) rm av (h, z) kk (h', z'))
    (hw : ∀ w ∈ va_wsS RL idx y (bwH y b n (some .int) hh), w ∈ bw_G) (hd : y.cls ≠ "java/lang/invoke/MethodHandle" ∧ y.cls ≠ "java/lang/invoke/VarHandle" ∧ (parseMethodDescriptor y.desc).map (fun d => d.parameters.length) = some na) (hna : av.length = na)
    (hrm : rm.cells = 1 ∧ rm.slots = 6) (hR : rm.frames + 1 ≤ R.frames ∧ 8 + (n + 11) + rm.locals ≤ R.locals) (hls : ls.size = nL) (hst : st0 = av.reverse ++ rest) (hrest : (rest.map fun v => v.category).sum ≤ 8) (hdg : decode cc pc = .ok (.invokestatic idx, 3)) (hf : cells + 1 ≤ R.cells ∧ slots + 6 ≤ R.slots)
    (k9 : ∀ (H : Heap) (locs : List Loc), YL g a ao bm S H locs h' z' w → W p l e R S m args below meth c H locs (cells + 1) (slots + 6) Q (F0 m (pc + 3) ls (.int kk :: rest))) : W p l e R S m args below meth c H locs cells slots Q (F0 m pc ls st0) := by
  obtain ⟨hx, hb, -, hml, hown, hts, hK, -⟩ := X
  obtain ⟨hP, hPM, hS⟩ := Y
  obtain ⟨hO, -, h2, h3, h4, h5, h6⟩ := hap
  have hsub : ∀ q, AL a ao H.size q → S.heap.size ≤ q := fun q hq => by
    rcases hq with ⟨j, hj, e⟩ | e | e
    · rw [e]; exact h4 j hj
    · rw [e]; exact h5
    · exact Nat.le_trans hS.1 e
  refine va_calli (A0 := fun q => S.heap.size ≤ q) (vx_runSW (As := av) (rest := rest) ⟨hx, hb, hml, hown, hts⟩ (hM H.size) (vx_cwSW na hts (bw_good hw) rfl hrm.1 hrm.2 hd hR) ⟨PreL.blind, fun U hU hW => ⟨rfl, by rw [hU], by rw [hU]; exact hP, va_K.moved hW.alike hK, by rw [hU]; exact hZ.go hS.2.1 hW hsub, va_Nc.moved hW.alike n1, va_Nc.moved hW.alike n2⟩⟩ rfl hna hls hst (lv_room hrest) hdg hf) hS (fun q _ h => hsub q h) (fun q h => hsub q h) (fun r' u t H1 locs1 ht hvm hw hB hz1 hk1 hS1 => ?_)
  subst hw
  rw [ht] at hB
  refine k9 H1 locs1 ⟨hB, hPM.kept (fun k q hk => ?_), hS1⟩
  obtain ⟨hk9, e9⟩ := wldM_at hk
  have hlt := (hPM k q hk).lt
  refine hk1 q.1 hlt (fun hq => ?_)
  rcases hq with ⟨j, hj, e⟩ | e | e
  · exact h2 j k hj hk9 (e.symm.trans e9)
  · exact h3 k hk9 (e9.symm.trans e)
  · omega
/-- the class -/
theorem la_H {r : Int32} {y : MethodName} {b : ByteArray} {n idx na : Nat} {ret : Option FieldType} {rm : Room} {av st0 : List Value} (hap : apL a ao bm S.heap.size)
    (X : Cx RL g p S m args meth c cc nL ret0) (Y : YL g a ao bm S H locs h z w) (hM : Ci l g (wldH g a) (adH a) y (bw y b n ret) rm (.ref (a 0) :: av) h r h')
    (hw : ∀ w ∈ wsV RL idx RH y (bw y b n ret), w ∈ bw_G) (hd : y.cls = RH ∧ y.cls ≠ "java/lang/invoke/MethodHandle" ∧ y.cls ≠ "java/lang/invoke/VarHandle" ∧ (parseMethodDescriptor y.desc).map (fun d => d.parameters.length) = some na) (hna : av.length = na)
    (hrm : rm.cells = 0 ∧ rm.slots = 0) (hR : rm.frames + 1 ≤ R.frames ∧ 8 + (n + 11) + rm.locals ≤ R.locals) (hls : ls.size = nL) (hst : st0 = av.reverse ++ .ref (a 0) :: rest) (hrest : (rest.map fun v => v.category).sum ≤ 8) (hdg : decode cc pc = .ok (.invokevirtual idx, 3)) (hf : cells ≤ R.cells ∧ slots ≤ R.slots)
    (k9 : ∀ (H : Heap) (locs : List Loc), YL g a ao bm S H locs h' z w → W p l e R S m args below meth c H locs cells slots Q (F0 m (pc + 3) ls (.int r :: rest))) : W p l e R S m args below meth c H locs cells slots Q (F0 m pc ls st0) := by
  obtain ⟨hx, hb, -, hml, hown, hts, hK, -⟩ := X
  obtain ⟨hP, hPM, hS⟩ := Y
  obtain ⟨hO, -, h2, h3, h4, h5, h6⟩ := hap
  have hPH := wHO_H hP
  have hrecv := va_recv hK hPH (ci := 0) rfl (q0 := 0) rfl
  have hsub : ∀ q, adH a q → S.heap.size ≤ q := fun q ⟨j, hj, e⟩ => by rw [e]; exact h4 j hj
  refine va_calli (A0 := fun q => S.heap.size ≤ q) (va_runV (As := av) (rest := rest) ⟨hx, hb, hml, hown, hts⟩ hM (cwV na hts (bw_good hw) rfl hrm.1 hrm.2 hd hR) ⟨PreW.blind, hrecv, fun U hU hW => ⟨rfl, by rw [hU]; exact hPH, va_K.moved hW.alike hK⟩⟩ rfl hna hls hst (lv_room hrest) hdg hf) hS (fun q _ h => hsub q h) (fun q h => hsub q h) (fun r' u t H1 locs1 ht hvm hw hB hz1 hk1 hS1 => ?_)
  subst hw
  rw [ht] at hB
  refine k9 H1 locs1 ⟨wHO_J hO hP hB (fun q h1 h2 => hk1 q h1 (fun z => h2 (Or.inl z))), hPM.kept (fun k q hk => ?_), hS1⟩
  obtain ⟨hk9, e9⟩ := wldM_at hk
  refine hk1 q.1 (hPM k q hk).lt (fun hq => ?_)
  obtain ⟨j, hj, e⟩ := hq
  exact h2 j k hj hk9 (e.symm.trans e9)
/-- the reference -/
theorem la_M {r : Int32} {y : MethodName} {b : ByteArray} {n idx na : Nat} {ret : Option FieldType} {rm : Room} {av st0 : List Value} (hap : apL a ao bm S.heap.size)
    (X : Cx RL g p S m args meth c cc nL ret0) (Y : YL g a ao bm S H locs h z w) (hM : Ci l g (wldM g bm) (adM bm) y (bw y b n ret) rm (.ref (bm 0) :: av) w r w')
    (hw : ∀ w ∈ wsV RL idx RM y (bw y b n ret), w ∈ bw_G) (hd : y.cls = RM ∧ y.cls ≠ "java/lang/invoke/MethodHandle" ∧ y.cls ≠ "java/lang/invoke/VarHandle" ∧ (parseMethodDescriptor y.desc).map (fun d => d.parameters.length) = some na) (hna : av.length = na)
    (hrm : rm.cells = 0 ∧ rm.slots = 0) (hR : rm.frames + 1 ≤ R.frames ∧ 8 + (n + 11) + rm.locals ≤ R.locals) (hls : ls.size = nL) (hst : st0 = av.reverse ++ .ref (bm 0) :: rest) (hrest : (rest.map fun v => v.category).sum ≤ 8) (hdg : decode cc pc = .ok (.invokevirtual idx, 3)) (hf : cells ≤ R.cells ∧ slots ≤ R.slots)
    (k9 : ∀ (H : Heap) (locs : List Loc), YL g a ao bm S H locs h z w' → W p l e R S m args below meth c H locs cells slots Q (F0 m (pc + 3) ls (.int r :: rest))) : W p l e R S m args below meth c H locs cells slots Q (F0 m pc ls st0) := by
  obtain ⟨hx, hb, -, hml, hown, hts, hK, -⟩ := X
  obtain ⟨hP, hPM, hS⟩ := Y
  obtain ⟨hO, -, h2, h3, h4, h5, h6⟩ := hap
  have hrecv := va_recv hK hPM (ci := 1) rfl (q0 := 0) rfl
  have hsub : ∀ q, adM bm q → S.heap.size ≤ q := fun q ⟨j, hj, e⟩ => by rw [e]; exact h6 j hj
  refine va_calli (A0 := fun q => S.heap.size ≤ q) (va_runV (As := av) (rest := rest) ⟨hx, hb, hml, hown, hts⟩ hM (cwV na hts (bw_good hw) rfl hrm.1 hrm.2 hd hR) ⟨PreW.blind, hrecv, fun U hU hW => ⟨rfl, by rw [hU]; exact hPM, va_K.moved hW.alike hK⟩⟩ rfl hna hls hst (lv_room hrest) hdg hf) hS (fun q _ h => hsub q h) (fun q h => hsub q h) (fun r' u t H1 locs1 ht hvm hw hB hz1 hk1 hS1 => ?_)
  subst hw
  rw [ht] at hB
  refine k9 H1 locs1 ⟨hP.kept (fun k q hk => ?_), hB, hS1⟩
  refine hk1 q.1 (hP k q hk).lt (fun hq => ?_)
  obtain ⟨j, hj, e⟩ := hq
  rcases wHO_at hk with ⟨hk9, e9⟩ | e9
  · exact h2 k j hk9 hj (e9.symm.trans e)
  · exact h3 j hj (e.symm.trans e9)
/-- out[0] -/
theorem la_out (X : Cx RL g p S m args meth c cc nL ret0) (Y : YL g a ao bm S H locs h z w) (hdg : decode cc pc = .ok (.laload, 1))
    (k9 : W p l e R S m args below meth c H locs cells slots Q (F0 m (pc + 1) ls (.long (z 0) :: rest))) : W p l e R S m args below meth c H locs cells slots Q (F0 m pc ls (.int (nI 0) :: .ref ao :: rest)) := by
  refine va_lald (D := g.1) (cl := bw_cl) X.1 X.2.1 X.2.2.2.2.2.2.1 Y.1 11 2 (cA := g.2.2.2) (n := 1) (f := z) rfl rfl (vp_in_nI (by decide) (by decide)) hdg ?_
  rw [nI_clamp (by decide)]
  exact k9
/-- script[i + k] -/
theorem la_rd {sb L i k : Nat} {xs : Nat → Int32} (X : Cx RL g p S m args meth c cc nL ret0) (hX : va_X sb L xs S S.heap) (hsb : sb < S.heap.size) (hL : L ≤ 2048) (Y : YL g a ao bm S H locs h z w) (hi : i + k < L) (hdg : decode cc pc = .ok (.iaload, 1))
    (k9 : W p l e R S m args below meth c H locs cells slots Q (F0 m (pc + 1) ls (.int (xs (i + k)) :: rest))) : W p l e R S m args below meth c H locs cells slots Q (F0 m pc ls (.int (nI (i + k)) :: .ref sb :: rest)) := by
  refine va_sld (A := fun q => S.heap.size ≤ q) X.1 X.2.1 hX hsb (Nat.not_le.mpr hsb) Y.2.2 (vp_in_nI hi (by omega)) hdg ?_
  rw [nI_clamp (by omega)]
  exact k9
end LA
theorem lg_cmp_self {x y : Int64} (h : x = y) : lg_cmp x y = 0 := by subst h; simp [lg_cmp]
