/-! the law's helpers: how they are entered, how they call, how they catch -/
theorem Met.ofWH {l : Launch} {y : MethodName} {ws ws' : List Cond} {rm : Room} {Pc : Array Value → State → Prop} {Qc : Array Value → State → Outcome → State → Prop} {mc ms : Nat} {free : Addr → Prop} {cc : ByteArray} {maxL : Nat} {ret : Option FieldType} {hh : List (Nat × Nat × Nat × Nat)}
    (hy : plainName y.cls = true) (hw : ws = Cond.codeWith y cc maxL ret hh :: ws')
    (body : ∀ p e s m args below meth c s₁, BodyLoose p l y (headSpec ws rm) cc maxL ret e s m args below meth c s₁ → c.maxLocals = maxL → Pc args s →
      W p l e (headSpec ws rm).room s m args below meth c s.heap [] 0 0 (MQ below Qc args s mc ms free) (entryFrame m args maxL)) : Met l y ws rm Pc Qc mc ms free := by
  refine MetFree.of_bodyS (code := cc) (maxLocals := maxL) (ret := ret) hy ?_ ?_
  · intro args s m h hn
    obtain ⟨m9, meth, c, hn9, h1, h2, h3, h4, -, h5, h6, -⟩ := Cond.codeWith_spec (atoms_spec (ws := ws) h _ (by rw [hw]; exact List.mem_cons_self))
    cases hn.symm.trans hn9
    exact ⟨meth, c, h1, h2, h3, h4, h5, h6⟩
  · intro p e s m args below meth c s₁ B hml hP _
    have hh0 : s₁.heap = s.heap := by rw [B.state]; rfl
    obtain ⟨t, a1, o, b1, b2, b3⟩ := body p e s m args below meth c s₁ B hml hP s₁ hh0 (Stand.of_body B)
    exact ⟨t, o, a1, b1, b2, ⟨b3.1, b3.2⟩⟩
abbrev HO : Type := HS × (Nat → Int64)
def wHO (g : GG) (a : Nat → Nat) (ao : Nat) (t : HO) : va_W := wldH g a t.1 ++ [(ao, .inl (g.2.2.2, 1, .inr (.inl t.2)))]
def AL (a : Nat → Nat) (ao sz : Nat) : Nat → Prop := fun q => adH a q ∨ q = ao ∨ sz ≤ q
/-- the addresses: the class's, and the row's, which is none of them -/
def apO (a : Nat → Nat) (ao : Nat) : Prop := apH a ∧ ∀ k, k < 11 → a k ≠ ao
theorem wHO_D {g : GG} {a : Nat → Nat} {ao sz : Nat} (h : apO a ao) : ∀ t, va_D (AL a ao sz) (wHO g a ao t) := fun t =>
  va_D.app ((wldH_D (g := g) h.1 t.1).weaken (fun _ _ _ z => Or.inl z)) ((iD ao sz (.inl (g.2.2.2, 1, .inr (.inl t.2)))).weaken (fun k q hk _ => by
    have h1 : k < 1 := (List.getElem?_eq_some_iff.mp hk).1
    have e : k = 0 := by omega
    rw [e] at hk
    cases hk
    exact Or.inr (Or.inl rfl))) (fun i j p q hp hq e => by
    obtain ⟨h1, h2⟩ := wldH_at hp
    have h3 : j < 1 := (List.getElem?_eq_some_iff.mp hq).1
    have e3 : j = 0 := by omega
    rw [e3] at hq
    cases hq
    exact h.2 i h1 (h2.symm.trans e))
def PreL (g : GG) (a : Nat → Nat) (ao : Nat) (t : HO) (sz : Nat) : State → Prop := fun U => U.heap.size = sz ∧ va_P g.1 bw_cl (wHO g a ao t) U.heap ∧ va_K g.1 bw_cl (bw_ty g) U ∧ Zt (AL a ao sz) U U.heap ∧ va_Nc exS exI U ∧ va_Nc exA exI U
theorem PreL.blind {g : GG} {a : Nat → Nat} {ao : Nat} {t : HO} {sz : Nat} {av : List Value} : FrameBlind (va_Pc av (PreL g a ao t sz)) := fun a U g mk q => by
  obtain ⟨q0, q1, qP, qK, qZ, n1, n2⟩ := q
  exact ⟨q0, q1, qP, va_K.moved (u := U) (U := U.calling g mk a) (Vm.Alike.refl U.vm) qK, Zt.same (u := U) rfl qZ, va_Nc.moved (u := U) (Vm.Alike.refl U.vm) n1, va_Nc.moved (u := U) (Vm.Alike.refl U.vm) n2⟩
def LC (l : Launch) (g : GG) (a : Nat → Nat) (ao : Nat) (y : MethodName) (ws : List Cond) (rm : Room) (av : List Value) (t0 : HO) (r : Int32) (t1 : HO) : Prop :=
  ∀ sz, Met l y ws rm (va_Pc av (PreL g a ao t0 sz)) (va_Qi (fun r' (_ : Unit) => r' = r) (fun _ U => va_P g.1 bw_cl (wHO g a ao t1) U.heap) (AL a ao sz)) 1 6 (AL a ao sz)
theorem LC.of {l : Launch} {g : GG} {a : Nat → Nat} {ao : Nat} {y : MethodName} {rm : Room} {av : List Value} {t0 t1 : HO} {r : Int32} {cc : ByteArray} {nL : Nat} {hh : List (Nat × Nat × Nat × Nat)}
    (h : apO a ao) (hy : plainName y.cls = true) (hc : y.cls = RL) (hlen : (lg_sl av).length ≤ nL)
    (body : ∀ (p : Program) (e : Env) (S : State) (m : MethodId) (args : Array Value) (below : List Frame) (meth : Method) (c : Code) (Q : State → Prop), Cx RL g p S m args meth c cc nL (some .int) → c.exceptionTable.toList = tableOf hh → Zt (AL a ao S.heap.size) S S.heap → va_Nc exS exI S → va_Nc exA exI S →
      (∀ (H : Heap) (locs : List Loc) (pc : Nat) (ls : Array Slot) (v : Int32), Yw g (wHO g a ao) (AL a ao S.heap.size) S H locs t1 → v = r → decode cc pc = .ok (.ireturn, 1) → W p l e rm S m args below meth c H locs 1 6 Q (F0 m pc ls [.int v])) →
      ∀ (H : Heap) (locs : List Loc) (ls : Array Slot), Yw g (wHO g a ao) (AL a ao S.heap.size) S H locs t0 → lv_has ls nL (lv_args 0 av) → W p l e rm S m args below meth c H locs 0 0 Q (F0 m 0 ls [])) :
    LC l g a ao y (bwH y cc nL (some .int) hh) rm av t0 r t1 := by
  intro sz
  refine Met.ofWH (cc := cc) (maxL := nL) (ret := some .int) (hh := hh) hy rfl ?_
  intro p e S m args below meth c s₁ B hml hv
  obtain ⟨rfl, hsz, hP, hK, hZ, n1, n2⟩ := hv
  subst hsz
  have hts := atoms_spec (ws := bwH y cc nL (some .int) hh) B.pre
  have hown : S.vm.findClass RL = some m.cls := by rw [← hc]; exact findClass_of_methodNamed B.named
  have X : Cx RL g p S m av.toArray meth c cc nL (some .int) := ⟨B.exec, B.bytes, B.returns, hml, hown, fun w h => hts w (List.mem_cons_of_mem _ h), hK, B.notSynchronized⟩
  have htab := vx_table (x := y) B (hts _ List.mem_cons_self)
  have hlocks := B.notSynchronized
  have hl := lv_entry av (n := nL) hlen
  rw [lg_entry_eq]
  refine body p e S m _ below meth c _ X htab hZ n1 n2 (fun H locs pc ls v Y hv hd => ?_) S.heap [] _ ⟨hP, wHO_D h t0, va_S.rf⟩ hl
  exact W.iret X.1 X.2.1 X.2.2.1 (fun t ht hW => ⟨⟨v, (), rfl, hv, by show va_P g.1 bw_cl (wHO g a ao t1) t.heap; rw [ht]; exact Y.1⟩, Y.2.2.F ht⟩) Y.2.2.2.2 hd
section LH
variable {p : Program} {l : Launch} {e : Env} {R : Room} {S : State} {m : MethodId} {args : Array Value} {below : List Frame} {meth : Method} {c : Code} {H : Heap} {locs : List Loc} {Q : State → Prop}
variable {cc : ByteArray} {pc : Nat} {ls : Array Slot} {rest : List Value} {g : GG} {a : Nat → Nat} {ao nL : Nat} {ret0 : Option FieldType}
theorem wHO_H {t : HO} (hP : va_P g.1 bw_cl (wHO g a ao t) H) : va_P g.1 bw_cl (wldH g a t.1) H := hP.sub [0, 1, 2, 3, 4, 5, 6, 7, 8, 9, 10] rfl
theorem wHO_J {t : HO} {h' : HS} {H1 : Heap} (h : apO a ao) (hP : va_P g.1 bw_cl (wHO g a ao t) H) (hP1 : va_P g.1 bw_cl (wldH g a h') H1) (hk : ∀ q : Nat, q < H.size → ¬ (adH a q ∨ H.size ≤ q) → H1[q]? = H[q]?) : va_P g.1 bw_cl (wHO g a ao (h', t.2)) H1 := by
  refine va_P.app hP1 (fun k q hq => ?_)
  have h1 : k < 1 := (List.getElem?_eq_some_iff.mp hq).1
  have e : k = 0 := by omega
  rw [e] at hq
  cases hq
  have h2 := hP 11 _ rfl
  have hlt : ao < H.size := h2.lt
  refine h2.kept (hk ao hlt (fun z => ?_))
  rcases z with ⟨j, hj, e2⟩ | z
  · exact h.2 j hj e2.symm
  · omega
/-- the class's method returns -/
theorem lh_i {h : HS} {z : Nat → Int64} {h' : HS} {r : Int32} {y : MethodName} {b : ByteArray} {n idx na : Nat} {ret : Option FieldType} {rm : Room} {av st0 : List Value} (hap : apO a ao)
    (X : Cx RL g p S m args meth c cc nL ret0) (Y : Yw g (wHO g a ao) (AL a ao S.heap.size) S H locs (h, z)) (hM : Ci l g (wldH g a) (adH a) y (bw y b n ret) rm (.ref (a 0) :: av) h r h')
    (hw : ∀ w ∈ wsV RL idx RH y (bw y b n ret), w ∈ bw_G) (hd : y.cls = RH ∧ y.cls ≠ "java/lang/invoke/MethodHandle" ∧ y.cls ≠ "java/lang/invoke/VarHandle" ∧ (parseMethodDescriptor y.desc).map (fun d => d.parameters.length) = some na) (hna : av.length = na)
    (hrm : rm.cells = 0 ∧ rm.slots = 0) (hR : rm.frames + 1 ≤ R.frames ∧ 8 + (n + 11) + rm.locals ≤ R.locals) (hls : ls.size = nL) (hst : st0 = av.reverse ++ .ref (a 0) :: rest) (hrest : (rest.map fun v => v.category).sum ≤ 8) (hdg : decode cc pc = .ok (.invokevirtual idx, 3))
    (kk : ∀ (H : Heap) (locs : List Loc), Yw g (wHO g a ao) (AL a ao S.heap.size) S H locs (h', z) → W p l e R S m args below meth c H locs 0 0 Q (F0 m (pc + 3) ls (.int r :: rest))) : W p l e R S m args below meth c H locs 0 0 Q (F0 m pc ls st0) := by
  obtain ⟨hx, hb, -, hml, hown, hts, hK, -⟩ := X
  obtain ⟨hP, hDt, hS⟩ := Y
  have hPH := wHO_H hP
  have hrecv := va_recv hK hPH (ci := 0) rfl (q0 := 0) rfl
  refine va_calli (A0 := AL a ao S.heap.size) (va_runV (As := av) (rest := rest) ⟨hx, hb, hml, hown, hts⟩ hM (cwV na hts (bw_good hw) rfl hrm.1 hrm.2 hd hR) ⟨PreW.blind, hrecv, fun U hU hW => ⟨rfl, by rw [hU]; exact hPH, va_K.moved hW.alike hK⟩⟩ rfl hna hls hst (lv_room hrest) hdg ⟨Nat.zero_le _, Nat.zero_le _⟩) hS (fun q _ h => Or.inl h) (fun q h => Or.inl h) (fun r' u t H1 locs1 ht hvm hw hB hz1 hk1 hS1 => ?_)
  subst hw
  rw [ht] at hB
  exact kk H1 locs1 ⟨wHO_J hap hP hB (fun q h1 h2 => hk1 q h1 (fun z => h2 (Or.inl z))), wHO_D hap _, hS1⟩
/-- the class's method throws, and it is caught here -/
theorem lh_x {h : HS} {z : Nat → Int64} {h' : HS} {E : String} {y : MethodName} {b : ByteArray} {n idx na : Nat} {ret : Option FieldType} {rm : Room} {av st0 : List Value} (hap : apO a ao)
    (X : Cx RL g p S m args meth c cc nL ret0) (hZ : Zt (AL a ao S.heap.size) S S.heap) (Y : Yw g (wHO g a ao) (AL a ao S.heap.size) S H locs (h, z)) (hM : CX l g (wldH g a) (adH a) y (bw y b n ret) rm (.ref (a 0) :: av) h E h')
    (hw : ∀ w ∈ wsV RL idx RH y (bw y b n ret), w ∈ bw_G) (hd : y.cls = RH ∧ y.cls ≠ "java/lang/invoke/MethodHandle" ∧ y.cls ≠ "java/lang/invoke/VarHandle" ∧ (parseMethodDescriptor y.desc).map (fun d => d.parameters.length) = some na) (hna : av.length = na)
    (hrm : rm.cells = 1 ∧ rm.slots = 6) (hR : rm.frames + 1 ≤ R.frames ∧ 8 + (n + 11) + rm.locals ≤ R.locals) (hcs : 1 ≤ R.cells ∧ 6 ≤ R.slots) (hls : ls.size = nL) (hst : st0 = av.reverse ++ .ref (a 0) :: rest) (hrest : (rest.map fun v => v.category).sum ≤ 8) (hdg : decode cc pc = .ok (.invokevirtual idx, 3))
    (pre : List ExceptionTableEntry) (x : ExceptionTableEntry) (suf : List ExceptionTableEntry) (hsplit : c.exceptionTable.toList = pre ++ x :: suf)
    (hpass : ∀ z ∈ pre, covers z pc = false ∨ (z.catchType ≠ 0 ∧ ∃ nm : String, Cond.classLink RL z.catchType nm ∈ bw_G ∧ va_Nc E nm S)) (hxc : covers x pc = true) (h0 : x.catchType ≠ 0) (hlink : Cond.classLink RL x.catchType E ∈ bw_G) (hcast : va_Nw (.castable E E) S)
    (kk : ∀ (H : Heap) (locs : List Loc) (q : Nat), Yw g (wHO g a ao) (AL a ao S.heap.size) S H locs (h', z) → W p l e R S m args below meth c H locs 1 6 Q (F0 m x.handlerPc ls [.ref q])) : W p l e R S m args below meth c H locs 0 0 Q (F0 m pc ls st0) := by
  obtain ⟨hx, hb, -, hml, hown, hts, hK, -⟩ := X
  obtain ⟨hP, hDt, hS⟩ := Y
  have hPH := wHO_H hP
  have hrecv := va_recv hK hPH (ci := 0) rfl (q0 := 0) rfl
  have hsub : ∀ q, AX (adH a) H.size q → AL a ao S.heap.size q := fun q h => h.elim Or.inl (fun z => Or.inr (Or.inr (Nat.le_trans hS.1 z)))
  refine cx_call (A0 := AL a ao S.heap.size) (a := (Value.ref (a 0) :: av).toArray) (vx_runV (As := av) (rest := rest) ⟨hx, hb, hml, hown, hts⟩ (hM H.size) (cwV na hts (bw_good hw) rfl hrm.1 hrm.2 hd hR) ⟨PreX.blind, hrecv, fun U hU hW => ⟨rfl, by rw [hU], by rw [hU]; exact hPH, va_K.moved hW.alike hK, by rw [hU]; exact hZ.go hS.2.1 hW hsub⟩⟩ rfl hna hls hst (lv_room hrest) hdg (by omega)) hS hsub (fun q _ h => hsub q h) (fun E' ce q9 u t H1 locs1 ht hvm hpx hB hz1 hk1 hS1 hce hcv hcl => ?_)
  obtain ⟨rfl, hB⟩ := hB
  rw [ht] at hB
  refine vx_catch hown pre x suf hsplit (fun z hz => (hpass z hz).imp id (fun y => ⟨y.1, y.2.imp (fun nm w => ⟨hts _ w.1, w.2⟩)⟩)) hxc h0 (hts _ hlink) (va_Nw.use rfl hcast) hce hcv hcl ?_
  exact kk H1 locs1 q9 ⟨wHO_J hap hP hB (fun q h1 h2 => hk1 q h1 (fun z => h2 z)), wHO_D hap _, hS1⟩
/-- out[0] = x -/
theorem lh_out {t : HO} {x : Int64} (X : Cx RL g p S m args meth c cc nL ret0) (Y : Yw g (wHO g a ao) (AL a ao S.heap.size) S H locs t) (hdg : decode cc pc = .ok (.lastore, 1))
    (kk : ∀ (H : Heap) (locs : List Loc), Yw g (wHO g a ao) (AL a ao S.heap.size) S H locs (t.1, vp_updL t.2 0 x) → W p l e R S m args below meth c H locs 0 0 Q (F0 m (pc + 1) ls rest)) : W p l e R S m args below meth c H locs 0 0 Q (F0 m pc ls (.long x :: .int (nI 0) :: .ref ao :: rest)) := by
  refine va_last (D := g.1) (cl := bw_cl) X.1 X.2.1 X.2.2.2.2.2.2.1 Y.1 Y.2.1 Y.2.2 11 2 (cA := g.2.2.2) (n := 1) (f := t.2) rfl rfl (vp_in_nI (by decide) (by decide)) hdg (fun H1 locs1 hP hD hS => ?_)
  rw [nI_clamp (by decide)] at hP hD
  exact kk H1 locs1 ⟨hP, hD, hS⟩
end LH
theorem lk_I : Cond.classLink RL 13 exI ∈ bw_G := by decide +kernel
theorem lk_S : Cond.classLink RL 15 exS ∈ bw_G := by decide +kernel
theorem lk_A : Cond.classLink RL 21 exA ∈ bw_G := by decide +kernel
