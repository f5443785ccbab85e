theorem fldN_zero {α : Type} {f : Nat → α → α} {s : α} : fldN f s 0 = s := rfl
/-! how a method's body is entered and left; how a method calls one that keeps the same world -/
theorem Ci.of {τ : Type} {l : Launch} {g : GG} {ω : τ → va_W} {A : Nat → Prop} {y : MethodName} {own : String} {rm : Room} {av : List Value} {t0 t1 : τ} {r : Int32} {cc : ByteArray} {nL : Nat}
    (hD : ∀ t, va_D A (ω t)) (hy : plainName y.cls = true) (hc : y.cls = own) (hlen : (lg_sl av).length ≤ nL)
    (body : ∀ (p : Program) (e : Env) (S : State) (m : MethodId) (args : Array Value) (below : List Frame) (meth : Method) (c : Code) (Q : State → Prop), Cx own g p S m args meth c cc nL (some .int) →
      (∀ (H : Heap) (locs : List Loc) (pc : Nat) (ls : Array Slot) (v : Int32), Yw g ω A S H locs t1 → v = r → decode cc pc = .ok (.ireturn, 1) → W p l e rm S m args below meth c H locs 0 0 Q (F0 m pc ls [.int v])) →
      ∀ (H : Heap) (locs : List Loc) (ls : Array Slot), Yw g ω A S H locs t0 → lv_has ls nL (lv_args 0 av) → W p l e rm S m args below meth c H locs 0 0 Q (F0 m 0 ls [])) :
    Ci l g ω A y (bw y cc nL (some .int)) rm av t0 r t1 := by
  refine Met.ofW (cc := cc) (maxL := nL) (ret := some .int) hy rfl ?_
  intro p e S m args below meth c s₁ B hml hv
  obtain ⟨rfl, hP, hK⟩ := hv
  have hts := atoms_spec (ws := bw y cc nL (some .int)) B.pre
  have hown : S.vm.findClass own = some m.cls := by rw [← hc]; exact findClass_of_methodNamed B.named
  have X : Cx own g p S m av.toArray meth c cc nL (some .int) := ⟨B.exec, B.bytes, B.returns, hml, hown, fun w h => hts w (List.mem_cons_of_mem _ h), hK, B.notSynchronized⟩
  have hlocks := B.notSynchronized
  have hl := lv_entry av (n := nL) hlen
  rw [lg_entry_eq]
  refine body p e S m _ below meth c _ X (fun H locs pc ls v Y hv hd => ?_) S.heap [] _ ⟨hP, hD t0, va_S.rf⟩ hl
  exact W.iret X.1 X.2.1 X.2.2.1 (fun t ht hW => ⟨⟨v, (), rfl, hv, by show va_P g.1 bw_cl (ω t1) t.heap; rw [ht]; exact Y.1⟩, Y.2.2.F ht⟩) Y.2.2.2.2 hd
theorem Ci.ofZ {τ : Type} {l : Launch} {g : GG} {ω : τ → va_W} {A : Nat → Prop} {y : MethodName} {own : String} {rm : Room} {av : List Value} {t0 t1 : τ} {r : Bool} {cc : ByteArray} {nL : Nat}
    (hD : ∀ t, va_D A (ω t)) (hy : plainName y.cls = true) (hc : y.cls = own) (hlen : (lg_sl av).length ≤ nL)
    (body : ∀ (p : Program) (e : Env) (S : State) (m : MethodId) (args : Array Value) (below : List Frame) (meth : Method) (c : Code) (Q : State → Prop), Cx own g p S m args meth c cc nL (some .boolean) →
      (∀ (H : Heap) (locs : List Loc) (pc : Nat) (ls : Array Slot) (v : Int32), Yw g ω A S H locs t1 → v = bI r → decode cc pc = .ok (.ireturn, 1) → W p l e rm S m args below meth c H locs 0 0 Q (F0 m pc ls [.int v])) →
      ∀ (H : Heap) (locs : List Loc) (ls : Array Slot), Yw g ω A S H locs t0 → lv_has ls nL (lv_args 0 av) → W p l e rm S m args below meth c H locs 0 0 Q (F0 m 0 ls [])) :
    Ci l g ω A y (bw y cc nL (some .boolean)) rm av t0 (bI r) t1 := by
  refine Met.ofW (cc := cc) (maxL := nL) (ret := some .boolean) hy rfl ?_
  intro p e S m args below meth c s₁ B hml hv
  obtain ⟨rfl, hP, hK⟩ := hv
  have hts := atoms_spec (ws := bw y cc nL (some .boolean)) B.pre
  have hown : S.vm.findClass own = some m.cls := by rw [← hc]; exact findClass_of_methodNamed B.named
  have X : Cx own g p S m av.toArray meth c cc nL (some .boolean) := ⟨B.exec, B.bytes, B.returns, hml, hown, fun w h => hts w (List.mem_cons_of_mem _ h), hK, B.notSynchronized⟩
  have hlocks := B.notSynchronized
  have hl := lv_entry av (n := nL) hlen
  rw [lg_entry_eq]
  refine body p e S m _ below meth c _ X (fun H locs pc ls v Y hv hd => ?_) S.heap [] _ ⟨hP, hD t0, va_S.rf⟩ hl
  exact W.zret X.1 X.2.1 X.2.2.1 (by rw [hv]; exact bI_nar r) (fun t ht hW => ⟨⟨v, (), rfl, hv, by show va_P g.1 bw_cl (ω t1) t.heap; rw [ht]; exact Y.1⟩, Y.2.2.F ht⟩) Y.2.2.2.2 hd
theorem Cv.of {τ : Type} {l : Launch} {g : GG} {ω : τ → va_W} {A : Nat → Prop} {y : MethodName} {own : String} {rm : Room} {av : List Value} {t0 t1 : τ} {cc : ByteArray} {nL : Nat}
    (hD : ∀ t, va_D A (ω t)) (hy : plainName y.cls = true) (hc : y.cls = own) (hlen : (lg_sl av).length ≤ nL)
    (body : ∀ (p : Program) (e : Env) (S : State) (m : MethodId) (args : Array Value) (below : List Frame) (meth : Method) (c : Code) (Q : State → Prop), Cx own g p S m args meth c cc nL none →
      (∀ (H : Heap) (locs : List Loc) (pc : Nat) (ls : Array Slot), Yw g ω A S H locs t1 → decode cc pc = .ok (.return_, 1) → W p l e rm S m args below meth c H locs 0 0 Q (F0 m pc ls [])) →
      ∀ (H : Heap) (locs : List Loc) (ls : Array Slot), Yw g ω A S H locs t0 → lv_has ls nL (lv_args 0 av) → W p l e rm S m args below meth c H locs 0 0 Q (F0 m 0 ls [])) :
    Cv l g ω A y (bw y cc nL none) rm av t0 t1 := by
  refine Met.ofW (cc := cc) (maxL := nL) (ret := none) hy rfl ?_
  intro p e S m args below meth c s₁ B hml hv
  obtain ⟨rfl, hP, hK⟩ := hv
  have hts := atoms_spec (ws := bw y cc nL none) B.pre
  have hown : S.vm.findClass own = some m.cls := by rw [← hc]; exact findClass_of_methodNamed B.named
  have X : Cx own g p S m av.toArray meth c cc nL none := ⟨B.exec, B.bytes, B.returns, hml, hown, fun w h => hts w (List.mem_cons_of_mem _ h), hK, B.notSynchronized⟩
  have hlocks := B.notSynchronized
  have hl := lv_entry av (n := nL) hlen
  rw [lg_entry_eq]
  refine body p e S m _ below meth c _ X (fun H locs pc ls Y hd => ?_) S.heap [] _ ⟨hP, hD t0, va_S.rf⟩ hl
  exact W.vret X.1 X.2.1 X.2.2.1 (fun t ht hW => ⟨⟨(), rfl, trivial, by show va_P g.1 bw_cl (ω t1) t.heap; rw [ht]; exact Y.1⟩, Y.2.2.F ht⟩) Y.2.2.2.2 hd
/-- a static method without a world -/
theorem Cs.of {l : Launch} {y : MethodName} {own : String} {rm : Room} {av : List Value} {r : Int32} {cc : ByteArray} {nL : Nat} {ty : FieldType} (hn : narrow ty (.int r) = .int r)
    (hy : plainName y.cls = true) (hc : y.cls = own) (hlen : (lg_sl av).length ≤ nL)
    (body : ∀ (p : Program) (e : Env) (S : State) (m : MethodId) (args : Array Value) (below : List Frame) (meth : Method) (c : Code) (Q : State → Prop), p.tables.exec = Jvm.exec → c.code = cc →
      (∀ (pc : Nat) (ls : Array Slot) (v : Int32), v = r → decode cc pc = .ok (.ireturn, 1) → W p l e rm S m args below meth c S.heap [] 0 0 Q (F0 m pc ls [.int v])) →
      ∀ (ls : Array Slot), lv_has ls nL (lv_args 0 av) → W p l e rm S m args below meth c S.heap [] 0 0 Q (F0 m 0 ls [])) :
    Cs l y (bw y cc nL (some ty)) rm av r := by
  refine Met.ofW (cc := cc) (maxL := nL) (ret := some ty) hy rfl ?_
  intro p e S m args below meth c s₁ B hml hv
  obtain ⟨rfl, -⟩ := hv
  have hlocks := B.notSynchronized
  have hl := lv_entry av (n := nL) hlen
  rw [lg_entry_eq]
  refine body p e S m _ below meth c _ B.exec B.bytes (fun pc ls v hv hd => ?_) _ hl
  exact W.zret B.exec B.bytes B.returns (by rw [hv]; exact hn) (fun t ht hW => ⟨⟨v, (), rfl, hv, trivial⟩, (va_S.rf (A := fun _ => False)).F ht⟩) (fun q h => by cases h) hd
section CA
variable {p : Program} {l : Launch} {e : Env} {R : Room} {S : State} {m : MethodId} {args : Array Value} {below : List Frame} {meth : Method} {c : Code} {H : Heap} {locs : List Loc} {cells slots : Nat} {Q : State → Prop}
variable {cc : ByteArray} {pc : Nat} {ls : Array Slot} {rest : List Value}
/-- an instance method of the same world: an int comes back -/
theorem cl_vi {τ : Type} {g : GG} {ω : τ → va_W} {A : Nat → Prop} {own C : String} {nL : Nat} {ret0 ret : Option FieldType} {y : MethodName} {b : ByteArray} {n idx a0 ci na : Nat} {rm : Room} {av st0 : List Value} {t0 t1 : τ} {r : Int32} {T : u_T} {N : Nat} {fs : List Value}
    (X : Cx own g p S m args meth c cc nL ret0) (hD : ∀ t, va_D A (ω t)) (Y : Yw g ω A S H locs t0) (hM : Ci l g ω A y (bw y b n ret) rm (.ref a0 :: av) t0 r t1)
    (hw : ∀ w ∈ wsV own idx C y (bw y b n ret), w ∈ bw_G) (hd : y.cls = C ∧ y.cls ≠ "java/lang/invoke/MethodHandle" ∧ y.cls ≠ "java/lang/invoke/VarHandle" ∧ (parseMethodDescriptor y.desc).map (fun d => d.parameters.length) = some na) (hna : av.length = na)
    (hcl : bw_cl[ci]? = some (C, T, N)) (hrc : (ω t0)[0]? = some (a0, .inr (ci, fs))) (hrm : rm.cells = 0 ∧ rm.slots = 0) (hR : rm.frames + 1 ≤ R.frames ∧ 8 + (n + 11) + rm.locals ≤ R.locals) (hcs : cells ≤ R.cells ∧ slots ≤ R.slots)
    (hls : ls.size = nL) (hst : st0 = av.reverse ++ .ref a0 :: rest) (hrest : (rest.map fun v => v.category).sum ≤ 8) (hdg : decode cc pc = .ok (.invokevirtual idx, 3))
    (kk : ∀ (H : Heap) (locs : List Loc), Yw g ω A S H locs t1 → W p l e R S m args below meth c H locs cells slots Q (F0 m (pc + 3) ls (.int r :: rest))) : W p l e R S m args below meth c H locs cells slots Q (F0 m pc ls st0) := by
  obtain ⟨hx, hb, -, hml, hown, hts, hK, -⟩ := X
  obtain ⟨hP, hDt, hS⟩ := Y
  have hrecv := va_recv hK hP hcl hrc
  refine va_calli (A0 := A) (va_runV (As := av) (rest := rest) ⟨hx, hb, hml, hown, hts⟩ hM (cwV na hts (bw_good hw) rfl hrm.1 hrm.2 hd hR) ⟨PreW.blind, hrecv, fun U hU hW => ⟨rfl, by rw [hU]; exact hP, va_K.moved hW.alike hK⟩⟩ rfl hna hls hst (lv_room hrest) hdg hcs) hS (fun q _ h => h) (fun q h => h) (fun r' u t H1 locs1 ht hvm hw hB hz1 hk1 hS1 => ?_)
  subst hw
  rw [ht] at hB
  exact kk H1 locs1 ⟨hB, hD t1, hS1⟩
/-- an instance method of the same world: nothing comes back -/
theorem cl_vv {τ : Type} {g : GG} {ω : τ → va_W} {A : Nat → Prop} {own C : String} {nL : Nat} {ret0 : Option FieldType} {y : MethodName} {b : ByteArray} {n idx a0 ci na : Nat} {rm : Room} {av st0 : List Value} {t0 t1 : τ} {T : u_T} {N : Nat} {fs : List Value}
    (X : Cx own g p S m args meth c cc nL ret0) (hD : ∀ t, va_D A (ω t)) (Y : Yw g ω A S H locs t0) (hM : Cv l g ω A y (bw y b n none) rm (.ref a0 :: av) t0 t1)
    (hw : ∀ w ∈ wsV own idx C y (bw y b n none), w ∈ bw_G) (hd : y.cls = C ∧ y.cls ≠ "java/lang/invoke/MethodHandle" ∧ y.cls ≠ "java/lang/invoke/VarHandle" ∧ (parseMethodDescriptor y.desc).map (fun d => d.parameters.length) = some na) (hna : av.length = na)
    (hcl : bw_cl[ci]? = some (C, T, N)) (hrc : (ω t0)[0]? = some (a0, .inr (ci, fs))) (hrm : rm.cells = 0 ∧ rm.slots = 0) (hR : rm.frames + 1 ≤ R.frames ∧ 8 + (n + 11) + rm.locals ≤ R.locals) (hcs : cells ≤ R.cells ∧ slots ≤ R.slots)
    (hls : ls.size = nL) (hst : st0 = av.reverse ++ .ref a0 :: rest) (hrest : (rest.map fun v => v.category).sum ≤ 8) (hdg : decode cc pc = .ok (.invokevirtual idx, 3))
    (kk : ∀ (H : Heap) (locs : List Loc), Yw g ω A S H locs t1 → W p l e R S m args below meth c H locs cells slots Q (F0 m (pc + 3) ls rest)) : W p l e R S m args below meth c H locs cells slots Q (F0 m pc ls st0) := by
  obtain ⟨hx, hb, -, hml, hown, hts, hK, -⟩ := X
  obtain ⟨hP, hDt, hS⟩ := Y
  have hrecv := va_recv hK hP hcl hrc
  refine va_callv (A0 := A) (va_runV (As := av) (rest := rest) ⟨hx, hb, hml, hown, hts⟩ hM (cwV na hts (bw_good hw) rfl hrm.1 hrm.2 hd hR) ⟨PreW.blind, hrecv, fun U hU hW => ⟨rfl, by rw [hU]; exact hP, va_K.moved hW.alike hK⟩⟩ rfl hna hls hst (lv_room hrest) hdg hcs) hS (fun q _ h => h) (fun q h => h) (fun u t H1 locs1 ht hvm hw hB hz1 hk1 hS1 => ?_)
  rw [ht] at hB
  exact kk H1 locs1 ⟨hB, hD t1, hS1⟩
/-- a static method without a world -/
theorem cl_s {τ : Type} {g : GG} {ω : τ → va_W} {A : Nat → Prop} {own : String} {nL : Nat} {ret0 ret : Option FieldType} {y : MethodName} {b : ByteArray} {n idx na : Nat} {rm : Room} {av st0 : List Value} {t0 : τ} {r : Int32}
    (X : Cx own g p S m args meth c cc nL ret0) (Y : Yw g ω A S H locs t0) (hM : Cs l y (bw y b n ret) rm av r)
    (hw : ∀ w ∈ va_wsS own idx y (bw y b n ret), w ∈ bw_G) (hd : y.cls ≠ "java/lang/invoke/MethodHandle" ∧ y.cls ≠ "java/lang/invoke/VarHandle" ∧ (parseMethodDescriptor y.desc).map (fun d => d.parameters.length) = some na) (hna : av.length = na)
    (hrm : rm.cells = 0 ∧ rm.slots = 0) (hR : rm.frames + 1 ≤ R.frames ∧ 8 + (n + 11) + rm.locals ≤ R.locals) (hcs : cells ≤ R.cells ∧ slots ≤ R.slots)
    (hls : ls.size = nL) (hst : st0 = av.reverse ++ rest) (hrest : (rest.map fun v => v.category).sum ≤ 8) (hdg : decode cc pc = .ok (.invokestatic idx, 3))
    (kk : ∀ (H : Heap) (locs : List Loc), Yw g ω A S H locs t0 → W p l e R S m args below meth c H locs cells slots Q (F0 m (pc + 3) ls (.int r :: rest))) : W p l e R S m args below meth c H locs cells slots Q (F0 m pc ls st0) := by
  obtain ⟨hx, hb, -, hml, hown, hts, hK, -⟩ := X
  obtain ⟨hP, hDt, hS⟩ := Y
  refine va_calli (A0 := A) (va_runS (As := av) (rest := rest) ⟨hx, hb, hml, hown, hts⟩ hM (va_cwS na hts (bw_good hw) rfl hrm.1 hrm.2 hd hR) ⟨fun a U g mk q => ⟨q.1, trivial⟩, fun U hU hW => ⟨rfl, trivial⟩⟩ rfl hna hls hst (lv_room hrest) hdg hcs) hS (fun q _ h => False.elim h) (fun q h => False.elim h) (fun r' u t H1 locs1 ht hvm hw hB hz1 hk1 hS1 => ?_)
  subst hw
  exact kk H1 locs1 ⟨hP.kept (fun k q hq => hk1 q.1 ((hP k q hq).lt) (fun z => z)), hDt, hS1⟩
end CA
