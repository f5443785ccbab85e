/-! calls that always throw -/
def exN : List String := ["java/lang/RuntimeException", "java/lang/Exception"]
def exI : String := "java/lang/IndexOutOfBoundsException"
def exA : String := "java/lang/IllegalArgumentException"
def exS : String := "java/lang/IllegalStateException"
def exB : List Cond := [.declares (Bundle.initS "java/lang/RuntimeException"), .declares (Bundle.initS "java/lang/Exception"), .declares (Bundle.initS Bundle.tN), .castable exI exI, .castable exA exA, .castable exS exS]
/-- the six words of a throw that are not good ones -/
def N6 (U : State) : Prop := va_Nw (.declares (Bundle.initS "java/lang/RuntimeException")) U ∧ va_Nw (.declares (Bundle.initS "java/lang/Exception")) U ∧ va_Nw (.declares (Bundle.initS Bundle.tN)) U ∧ va_Nw (.castable exI exI) U ∧ va_Nw (.castable exA exA) U ∧ va_Nw (.castable exS exS) U
theorem N6.warm {s U : State} (hW : s.WarmedH U.vm) (h : N6 s) : N6 U := ⟨va_Nw.warmD hW h.1, va_Nw.warmD hW h.2.1, va_Nw.warmD hW h.2.2.1, va_Nw.warmC hW h.2.2.2.1, va_Nw.warmC hW h.2.2.2.2.1, va_Nw.warmC hW h.2.2.2.2.2⟩
theorem N6.same {s U : State} (hv : s.vm = U.vm) (h : N6 s) : N6 U := ⟨va_Nw.same rfl hv h.1, va_Nw.same rfl hv h.2.1, va_Nw.same rfl hv h.2.2.1, va_Nw.same rfl hv h.2.2.2.1, va_Nw.same rfl hv h.2.2.2.2.1, va_Nw.same rfl hv h.2.2.2.2.2⟩
theorem N6.all {S : State} {args : Array Value} (h : N6 S) : ∀ w ∈ exB, w.before args S = true := vx_c (va_Nw.use rfl h.1) (vx_c (va_Nw.use rfl h.2.1) (vx_c (va_Nw.use rfl h.2.2.1) (vx_c (va_Nw.use rfl h.2.2.2.1) (vx_c (va_Nw.use rfl h.2.2.2.2.1) (vx_c (va_Nw.use rfl h.2.2.2.2.2) vx_n)))))
theorem at_I : (∀ w ∈ (vx_atS RH 111 exI exN).filter goodWord, w ∈ bw_G) ∧ ∀ w ∈ (vx_atS RH 111 exI exN).filter (fun w => !goodWord w), w ∈ exB := by decide +kernel
theorem at_A : (∀ w ∈ (vx_atS RH 93 exA exN).filter goodWord, w ∈ bw_G) ∧ ∀ w ∈ (vx_atS RH 93 exA exN).filter (fun w => !goodWord w), w ∈ exB := by decide +kernel
theorem at_S : (∀ w ∈ (vx_atS RH 70 exS exN).filter goodWord, w ∈ bw_G) ∧ ∀ w ∈ (vx_atS RH 70 exS exN).filter (fun w => !goodWord w), w ∈ exB := by decide +kernel
theorem cl_I : Cond.classLink RH 107 exI ∈ bw_G ∧ Cond.initialized exI ∈ bw_G := by decide +kernel
theorem cl_A : Cond.classLink RH 89 exA ∈ bw_G ∧ Cond.initialized exA ∈ bw_G := by decide +kernel
theorem cl_S : Cond.classLink RH 66 exS ∈ bw_G ∧ Cond.initialized exS ∈ bw_G := by decide +kernel
theorem go_I : ∀ w ∈ Cond.classLink RH 107 exI :: Cond.initialized exI :: vx_atS RH 111 exI exN, vx_ot w = true := by decide +kernel
theorem go_A : ∀ w ∈ Cond.classLink RH 89 exA :: Cond.initialized exA :: vx_atS RH 93 exA exN, vx_ot w = true := by decide +kernel
theorem go_S : ∀ w ∈ Cond.classLink RH 66 exS :: Cond.initialized exS :: vx_atS RH 70 exS exN, vx_ot w = true := by decide +kernel
def AX (A : Nat → Prop) (sz : Nat) : Nat → Prop := fun q => A q ∨ sz ≤ q
/-- what a throw needs of the start: two statics of Throwable, the texts -/
def Zt (A : Nat → Prop) (U : State) (H : Heap) : Prop := vx_Zq Bundle.tN "UNASSIGNED_STACK" Bundle.steD A U H ∧ vx_Zq Bundle.tN "SUPPRESSED_SENTINEL" Bundle.listD A U H ∧ (∃ sa, vk_R RH 68 "no place for an object" sa U) ∧ (∃ sa, vk_R RH 91 "the budget is 2 to 8 pages" sa U) ∧ (∃ sa, vk_R RH 109 "there is no such register" sa U) ∧ (∃ sa, vk_R RH 112 "there is no such field" sa U) ∧ (∃ sa, vk_R RH 114 "the register holds nothing" sa U) ∧ N6 U
theorem Zt.go {A B : Nat → Prop} {S U : State} {H : Heap} (h : Zt A S S.heap) (hk : ∀ q : Nat, q < S.heap.size → ¬ A q → H[q]? = S.heap[q]?) (hW : S.WarmedH U.vm) (hAB : ∀ q, B q → A q) : Zt B U H := by
  obtain ⟨h1, h2, ⟨s1, t1⟩, ⟨s2, t2⟩, ⟨s3, t3⟩, ⟨s4, t4⟩, ⟨s5, t5⟩, n6⟩ := h
  exact ⟨vx_Zq.narrow (vx_Zq.moved hW.alike (h1.kept hk)) hAB, vx_Zq.narrow (vx_Zq.moved hW.alike (h2.kept hk)) hAB, ⟨s1, t1.warm hW⟩, ⟨s2, t2.warm hW⟩, ⟨s3, t3.warm hW⟩, ⟨s4, t4.warm hW⟩, ⟨s5, t5.warm hW⟩, n6.warm hW⟩
theorem Zt.same {A : Nat → Prop} {u U : State} {H : Heap} (hv : U.vm = u.vm) (h : Zt A u H) : Zt A U H := by
  obtain ⟨h1, h2, ⟨s1, t1⟩, ⟨s2, t2⟩, ⟨s3, t3⟩, ⟨s4, t4⟩, ⟨s5, t5⟩, n6⟩ := h
  have hal : u.vm.Alike U.vm := by rw [hv]; exact Vm.Alike.refl u.vm
  exact ⟨vx_Zq.moved hal h1, vx_Zq.moved hal h2, ⟨s1, t1.same hv⟩, ⟨s2, t2.same hv⟩, ⟨s3, t3.same hv⟩, ⟨s4, t4.same hv⟩, ⟨s5, t5.same hv⟩, n6.same hv.symm⟩
def PreX {τ : Type} (g : GG) (ω : τ → va_W) (A : Nat → Prop) (t : τ) (sz : Nat) : State → Prop := fun U => U.heap.size = sz ∧ va_P g.1 bw_cl (ω t) U.heap ∧ va_K g.1 bw_cl (bw_ty g) U ∧ Zt (AX A sz) U U.heap
theorem PreX.blind {τ : Type} {g : GG} {ω : τ → va_W} {A : Nat → Prop} {t : τ} {sz : Nat} {av : List Value} : FrameBlind (va_Pc av (PreX g ω A t sz)) := fun a U g mk q => by
  obtain ⟨q0, q1, qP, qK, qZ⟩ := q
  exact ⟨q0, q1, qP, va_K.moved (u := U) (U := U.calling g mk a) (Vm.Alike.refl U.vm) qK, Zt.same (u := U) rfl qZ⟩
def XE {τ : Type} (g : GG) (ω : τ → va_W) (A : Nat → Prop) (E : String) (t1 : τ) (sz : Nat) : String → State → State → Prop := vx_X (fun (_ : Unit) => True) (fun E' _ U => E' = E ∧ va_P g.1 bw_cl (ω t1) U.heap) (AX A sz)
def CX {τ : Type} (l : Launch) (g : GG) (ω : τ → va_W) (A : Nat → Prop) (y : MethodName) (ws : List Cond) (rm : Room) (av : List Value) (t0 : τ) (E : String) (t1 : τ) : Prop :=
  ∀ sz, vx_Met l y ws rm (va_Pc av (PreX g ω A t0 sz)) (fun _ _ _ _ => False) (XE g ω A E t1 sz) 1 6 (AX A sz)
theorem AX.D {A : Nat → Prop} {sz : Nat} {ws : va_W} (h : va_D A ws) : va_D (AX A sz) ws := h.weaken (fun _ _ _ x => Or.inl x)
theorem CX.of {τ : Type} {l : Launch} {g : GG} {ω : τ → va_W} {A : Nat → Prop} {y : MethodName} {own : String} {rm : Room} {av : List Value} {t0 t1 : τ} {E : String} {cc : ByteArray} {nL : Nat} {ret : Option FieldType}
    (hD : ∀ t, va_D A (ω t)) (hy : plainName y.cls = true) (hc : y.cls = own) (hlen : (lg_sl av).length ≤ nL)
    (body : ∀ (p : Program) (e : Env) (S : State) (m : MethodId) (args : Array Value) (below : List Frame) (meth : Method) (c : Code), Cx own g p S m args meth c cc nL ret → (∀ x ∈ c.exceptionTable.toList, False) → Zt (AX A S.heap.size) S S.heap →
      ∀ (H : Heap) (locs : List Loc) (ls : Array Slot), Yw g ω (AX A S.heap.size) S H locs t0 → lv_has ls nL (lv_args 0 av) → W p l e rm S m args below meth c H locs 0 0 (vx_MQ below (fun _ _ _ _ => False) (XE g ω A E t1 S.heap.size) args S 1 6 (AX A S.heap.size)) (F0 m 0 ls [])) :
    CX l g ω A y (bw y cc nL ret) rm av t0 E t1 := by
  intro sz
  refine vx_ofW (cc := cc) (maxL := nL) (ret := ret) hy rfl ?_
  intro p e S m args below meth c s₁ B hml hex hv
  obtain ⟨rfl, hsz, hP, hK, hZ⟩ := hv
  subst hsz
  have hts := atoms_spec (ws := bw y cc nL ret) B.pre
  have hown : S.vm.findClass own = some m.cls := by rw [← hc]; exact findClass_of_methodNamed B.named
  have X : Cx own g p S m av.toArray meth c cc nL ret := ⟨B.exec, B.bytes, B.returns, hml, hown, fun w h => hts w (List.mem_cons_of_mem _ h), hK, B.notSynchronized⟩
  have hl := lv_entry av (n := nL) hlen
  rw [lg_entry_eq]
  exact body p e S m _ below meth c X hex hZ S.heap [] _ ⟨hP, AX.D (hD t0), va_S.rf⟩ hl
section TH
variable {p : Program} {l : Launch} {e : Env} {R : Room} {S : State} {m : MethodId} {args : Array Value} {below : List Frame} {meth : Method} {c : Code} {H : Heap} {locs : List Loc}
variable {cc : ByteArray} {pc : Nat} {ls : Array Slot} {rest : List Value} {g : GG} {A : Nat → Prop} {nL : Nat} {ret : Option FieldType}
theorem yw_kept {τ : Type} {ω : τ → va_W} {t : τ} {H1 : Heap} (hP : va_P g.1 bw_cl (ω t) H) (h : ∀ q : Nat, q < H.size → H1[q]? = H[q]?) : va_P g.1 bw_cl (ω t) H1 := hP.kept (fun k q hq => h q.1 ((hP k q hq).lt))
/-- throw new E("text"), in a method of the class -/
theorem cx_throw {τ : Type} {ω : τ → va_W} {t1 : τ} {E text : String} {ik is ic : Nat} (hl : l.stackTraces = false) (X : Cx RH g p S m args meth c cc nL ret) (hex : ∀ x ∈ c.exceptionTable.toList, False) (hZ : Zt (AX A S.heap.size) S S.heap) (Y : Yw g ω (AX A S.heap.size) S H locs t1)
    (hcls : Bundle.fit E = true) (hk : Cond.classLink RH ik E ∈ bw_G ∧ Cond.initialized E ∈ bw_G) (hat : (∀ w ∈ (vx_atS RH ic E exN).filter goodWord, w ∈ bw_G) ∧ ∀ w ∈ (vx_atS RH ic E exN).filter (fun w => !goodWord w), w ∈ exB) (hgo : ∀ w ∈ Cond.classLink RH ik E :: Cond.initialized E :: vx_atS RH ic E exN, vx_ot w = true) (hstr : ∃ sa, vk_R RH is text sa S)
    (hls : ls.size = nL) (d0 : decode cc pc = .ok (.new ik, 3)) (d3 : decode cc (pc + 3) = .ok (.dup, 1)) (d4 : decode cc (pc + 4) = .ok (.ldc is, 2)) (d6 : decode cc (pc + 6) = .ok (.invokespecial ic, 3)) (d9 : decode cc (pc + 9) = .ok (.athrow, 1))
    (hR : 6 ≤ R.frames ∧ 82 ≤ R.locals ∧ 1 ≤ R.cells ∧ 6 ≤ R.slots) :
    W p l e R S m args below meth c H locs 0 0 (vx_MQ below (fun _ _ _ _ => False) (XE g ω A E t1 S.heap.size) args S 1 6 (AX A S.heap.size)) (F0 m pc ls []) := by
  obtain ⟨hx, hb, -, hml, hown, hts, hK, hlocks⟩ := X
  obtain ⟨sa, hsa⟩ := hstr
  exact vx_throwS (A := AX A S.heap.size) (names := exN) hx hb hl hown hcls (by decide) (hts _ hk.1) (hts _ hk.2) hsa (vx_hat (fun w h => hts w (hat.1 w h)) hat.2 hZ.2.2.2.2.2.2.2.all) hgo hZ.1 hZ.2.1 Y.2.2 (hls.trans hml.symm) d0 d3 d4 d6 d9 (fun x h => (hex x h).elim)
    (by show 2 + 3 < R.frames; omega) (by show 0 + (13 * (2 + 1) + 43) ≤ R.locals; omega) (by omega) (by omega) hlocks
    (fun t ha hz hk => ⟨(), trivial, ⟨rfl, yw_kept Y.1 hk⟩, ⟨Nat.le_trans Y.2.2.1 hz, fun q h1 h2 => (hk q (Nat.lt_of_lt_of_le h1 Y.2.2.1)).trans (Y.2.2.2.1 q h1 h2)⟩⟩) Y.2.2.2.2 (by omega) (by omega)
theorem cx_call {SX : Type} {px : SX → Prop} {BX : String → SX → State → Prop} {A0 AX1 : Nat → Prop} {H0 : Heap} {Q : State → Prop} {cells slots mc ms : Nat} {st0 : List Value} {a : Array Value} {free : Addr → Prop} (hr : vx_Run p l e R S m args below meth c H locs cells slots mc ms (F0 m pc ls st0) rest (fun _ _ _ => False) (vx_X px BX AX1) free) (hS : va_S A0 H0 H locs) (hf : ∀ q, free q → A0 q) (hAX : ∀ q, q < H.size → AX1 q → A0 q)
    (kx : ∀ (E : String) (ce : Cell) (q9 : Addr) (u : SX) (t : State) (H1 : Heap) (locs1 : List Loc), t.heap = H1 → S.vm.Alike t.vm → px u → BX E u t → H.size ≤ H1.size → (∀ q : Nat, q < H.size → ¬ AX1 q → H1[q]? = H[q]?) → va_S A0 H0 H1 locs1 → H1[q9]? = some ce → ce.vm = .none → S.vm.findClass E = some ce.cls → vx_W p l e R S m args below meth c H1 locs1 (cells + mc) (slots + ms) Q (F0 m pc ls rest) q9) : W p l e R S m args below meth c H locs cells slots Q (F0 m pc ls st0) := by
  intro T hT X
  rcases hr T hT X with ⟨v, st₀, t, T', L, h0, X', hL, e1, e2, hF, st⟩ | ⟨q, st₀, t, T', L, E, ce, h0, X', hL, e1, e2, ⟨u, hp, hb, hF⟩, hce, hcv, hcl, st⟩
  · exact hF.elim
  · obtain ⟨k1, k2, k3⟩ := vx_keep h0 e1 hS hAX hf hL hF
    obtain ⟨t2, a1, b1⟩ := kx E ce q u t T'.heap (locs ++ L) e1.symm (by rw [← e2]; exact X'.warmed.alike) hp hb k1 k2 k3 (by rw [e1]; exact hce) hcv hcl T' rfl X'
    exact ⟨t2, st.trans a1, b1⟩
/-- a static check throws, and it goes on to the caller -/
theorem cx_s {τ : Type} {ω : τ → va_W} {t1 : τ} {E : String} {y : MethodName} {b : ByteArray} {n idx na : Nat} {rm : Room} {av st0 : List Value} {ret1 : Option FieldType} {own : String} (X : Cx own g p S m args meth c cc nL ret) (hex : ∀ x ∈ c.exceptionTable.toList, False) (hZ : Zt (AX A S.heap.size) S S.heap) (Y : Yw g ω (AX A S.heap.size) S H locs t1)
    (hM : CX l g (fun _ : Unit => []) (fun _ => False) y (bw y b n ret1) rm av () E ()) (hw : ∀ w ∈ va_wsS own idx y (bw y b n ret1), w ∈ bw_G) (hd : y.cls ≠ "java/lang/invoke/MethodHandle" ∧ y.cls ≠ "java/lang/invoke/VarHandle" ∧ (parseMethodDescriptor y.desc).map (fun d => d.parameters.length) = some na) (hna : av.length = na)
    (hrm : rm.cells = 1 ∧ rm.slots = 6) (hR : rm.frames + 1 ≤ R.frames ∧ 8 + (n + 11) + rm.locals ≤ R.locals) (hcs : 1 ≤ R.cells ∧ 6 ≤ R.slots) (hls : ls.size = nL) (hst : st0 = av.reverse ++ rest) (hrest : (rest.map fun v => v.category).sum ≤ 8) (hdg : decode cc pc = .ok (.invokestatic idx, 3)) :
    W p l e R S m args below meth c H locs 0 0 (vx_MQ below (fun _ _ _ _ => False) (XE g ω A E t1 S.heap.size) args S 1 6 (AX A S.heap.size)) (F0 m pc ls st0) := by
  obtain ⟨hx, hb, -, hml, hown, hts, hK, hlocks⟩ := X
  obtain ⟨hP, hDt, hS⟩ := Y
  have hsub : ∀ q, AX (fun _ => False) H.size q → AX A S.heap.size q := fun q h => h.elim False.elim (fun z => Or.inr (Nat.le_trans hS.1 z))
  refine cx_call (A0 := AX A S.heap.size) (a := av.toArray) (vx_runS (As := av) (rest := rest) ⟨hx, hb, hml, hown, hts⟩ (hM H.size) (va_cwS na hts (bw_good hw) rfl hrm.1 hrm.2 hd hR) ⟨PreX.blind, fun U hU hW => ⟨rfl, by rw [hU], fun k q h => by simp at h, va_K.moved hW.alike hK, by rw [hU]; exact hZ.go hS.2.1 hW hsub⟩⟩ rfl hna hls hst (lv_room hrest) hdg (by omega)) hS hsub (fun q _ h => hsub q h) (fun E' ce q9 u t H1 locs1 ht hvm hpx hB hz1 hk1 hS1 hce hcv hcl => ?_)
  obtain ⟨rfl, -⟩ := hB
  have hk2 : ∀ q : Nat, q < H.size → H1[q]? = H[q]? := fun q h => hk1 q h (fun z => z.elim id (fun y => by omega))
  exact vx_out (fun x h => (hex x h).elim) hlocks hce hcv hcl (fun t2 ht2 _ => ⟨(), trivial, ⟨rfl, by rw [ht2]; exact yw_kept hP hk2⟩, hS1.F ht2⟩) hS1.2.2 (by omega) (by omega)
/-- an instance method of the same world throws, and it goes on to the caller -/
theorem cx_v {τ : Type} {ω : τ → va_W} {t0 t1 : τ} {E : String} {y : MethodName} {b : ByteArray} {n idx na a0 ci : Nat} {rm : Room} {av st0 : List Value} {ret1 : Option FieldType} {own C : String} {T : u_T} {N : Nat} {fs : List Value} (X : Cx own g p S m args meth c cc nL ret) (hex : ∀ x ∈ c.exceptionTable.toList, False) (hZ : Zt (AX A S.heap.size) S S.heap) (Y : Yw g ω (AX A S.heap.size) S H locs t0)
    (hM : CX l g ω A y (bw y b n ret1) rm (.ref a0 :: av) t0 E t1) (hw : ∀ w ∈ wsV own idx C y (bw y b n ret1), w ∈ bw_G) (hd : y.cls = C ∧ y.cls ≠ "java/lang/invoke/MethodHandle" ∧ y.cls ≠ "java/lang/invoke/VarHandle" ∧ (parseMethodDescriptor y.desc).map (fun d => d.parameters.length) = some na) (hna : av.length = na)
    (hcl : bw_cl[ci]? = some (C, T, N)) (hrc : (ω t0)[0]? = some (a0, .inr (ci, fs))) (hrm : rm.cells = 1 ∧ rm.slots = 6) (hR : rm.frames + 1 ≤ R.frames ∧ 8 + (n + 11) + rm.locals ≤ R.locals) (hcs : 1 ≤ R.cells ∧ 6 ≤ R.slots) (hls : ls.size = nL) (hst : st0 = av.reverse ++ .ref a0 :: rest) (hrest : (rest.map fun v => v.category).sum ≤ 8) (hdg : decode cc pc = .ok (.invokevirtual idx, 3)) :
    W p l e R S m args below meth c H locs 0 0 (vx_MQ below (fun _ _ _ _ => False) (XE g ω A E t1 S.heap.size) args S 1 6 (AX A S.heap.size)) (F0 m pc ls st0) := by
  obtain ⟨hx, hb, -, hml, hown, hts, hK, hlocks⟩ := X
  obtain ⟨hP, hDt, hS⟩ := Y
  have hsub : ∀ q, AX A H.size q → AX A S.heap.size q := fun q h => h.elim Or.inl (fun z => Or.inr (Nat.le_trans hS.1 z))
  have hrecv := va_recv hK hP hcl hrc
  refine cx_call (A0 := AX A S.heap.size) (a := (Value.ref a0 :: av).toArray) (vx_runV (As := av) (rest := rest) ⟨hx, hb, hml, hown, hts⟩ (hM H.size) (cwV na hts (bw_good hw) rfl hrm.1 hrm.2 hd hR) ⟨PreX.blind, hrecv, fun U hU hW => ⟨rfl, by rw [hU], by rw [hU]; exact hP, va_K.moved hW.alike hK, by rw [hU]; exact hZ.go hS.2.1 hW hsub⟩⟩ rfl hna hls hst (lv_room hrest) hdg (by omega)) hS hsub (fun q _ h => hsub q h) (fun E' ce q9 u t H1 locs1 ht hvm hpx hB hz1 hk1 hS1 hce hcv hcl => ?_)
  obtain ⟨rfl, hB⟩ := hB
  rw [ht] at hB
  exact vx_out (fun x h => (hex x h).elim) hlocks hce hcv hcl (fun t2 ht2 _ => ⟨(), trivial, ⟨rfl, by rw [ht2]; exact hB⟩, hS1.F ht2⟩) hS1.2.2 (by omega) (by omega)
end TH
