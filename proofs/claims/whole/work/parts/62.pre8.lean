/-! calls within a method that throws later -/
theorem emp_D {A : Nat → Prop} : ∀ _ : Unit, va_D A [] := fun _ => ⟨fun i j p q h => by simp at h, fun k q h => by simp at h⟩
theorem m_fld_t {f : Int32} (h1 : ¬ f < 0) (h2 : f < nI 2) : m_fld f = true := by
  rcases pk_ix f (n := 2) (by decide) with h | h | ⟨j, hj, rfl⟩
  · exact absurd h h1
  · exact absurd h2 (Int32.not_lt.mpr h)
  · rcases (show j = 0 ∨ j = 1 by omega) with rfl | rfl <;> decide
theorem m_reg_t {f : Int32} (h1 : ¬ f < 0) (h2 : f < nI 4) : m_reg f = true := by
  rcases pk_ix f (n := 4) (by decide) with h | h | ⟨j, hj, rfl⟩
  · exact absurd h h1
  · exact absurd h2 (Int32.not_lt.mpr h)
  · exact m_reg_nI hj
section CC
variable {p : Program} {l : Launch} {e : Env} {R : Room} {S : State} {m : MethodId} {args : Array Value} {below : List Frame} {meth : Method} {c : Code} {H : Heap} {locs : List Loc} {cells slots : Nat} {Q : State → Prop}
variable {cc : ByteArray} {pc : Nat} {ls : Array Slot} {rest : List Value}
theorem cl_vix {τ : Type} {g : GG} {ω : τ → va_W} {A A' : Nat → Prop} {own C : String} {nL : Nat} {ret0 ret : Option FieldType} {y : MethodName} {b : ByteArray} {n idx a0 ci na : Nat} {rm : Room} {av st0 : List Value} {t0 t1 : τ} {r : Int32} {T : u_T} {N : Nat} {fs : List Value}
    (hsub : ∀ q, A q → A' q) (X : Cx own g p S m args meth c cc nL ret0) (hD : ∀ t, va_D A (ω t)) (Y : Yw g ω A' S H locs t0) (hM : Ci l g ω A y (bw y b n ret) rm (.ref a0 :: av) t0 r t1)
    (hw : ∀ w ∈ wsV own idx C y (bw y b n ret), w ∈ bw_G) (hd : y.cls = C ∧ y.cls ≠ "java/lang/invoke/MethodHandle" ∧ y.cls ≠ "java/lang/invoke/VarHandle" ∧ (parseMethodDescriptor y.desc).map (fun d => d.parameters.length) = some na) (hna : av.length = na)
    (hcl : bw_cl[ci]? = some (C, T, N)) (hrc : (ω t0)[0]? = some (a0, .inr (ci, fs))) (hrm : rm.cells = 0 ∧ rm.slots = 0) (hR : rm.frames + 1 ≤ R.frames ∧ 8 + (n + 11) + rm.locals ≤ R.locals) (hcs : cells ≤ R.cells ∧ slots ≤ R.slots)
    (hls : ls.size = nL) (hst : st0 = av.reverse ++ .ref a0 :: rest) (hrest : (rest.map fun v => v.category).sum ≤ 8) (hdg : decode cc pc = .ok (.invokevirtual idx, 3))
    (kk : ∀ (H : Heap) (locs : List Loc), Yw g ω A' S H locs t1 → W p l e R S m args below meth c H locs cells slots Q (F0 m (pc + 3) ls (.int r :: rest))) : W p l e R S m args below meth c H locs cells slots Q (F0 m pc ls st0) := by
  obtain ⟨hx, hb, -, hml, hown, hts, hK, -⟩ := X
  obtain ⟨hP, hDt, hS⟩ := Y
  have hrecv := va_recv hK hP hcl hrc
  refine va_calli (A0 := A') (va_runV (As := av) (rest := rest) ⟨hx, hb, hml, hown, hts⟩ hM (cwV na hts (bw_good hw) rfl hrm.1 hrm.2 hd hR) ⟨PreW.blind, hrecv, fun U hU hW => ⟨rfl, by rw [hU]; exact hP, va_K.moved hW.alike hK⟩⟩ rfl hna hls hst (lv_room hrest) hdg hcs) hS (fun q _ h => hsub q h) (fun q h => hsub q h) (fun r' u t H1 locs1 ht hvm hw hB hz1 hk1 hS1 => ?_)
  subst hw
  rw [ht] at hB
  exact kk H1 locs1 ⟨hB, (hD t1).weaken (fun _ _ _ z => hsub _ z), hS1⟩
end CC
