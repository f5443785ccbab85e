/-! static methods that give nothing back -/
def Csv (l : Launch) (y : MethodName) (ws : List Cond) (rm : Room) (av : List Value) : Prop :=
  Met l y ws rm (va_Pc av (fun _ => True)) (va_Qv (fun (_ : Unit) => True) (fun _ _ => True) (fun _ => False)) 0 0 (fun _ => False)
theorem Csv.of {l : Launch} {y : MethodName} {own : String} {rm : Room} {av : List Value} {cc : ByteArray} {nL : Nat}
    (hy : plainName y.cls = true) (hc : y.cls = own) (hlen : (lg_sl av).length ≤ nL)
    (body : ∀ (p : Program) (e : Env) (S : State) (m : MethodId) (args : Array Value) (below : List Frame) (meth : Method) (c : Code) (Q : State → Prop), p.tables.exec = Jvm.exec → c.code = cc →
      (∀ (pc : Nat) (ls : Array Slot), decode cc pc = .ok (.return_, 1) → W p l e rm S m args below meth c S.heap [] 0 0 Q (F0 m pc ls [])) →
      ∀ (ls : Array Slot), lv_has ls nL (lv_args 0 av) → W p l e rm S m args below meth c S.heap [] 0 0 Q (F0 m 0 ls [])) :
    Csv l y (bw y cc nL none) rm av := by
  refine Met.ofW (cc := cc) (maxL := nL) (ret := none) hy rfl ?_
  intro p e S m args below meth c s₁ B hml hv
  obtain ⟨rfl, -⟩ := hv
  have hlocks := B.notSynchronized
  have hl := lv_entry av (n := nL) hlen
  rw [lg_entry_eq]
  refine body p e S m _ below meth c _ B.exec B.bytes (fun pc ls hd => ?_) _ hl
  exact W.vret B.exec B.bytes B.returns (fun t ht hW => ⟨⟨(), rfl, trivial, trivial⟩, (va_S.rf (A := fun _ => False)).F ht⟩) (fun q h => by cases h) hd
section CB
variable {p : Program} {l : Launch} {e : Env} {R : Room} {S : State} {m : MethodId} {args : Array Value} {below : List Frame} {meth : Method} {c : Code} {H : Heap} {locs : List Loc} {cells slots : Nat} {Q : State → Prop}
variable {cc : ByteArray} {pc : Nat} {ls : Array Slot} {rest : List Value}
theorem cl_sv {τ : Type} {g : GG} {ω : τ → va_W} {A : Nat → Prop} {own : String} {nL : Nat} {ret0 : Option FieldType} {y : MethodName} {b : ByteArray} {n idx na : Nat} {rm : Room} {av st0 : List Value} {t0 : τ}
    (X : Cx own g p S m args meth c cc nL ret0) (Y : Yw g ω A S H locs t0) (hM : Csv l y (bw y b n none) rm av)
    (hw : ∀ w ∈ va_wsS own idx y (bw y b n none), w ∈ bw_G) (hd : y.cls ≠ "java/lang/invoke/MethodHandle" ∧ y.cls ≠ "java/lang/invoke/VarHandle" ∧ (parseMethodDescriptor y.desc).map (fun d => d.parameters.length) = some na) (hna : av.length = na)
    (hrm : rm.cells = 0 ∧ rm.slots = 0) (hR : rm.frames + 1 ≤ R.frames ∧ 8 + (n + 11) + rm.locals ≤ R.locals) (hcs : cells ≤ R.cells ∧ slots ≤ R.slots)
    (hls : ls.size = nL) (hst : st0 = av.reverse ++ rest) (hrest : (rest.map fun v => v.category).sum ≤ 8) (hdg : decode cc pc = .ok (.invokestatic idx, 3))
    (kk : ∀ (H : Heap) (locs : List Loc), Yw g ω A S H locs t0 → W p l e R S m args below meth c H locs cells slots Q (F0 m (pc + 3) ls rest)) : W p l e R S m args below meth c H locs cells slots Q (F0 m pc ls st0) := by
  obtain ⟨hx, hb, -, hml, hown, hts, hK, -⟩ := X
  obtain ⟨hP, hDt, hS⟩ := Y
  refine va_callv (A0 := A) (va_runS (As := av) (rest := rest) ⟨hx, hb, hml, hown, hts⟩ hM (va_cwS na hts (bw_good hw) rfl hrm.1 hrm.2 hd hR) ⟨fun a U g mk q => ⟨q.1, trivial⟩, fun U hU hW => ⟨rfl, trivial⟩⟩ rfl hna hls hst (lv_room hrest) hdg hcs) hS (fun q _ h => False.elim h) (fun q h => False.elim h) (fun u t H1 locs1 ht hvm hw hB hz1 hk1 hS1 => ?_)
  exact kk H1 locs1 ⟨hP.kept (fun k q hq => hk1 q.1 ((hP k q hq).lt) (fun z => z)), hDt, hS1⟩
end CB
theorem h_rg_bk1 (v i : Nat) (s : HS) : gH_RG (h_bk1 v i s) = gH_RG s := by unfold h_bk1; split <;> rfl
