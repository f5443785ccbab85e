/-! numbers of the two classes: booleans, places; loops; the standing facts of a method; contracts -/
def bI (b : Bool) : Int32 := if b = true then 1 else 0
def oI (x : Option (Fin 32)) : Int32 := match x with
  | none => -1
  | some k => nI k.val
theorem bI_f : bI false = nI 0 := by decide +kernel
theorem bI_t : bI true = nI 1 := by decide +kernel
theorem bI_nar (b : Bool) : narrow .boolean (.int (bI b)) = .int (bI b) := by cases b <;> rfl
theorem bI_vn (b : Bool) : vp_nar .boolean (bI b) = bI b := by cases b <;> rfl
theorem bI_0 {b : Bool} : bI b = 0 ↔ b = false := by cases b <;> decide
theorem oI_m1 {x : Option (Fin 32)} : oI x = -1 ↔ x = none := by
  cases x with
  | none => exact ⟨fun _ => rfl, fun _ => rfl⟩
  | some k =>
    refine ⟨fun h => ?_, fun h => by cases h⟩
    exfalso
    have h1 : ¬ nI k.val < 0 := nI_pos (by have := k.isLt; omega)
    have h2 : nI k.val = -1 := h
    rw [h2] at h1
    exact h1 (by decide)
theorem oI_lt {x : Option (Fin 32)} : oI x < 0 ↔ x = none := by
  cases x with
  | none => exact ⟨fun _ => rfl, fun _ => by show (-1 : Int32) < 0; decide⟩
  | some k => exact ⟨fun h => absurd h (nI_pos (by have := k.isLt; omega)), fun h => by cases h⟩
theorem oI_eq {x : Option (Fin 32)} {k : Nat} (hk : k < 32) : oI x = nI k ↔ x = some ⟨k, hk⟩ := by
  cases x with
  | none =>
    refine ⟨fun h => ?_, fun h => by cases h⟩
    exfalso
    have h1 : ¬ nI k < 0 := nI_pos (by omega)
    have h2 : -1 = nI k := h
    rw [← h2] at h1
    exact h1 (by decide)
  | some j =>
    refine ⟨fun h => ?_, fun h => by cases h; rfl⟩
    have h2 : nI j.val = nI k := h
    have h3 := (nI_eq (by have := j.isLt; omega) (by omega)).mp h2
    exact congrArg some (Fin.ext h3)
/-- how many of the first n -/
def cntN (f : Nat → Bool) : Nat → Nat
  | 0 => 0
  | n + 1 => cntN f n + (if f n = true then 1 else 0)
/-- one of the first n -/
def anyN (f : Nat → Bool) : Nat → Bool
  | 0 => false
  | n + 1 => anyN f n || f n
/-- a loop of n turns -/
def fldN {α : Type} (f : Nat → α → α) (s : α) : Nat → α
  | 0 => s
  | n + 1 => f n (fldN f s n)
/-- the least of the first n -/
def fstN (f : Nat → Bool) : Nat → Option Nat
  | 0 => none
  | n + 1 => match fstN f n with
    | some i => some i
    | none => if f n = true then some n else none
theorem cntN_le (f : Nat → Bool) : ∀ n, cntN f n ≤ n
  | 0 => Nat.le_refl 0
  | n + 1 => by
    have := cntN_le f n
    show cntN f n + (if f n = true then 1 else 0) ≤ n + 1
    split <;> omega
theorem anyN_t {f : Nat → Bool} {i : Nat} (h : f i = true) : ∀ {n : Nat}, i < n → anyN f n = true
  | 0, hi => absurd hi (Nat.not_lt_zero i)
  | n + 1, hi => by
    show (anyN f n || f n) = true
    rcases Nat.lt_or_ge i n with q | q
    · rw [anyN_t h q]; rfl
    · have e : i = n := by omega
      rw [← e, h, Bool.or_true]
theorem anyN_f {f : Nat → Bool} : ∀ {n : Nat}, (∀ j, j < n → f j = false) → anyN f n = false
  | 0, _ => rfl
  | n + 1, h => by
    show (anyN f n || f n) = false
    rw [anyN_f (fun j hj => h j (by omega)), h n (by omega)]; rfl
theorem anyN_iff {f : Nat → Bool} {n : Nat} : anyN f n = true ↔ ∃ i, i < n ∧ f i = true := by
  refine ⟨fun h => ?_, fun ⟨i, h1, h2⟩ => anyN_t h2 h1⟩
  by_cases q : ∃ i, i < n ∧ f i = true
  · exact q
  · rw [anyN_f (fun j hj => by
      cases hf : f j with
      | false => rfl
      | true => exact absurd ⟨j, hj, hf⟩ q)] at h
    cases h
theorem fstN_none {f : Nat → Bool} : ∀ {n : Nat}, (∀ j, j < n → f j = false) → fstN f n = none
  | 0, _ => rfl
  | n + 1, h => by
    show (match fstN f n with | some i => some i | none => if f n = true then some n else none) = none
    rw [fstN_none (fun j hj => h j (by omega)), h n (by omega)]; rfl
theorem fstN_hit {f : Nat → Bool} {i : Nat} (h : f i = true) (hl : ∀ j, j < i → f j = false) : ∀ {n : Nat}, i < n → fstN f n = some i
  | 0, hi => absurd hi (Nat.not_lt_zero i)
  | n + 1, hi => by
    show (match fstN f n with | some i => some i | none => if f n = true then some n else none) = some i
    rcases Nat.lt_or_ge i n with q | q
    · rw [fstN_hit h hl q]
    · have e : i = n := by omega
      subst e
      rw [fstN_none hl, h]; rfl
abbrev GG : Type := va_G × ClassId × ClassId × ClassId
abbrev bw_cl : List vw_C := [(RH, FH, 14), (RM, FM, 12)]
abbrev bw_ty (g : GG) : List (ClassId × FieldType) := [(g.2.1, .boolean), (g.2.2.1, .int), (g.2.2.2, .long)]
/-- what stands through a method's whole body -/
def Cx (own : String) (g : GG) (p : Program) (S : State) (m : MethodId) (args : Array Value) (meth : Method) (c : Code) (cc : ByteArray) (nL : Nat) (ret : Option FieldType) : Prop :=
  p.tables.exec = Jvm.exec ∧ c.code = cc ∧ meth.sig.returnType = ret ∧ c.maxLocals = nL ∧ S.vm.findClass own = some m.cls ∧ (∀ w ∈ bw_G, w.before args S = true) ∧ va_K g.1 bw_cl (bw_ty g) S ∧ meth.locks = false
/-- the world as it is now -/
def Yw {τ : Type} (g : GG) (ω : τ → va_W) (A : Nat → Prop) (S : State) (H : Heap) (locs : List Loc) (t : τ) : Prop := va_P g.1 bw_cl (ω t) H ∧ va_D A (ω t) ∧ va_S A S.heap H locs
def PreW {τ : Type} (g : GG) (ω : τ → va_W) (t : τ) : State → Prop := fun U => va_P g.1 bw_cl (ω t) U.heap ∧ va_K g.1 bw_cl (bw_ty g) U
/-- contracts: an int (a boolean) comes back, or nothing; the world goes from t0 to t1; nothing is made -/
def Ci {τ : Type} (l : Launch) (g : GG) (ω : τ → va_W) (A : Nat → Prop) (y : MethodName) (ws : List Cond) (rm : Room) (av : List Value) (t0 : τ) (r : Int32) (t1 : τ) : Prop :=
  Met l y ws rm (va_Pc av (PreW g ω t0)) (va_Qi (fun r' (_ : Unit) => r' = r) (fun _ U => va_P g.1 bw_cl (ω t1) U.heap) A) 0 0 A
def Cv {τ : Type} (l : Launch) (g : GG) (ω : τ → va_W) (A : Nat → Prop) (y : MethodName) (ws : List Cond) (rm : Room) (av : List Value) (t0 : τ) (t1 : τ) : Prop :=
  Met l y ws rm (va_Pc av (PreW g ω t0)) (va_Qv (fun (_ : Unit) => True) (fun _ U => va_P g.1 bw_cl (ω t1) U.heap) A) 0 0 A
/-- a static method that sees no world -/
def Cs (l : Launch) (y : MethodName) (ws : List Cond) (rm : Room) (av : List Value) (r : Int32) : Prop :=
  Met l y ws rm (va_Pc av (fun _ => True)) (va_Qi (fun r' (_ : Unit) => r' = r) (fun _ _ => True) (fun _ => False)) 0 0 (fun _ => False)
theorem bw_good {L : List Cond} (h : ∀ w ∈ L, w ∈ bw_G) : GoodIn bw_G L := fun w hw => ⟨h w hw, good_of_word (List.mem_filter.mp (h w hw)).2⟩
theorem PreW.blind {τ : Type} {g : GG} {ω : τ → va_W} {t : τ} {av : List Value} : FrameBlind (va_Pc av (PreW g ω t)) := fun a U g mk q => by
  obtain ⟨q0, qP, qK⟩ := q
  exact ⟨q0, qP, va_K.moved (u := U) (U := U.calling g mk a) (Vm.Alike.refl U.vm) qK⟩
theorem bn_sl : ∀ n, n < 32 → ((nI n &&& 31).toBitVec.smod 32).toNat = n := by decide +kernel
theorem bn_dec {a : Nat} (h : 0 < a) : nI a + Int32.ofInt (-1) = nI (a - 1) := by
  obtain ⟨b, rfl⟩ : ∃ b, a = b + 1 := ⟨a - 1, by omega⟩
  exact pk_m1 b
theorem bn_shl {a k : Nat} (hk : k < 32) (ha : a * 2 ^ k < 2 ^ 31) : nI a <<< (nI k &&& 31) = nI (a * 2 ^ k) := pk_shlN _ k (bn_sl k hk) (by omega)
theorem bn_shl4 {a k : Nat} (hk : k < 4) (ha : a < 17) : nI a <<< (nI k &&& 31) = nI (a * 2 ^ k) := bn_shl (by omega) (by
  rcases (show k = 0 ∨ k = 1 ∨ k = 2 ∨ k = 3 by omega) with rfl | rfl | rfl | rfl <;> omega)
theorem bn_m1 {a : Nat} (h : a < 2 ^ 31) : ¬ nI a = -1 := fun q => by
  have h1 : ¬ nI a < 0 := nI_pos h
  rw [q] at h1
  exact h1 (by decide)
section BK
variable {p : Program} {l : Launch} {e : Env} {R : Room} {S : State} {m : MethodId} {args : Array Value} {below : List Frame} {meth : Method} {c : Code} {H : Heap} {locs : List Loc} {cells slots : Nat} {Q : State → Prop}
variable {cc : ByteArray} {pc : Nat} {ls : Array Slot} {rest : List Value}
theorem bn_top {x y : Int32} (h : x = y) (k : W p l e R S m args below meth c H locs cells slots Q (F0 m pc ls (.int y :: rest))) : W p l e R S m args below meth c H locs cells slots Q (F0 m pc ls (.int x :: rest)) := by rw [h]; exact k
theorem bn_add (hx : p.tables.exec = Jvm.exec) (hb : c.code = cc) {a b : Nat} (hdg : decode cc pc = .ok (.iadd, 1)) (k : W p l e R S m args below meth c H locs cells slots Q (F0 m (pc + 1) ls (.int (nI (a + b)) :: rest))) : W p l e R S m args below meth c H locs cells slots Q (F0 m pc ls (.int (nI b) :: .int (nI a) :: rest)) := lv_iadd hx hb hdg (by rw [nI_add]; exact k)
theorem bn_mul (hx : p.tables.exec = Jvm.exec) (hb : c.code = cc) {a b : Nat} (hdg : decode cc pc = .ok (.imul, 1)) (k : W p l e R S m args below meth c H locs cells slots Q (F0 m (pc + 1) ls (.int (nI (a * b)) :: rest))) : W p l e R S m args below meth c H locs cells slots Q (F0 m pc ls (.int (nI b) :: .int (nI a) :: rest)) := lv_imul hx hb hdg (by rw [pk_mul]; exact k)
theorem bn_sub (hx : p.tables.exec = Jvm.exec) (hb : c.code = cc) {a b : Nat} (hdg : decode cc pc = .ok (.isub, 1)) (h : b ≤ a) (k : W p l e R S m args below meth c H locs cells slots Q (F0 m (pc + 1) ls (.int (nI (a - b)) :: rest))) : W p l e R S m args below meth c H locs cells slots Q (F0 m pc ls (.int (nI b) :: .int (nI a) :: rest)) := lv_isub hx hb hdg (by rw [pk_sub h]; exact k)
theorem bn_div (hx : p.tables.exec = Jvm.exec) (hb : c.code = cc) {a b : Nat} (hdg : decode cc pc = .ok (.idiv, 1)) (ha : a < 2 ^ 31) (h0 : 0 < b) (h1 : b < 2 ^ 31) (k : W p l e R S m args below meth c H locs cells slots Q (F0 m (pc + 1) ls (.int (nI (a / b)) :: rest))) : W p l e R S m args below meth c H locs cells slots Q (F0 m pc ls (.int (nI b) :: .int (nI a) :: rest)) := lv_idiv hx hb hdg (nI_ne0 h0 h1) (by rw [pk_div ha h0 h1]; exact k)
theorem bn_rem (hx : p.tables.exec = Jvm.exec) (hb : c.code = cc) {a b : Nat} (hdg : decode cc pc = .ok (.irem, 1)) (ha : a < 2 ^ 31) (h0 : 0 < b) (h1 : b < 2 ^ 31) (k : W p l e R S m args below meth c H locs cells slots Q (F0 m (pc + 1) ls (.int (nI (a % b)) :: rest))) : W p l e R S m args below meth c H locs cells slots Q (F0 m pc ls (.int (nI b) :: .int (nI a) :: rest)) := lv_irem hx hb hdg (nI_ne0 h0 h1) (by rw [pk_rem ha h0 h1]; exact k)
theorem bn_eq (hx : p.tables.exec = Jvm.exec) (hb : c.code = cc) {a b : Nat} {off : Int} {tgt : Nat} (hdg : decode cc pc = .ok (.if_icmp .eq off, 3)) (ht : (pc : Int) + off = (tgt : Int)) (ha : a < 2 ^ 31) (h1 : b < 2 ^ 31) (kt : a = b → W p l e R S m args below meth c H locs cells slots Q (F0 m tgt ls rest)) (kf : ¬ a = b → W p l e R S m args below meth c H locs cells slots Q (F0 m (pc + 3) ls rest)) : W p l e R S m args below meth c H locs cells slots Q (F0 m pc ls (.int (nI b) :: .int (nI a) :: rest)) := lv_icmp_eq hx hb hdg ht (fun q => kt ((nI_eq ha h1).mp q)) (fun q => kf (fun z => q ((nI_eq ha h1).mpr z)))
theorem bn_ne (hx : p.tables.exec = Jvm.exec) (hb : c.code = cc) {a b : Nat} {off : Int} {tgt : Nat} (hdg : decode cc pc = .ok (.if_icmp .ne off, 3)) (ht : (pc : Int) + off = (tgt : Int)) (ha : a < 2 ^ 31) (h1 : b < 2 ^ 31) (kt : ¬ a = b → W p l e R S m args below meth c H locs cells slots Q (F0 m tgt ls rest)) (kf : a = b → W p l e R S m args below meth c H locs cells slots Q (F0 m (pc + 3) ls rest)) : W p l e R S m args below meth c H locs cells slots Q (F0 m pc ls (.int (nI b) :: .int (nI a) :: rest)) := lv_icmp_ne hx hb hdg ht (fun q => kt (fun z => q ((nI_eq ha h1).mpr z))) (fun q => kf ((nI_eq ha h1).mp q))
theorem bn_ge (hx : p.tables.exec = Jvm.exec) (hb : c.code = cc) {a b : Nat} {off : Int} {tgt : Nat} (hdg : decode cc pc = .ok (.if_icmp .ge off, 3)) (ht : (pc : Int) + off = (tgt : Int)) (ha : a < 2 ^ 31) (h1 : b < 2 ^ 31) (kt : b ≤ a → W p l e R S m args below meth c H locs cells slots Q (F0 m tgt ls rest)) (kf : a < b → W p l e R S m args below meth c H locs cells slots Q (F0 m (pc + 3) ls rest)) : W p l e R S m args below meth c H locs cells slots Q (F0 m pc ls (.int (nI b) :: .int (nI a) :: rest)) := lv_icmp_ge hx hb hdg ht (fun q => kt ((nI_leI h1 ha).mp q)) (fun q => kf (Nat.lt_of_not_le fun z => q ((nI_leI h1 ha).mpr z)))
theorem bn_le (hx : p.tables.exec = Jvm.exec) (hb : c.code = cc) {a b : Nat} {off : Int} {tgt : Nat} (hdg : decode cc pc = .ok (.if_icmp .le off, 3)) (ht : (pc : Int) + off = (tgt : Int)) (ha : a < 2 ^ 31) (h1 : b < 2 ^ 31) (kt : a ≤ b → W p l e R S m args below meth c H locs cells slots Q (F0 m tgt ls rest)) (kf : b < a → W p l e R S m args below meth c H locs cells slots Q (F0 m (pc + 3) ls rest)) : W p l e R S m args below meth c H locs cells slots Q (F0 m pc ls (.int (nI b) :: .int (nI a) :: rest)) := lv_icmp_le hx hb hdg ht (fun q => kt ((nI_leI ha h1).mp q)) (fun q => kf (Nat.lt_of_not_le fun z => q ((nI_leI ha h1).mpr z)))
theorem bn_lt (hx : p.tables.exec = Jvm.exec) (hb : c.code = cc) {a b : Nat} {off : Int} {tgt : Nat} (hdg : decode cc pc = .ok (.if_icmp .lt off, 3)) (ht : (pc : Int) + off = (tgt : Int)) (ha : a < 2 ^ 31) (h1 : b < 2 ^ 31) (kt : a < b → W p l e R S m args below meth c H locs cells slots Q (F0 m tgt ls rest)) (kf : b ≤ a → W p l e R S m args below meth c H locs cells slots Q (F0 m (pc + 3) ls rest)) : W p l e R S m args below meth c H locs cells slots Q (F0 m pc ls (.int (nI b) :: .int (nI a) :: rest)) := lv_icmp_lt hx hb hdg ht (fun q => kt ((nI_ltI ha h1).mp q)) (fun q => kf (Nat.le_of_not_lt fun z => q ((nI_ltI ha h1).mpr z)))
theorem bn_gt (hx : p.tables.exec = Jvm.exec) (hb : c.code = cc) {a b : Nat} {off : Int} {tgt : Nat} (hdg : decode cc pc = .ok (.if_icmp .gt off, 3)) (ht : (pc : Int) + off = (tgt : Int)) (ha : a < 2 ^ 31) (h1 : b < 2 ^ 31) (kt : b < a → W p l e R S m args below meth c H locs cells slots Q (F0 m tgt ls rest)) (kf : a ≤ b → W p l e R S m args below meth c H locs cells slots Q (F0 m (pc + 3) ls rest)) : W p l e R S m args below meth c H locs cells slots Q (F0 m pc ls (.int (nI b) :: .int (nI a) :: rest)) := lv_icmp_gt hx hb hdg ht (fun q => kt ((nI_ltI h1 ha).mp q)) (fun q => kf (Nat.le_of_not_lt fun z => q ((nI_ltI h1 ha).mpr z)))
theorem bb_eq (hx : p.tables.exec = Jvm.exec) (hb : c.code = cc) {b : Bool} {off : Int} {tgt : Nat} (hdg : decode cc pc = .ok (.ifCond .eq off, 3)) (ht : (pc : Int) + off = (tgt : Int)) (kt : b = false → W p l e R S m args below meth c H locs cells slots Q (F0 m tgt ls rest)) (kf : b = true → W p l e R S m args below meth c H locs cells slots Q (F0 m (pc + 3) ls rest)) : W p l e R S m args below meth c H locs cells slots Q (F0 m pc ls (.int (bI b) :: rest)) := lv_if_eq hx hb hdg ht (fun q => kt (bI_0.mp q)) (fun q => kf (by cases b with | true => rfl | false => exact absurd (bI_0.mpr rfl) q))
theorem bb_ne (hx : p.tables.exec = Jvm.exec) (hb : c.code = cc) {b : Bool} {off : Int} {tgt : Nat} (hdg : decode cc pc = .ok (.ifCond .ne off, 3)) (ht : (pc : Int) + off = (tgt : Int)) (kt : b = true → W p l e R S m args below meth c H locs cells slots Q (F0 m tgt ls rest)) (kf : b = false → W p l e R S m args below meth c H locs cells slots Q (F0 m (pc + 3) ls rest)) : W p l e R S m args below meth c H locs cells slots Q (F0 m pc ls (.int (bI b) :: rest)) := lv_if_ne hx hb hdg ht (fun q => kt (by cases b with | true => rfl | false => exact absurd (bI_0.mpr rfl) q)) (fun q => kf (bI_0.mp q))
theorem bo_eq (hx : p.tables.exec = Jvm.exec) (hb : c.code = cc) {x : Option (Fin 32)} {off : Int} {tgt : Nat} (hdg : decode cc pc = .ok (.if_icmp .eq off, 3)) (ht : (pc : Int) + off = (tgt : Int)) (kt : x = none → W p l e R S m args below meth c H locs cells slots Q (F0 m tgt ls rest)) (kf : ∀ k, x = some k → W p l e R S m args below meth c H locs cells slots Q (F0 m (pc + 3) ls rest)) : W p l e R S m args below meth c H locs cells slots Q (F0 m pc ls (.int (-1) :: .int (oI x) :: rest)) := lv_icmp_eq hx hb hdg ht (fun q => kt (oI_m1.mp q)) (fun q => by
  cases hX : x with
  | none => exact absurd (oI_m1.mpr hX) q
  | some k => exact kf k hX)
theorem bo_ne (hx : p.tables.exec = Jvm.exec) (hb : c.code = cc) {x : Option (Fin 32)} {off : Int} {tgt : Nat} (hdg : decode cc pc = .ok (.if_icmp .ne off, 3)) (ht : (pc : Int) + off = (tgt : Int)) (kt : ∀ k, x = some k → W p l e R S m args below meth c H locs cells slots Q (F0 m tgt ls rest)) (kf : x = none → W p l e R S m args below meth c H locs cells slots Q (F0 m (pc + 3) ls rest)) : W p l e R S m args below meth c H locs cells slots Q (F0 m pc ls (.int (-1) :: .int (oI x) :: rest)) := lv_icmp_ne hx hb hdg ht (fun q => by
  cases hX : x with
  | none => exact absurd (oI_m1.mpr hX) q
  | some k => exact kt k hX) (fun q => kf (oI_m1.mp q))
theorem bo_lt (hx : p.tables.exec = Jvm.exec) (hb : c.code = cc) {x : Option (Fin 32)} {off : Int} {tgt : Nat} (hdg : decode cc pc = .ok (.ifCond .lt off, 3)) (ht : (pc : Int) + off = (tgt : Int)) (kt : x = none → W p l e R S m args below meth c H locs cells slots Q (F0 m tgt ls rest)) (kf : ∀ k, x = some k → W p l e R S m args below meth c H locs cells slots Q (F0 m (pc + 3) ls rest)) : W p l e R S m args below meth c H locs cells slots Q (F0 m pc ls (.int (oI x) :: rest)) := lv_if_lt hx hb hdg ht (fun q => kt (oI_lt.mp q)) (fun q => by
  cases hX : x with
  | none => exact absurd (oI_lt.mpr hX) q
  | some k => exact kf k hX)
theorem bo_ge (hx : p.tables.exec = Jvm.exec) (hb : c.code = cc) {x : Option (Fin 32)} {off : Int} {tgt : Nat} (hdg : decode cc pc = .ok (.ifCond .ge off, 3)) (ht : (pc : Int) + off = (tgt : Int)) (kt : ∀ k, x = some k → W p l e R S m args below meth c H locs cells slots Q (F0 m tgt ls rest)) (kf : x = none → W p l e R S m args below meth c H locs cells slots Q (F0 m (pc + 3) ls rest)) : W p l e R S m args below meth c H locs cells slots Q (F0 m pc ls (.int (oI x) :: rest)) := lv_if_ge hx hb hdg ht (fun q => by
  cases hX : x with
  | none =>
    rw [hX] at q
    exact absurd q (by show ¬ (0 : Int32) ≤ -1; decide)
  | some k => exact kt k hX) (fun q => by
  cases hX : x with
  | none => exact kf hX
  | some k =>
    rw [hX] at q
    exact absurd (nI_pos' (by have := k.isLt; omega)) q)
theorem bz_eq (hx : p.tables.exec = Jvm.exec) (hb : c.code = cc) {a : Nat} {off : Int} {tgt : Nat} (hdg : decode cc pc = .ok (.ifCond .eq off, 3)) (ht : (pc : Int) + off = (tgt : Int)) (ha : a < 2 ^ 31) (kt : a = 0 → W p l e R S m args below meth c H locs cells slots Q (F0 m tgt ls rest)) (kf : ¬ a = 0 → W p l e R S m args below meth c H locs cells slots Q (F0 m (pc + 3) ls rest)) : W p l e R S m args below meth c H locs cells slots Q (F0 m pc ls (.int (nI a) :: rest)) := lv_if_eq hx hb hdg ht (fun q => kt ((nI_eq ha (by omega)).mp (q.trans nI_0.symm))) (fun q => kf (fun z => q (by rw [z]; exact nI_0)))
theorem bz_ne (hx : p.tables.exec = Jvm.exec) (hb : c.code = cc) {a : Nat} {off : Int} {tgt : Nat} (hdg : decode cc pc = .ok (.ifCond .ne off, 3)) (ht : (pc : Int) + off = (tgt : Int)) (ha : a < 2 ^ 31) (kt : ¬ a = 0 → W p l e R S m args below meth c H locs cells slots Q (F0 m tgt ls rest)) (kf : a = 0 → W p l e R S m args below meth c H locs cells slots Q (F0 m (pc + 3) ls rest)) : W p l e R S m args below meth c H locs cells slots Q (F0 m pc ls (.int (nI a) :: rest)) := lv_if_ne hx hb hdg ht (fun q => kt (fun z => q (by rw [z]; exact nI_0))) (fun q => kf ((nI_eq ha (by omega)).mp (q.trans nI_0.symm)))
theorem bz_lt (hx : p.tables.exec = Jvm.exec) (hb : c.code = cc) {a : Nat} {off : Int} {tgt : Nat} (hdg : decode cc pc = .ok (.ifCond .lt off, 3)) (ht : (pc : Int) + off = (tgt : Int)) (ha : a < 2 ^ 31) (kf : W p l e R S m args below meth c H locs cells slots Q (F0 m (pc + 3) ls rest)) : W p l e R S m args below meth c H locs cells slots Q (F0 m pc ls (.int (nI a) :: rest)) := lv_if_lt hx hb hdg ht (fun q => absurd q (nI_pos ha)) (fun _ => kf)
theorem bz_ge (hx : p.tables.exec = Jvm.exec) (hb : c.code = cc) {a : Nat} {off : Int} {tgt : Nat} (hdg : decode cc pc = .ok (.ifCond .ge off, 3)) (ht : (pc : Int) + off = (tgt : Int)) (ha : a < 2 ^ 31) (kt : W p l e R S m args below meth c H locs cells slots Q (F0 m tgt ls rest)) : W p l e R S m args below meth c H locs cells slots Q (F0 m pc ls (.int (nI a) :: rest)) := lv_if_ge hx hb hdg ht (fun _ => kt) (fun q => absurd (nI_pos' ha) q)
theorem bm_eq (hx : p.tables.exec = Jvm.exec) (hb : c.code = cc) {a : Nat} {off : Int} {tgt : Nat} (hdg : decode cc pc = .ok (.if_icmp .eq off, 3)) (ht : (pc : Int) + off = (tgt : Int)) (ha : a < 2 ^ 31) (kf : W p l e R S m args below meth c H locs cells slots Q (F0 m (pc + 3) ls rest)) : W p l e R S m args below meth c H locs cells slots Q (F0 m pc ls (.int (-1) :: .int (nI a) :: rest)) := lv_icmp_eq hx hb hdg ht (fun q => absurd q (bn_m1 ha)) (fun _ => kf)
theorem bm_ne (hx : p.tables.exec = Jvm.exec) (hb : c.code = cc) {a : Nat} {off : Int} {tgt : Nat} (hdg : decode cc pc = .ok (.if_icmp .ne off, 3)) (ht : (pc : Int) + off = (tgt : Int)) (ha : a < 2 ^ 31) (kt : W p l e R S m args below meth c H locs cells slots Q (F0 m tgt ls rest)) : W p l e R S m args below meth c H locs cells slots Q (F0 m pc ls (.int (-1) :: .int (nI a) :: rest)) := lv_icmp_ne hx hb hdg ht (fun _ => kt) (fun q => absurd q (bn_m1 ha))
theorem bq_eq (hx : p.tables.exec = Jvm.exec) (hb : c.code = cc) {x : Int32} {off : Int} {tgt : Nat} (hdg : decode cc pc = .ok (.if_icmp .eq off, 3)) (ht : (pc : Int) + off = (tgt : Int)) (kt : W p l e R S m args below meth c H locs cells slots Q (F0 m tgt ls rest)) : W p l e R S m args below meth c H locs cells slots Q (F0 m pc ls (.int x :: .int x :: rest)) := lv_icmp_eq hx hb hdg ht (fun _ => kt) (fun q => absurd rfl q)
theorem bq_ne (hx : p.tables.exec = Jvm.exec) (hb : c.code = cc) {x : Int32} {off : Int} {tgt : Nat} (hdg : decode cc pc = .ok (.if_icmp .ne off, 3)) (ht : (pc : Int) + off = (tgt : Int)) (kf : W p l e R S m args below meth c H locs cells slots Q (F0 m (pc + 3) ls rest)) : W p l e R S m args below meth c H locs cells slots Q (F0 m pc ls (.int x :: .int x :: rest)) := lv_icmp_ne hx hb hdg ht (fun q => absurd rfl q) (fun _ => kf)
theorem bl_lt (hx : p.tables.exec = Jvm.exec) (hb : c.code = cc)  {off : Int} {tgt : Nat} (hdg : decode cc pc = .ok (.ifCond .lt off, 3)) (ht : (pc : Int) + off = (tgt : Int)) (kt : W p l e R S m args below meth c H locs cells slots Q (F0 m tgt ls rest)) : W p l e R S m args below meth c H locs cells slots Q (F0 m pc ls (.int (-1) :: rest)) := lv_if_lt hx hb hdg ht (fun _ => kt) (fun q => absurd (by decide) q)
theorem bl_ge (hx : p.tables.exec = Jvm.exec) (hb : c.code = cc)  {off : Int} {tgt : Nat} (hdg : decode cc pc = .ok (.ifCond .ge off, 3)) (ht : (pc : Int) + off = (tgt : Int)) (kf : W p l e R S m args below meth c H locs cells slots Q (F0 m (pc + 3) ls rest)) : W p l e R S m args below meth c H locs cells slots Q (F0 m pc ls (.int (-1) :: rest)) := lv_if_ge hx hb hdg ht (fun q => absurd q (by decide)) (fun _ => kf)
end BK
