/-! Arrays.fill, new arrays, and what a constructor leaves -/
theorem dJ_fill_0 : decode cJ_fill 0 = .ok (.iconst 0, 1) := by decide +kernel
theorem dJ_fill_1 : decode cJ_fill 1 = .ok (.istore_n 2, 1) := by decide +kernel
theorem dJ_fill_2 : decode cJ_fill 2 = .ok (.aload_n 0, 1) := by decide +kernel
theorem dJ_fill_3 : decode cJ_fill 3 = .ok (.arraylength, 1) := by decide +kernel
theorem dJ_fill_4 : decode cJ_fill 4 = .ok (.istore_n 3, 1) := by decide +kernel
theorem dJ_fill_5 : decode cJ_fill 5 = .ok (.iload_n 2, 1) := by decide +kernel
theorem dJ_fill_6 : decode cJ_fill 6 = .ok (.iload_n 3, 1) := by decide +kernel
theorem dJ_fill_7 : decode cJ_fill 7 = .ok (.if_icmp .ge 13, 3) := by decide +kernel
theorem dJ_fill_10 : decode cJ_fill 10 = .ok (.aload_n 0, 1) := by decide +kernel
theorem dJ_fill_11 : decode cJ_fill 11 = .ok (.iload_n 2, 1) := by decide +kernel
theorem dJ_fill_12 : decode cJ_fill 12 = .ok (.iload_n 1, 1) := by decide +kernel
theorem dJ_fill_13 : decode cJ_fill 13 = .ok (.iastore, 1) := by decide +kernel
theorem dJ_fill_14 : decode cJ_fill 14 = .ok (.iinc 2 1, 3) := by decide +kernel
theorem dJ_fill_17 : decode cJ_fill 17 = .ok (.goto (-12), 3) := by decide +kernel
theorem dJ_fill_20 : decode cJ_fill 20 = .ok (.return_, 1) := by decide +kernel
theorem cell_eq {cA : ClassId} {n : Nat} {f g : Nat → Int32} (h : ∀ j, j < n → f j = g j) : vp_cell cA (n, .inl f) = vp_cell cA (n, .inl g) := by
  rw [vp_cell_i, vp_cell_i]
  unfold arrV
  congr 2
  funext j
  show Value.int (f j.val) = Value.int (g j.val)
  rw [h j.val j.isLt]
/-- one int array -/
def wA (g : GG) (q n : Nat) (f : Nat → Int32) : va_W := [(q, .inl (g.2.2.1, n, .inl f))]
theorem wA_D {g : GG} {q n : Nat} : ∀ f, va_D (fun x => x = q) (wA g q n f) := fun f =>
  ⟨fun i j p r hi hj _ => by
    have h1 : i < 1 := (List.getElem?_eq_some_iff.mp hi).1
    have h2 : j < 1 := (List.getElem?_eq_some_iff.mp hj).1
    omega, fun k r hk => by
    have h1 : k < 1 := (List.getElem?_eq_some_iff.mp hk).1
    have e : k = 0 := by omega
    rw [e] at hk
    cases hk
    rfl⟩
set_option maxHeartbeats 1000000 in
set_option maxRecDepth 100000 in
theorem tJ_fill (l : Launch) (g : GG) (q n : Nat) (hn : n < 2 ^ 31) (f : Nat → Int32) (v : Int32) : Cv l g (wA g q n) (fun x => x = q) yJ_fill kJ_fill ({ frames := 0, cells := 0, slots := 0, locals := 0 }) [.ref q, .int v] f (fun _ => v) := by
  refine Cv.of (own := "java/util/Arrays") (cc := cJ_fill) (nL := 4) wA_D (by decide) rfl (Nat.le_of_ble_eq_true rfl) ?_
  intro p e S m args below meth c Q X ret H locs ls Y hl
  have hx := X.1
  have hb := X.2.1
  have hK := X.2.2.2.2.2.2.1
  have hl : lv_has ls 4 [(0, .ref q), (1, .int v)] := hl
  refine lv_iconst (v := nI 0) hx hb dJ_fill_0 (by decide) ?_
  refine lv_istore_n (lv' := [(2, .int (nI 0)), (0, .ref q), (1, .int v)]) hx hb dJ_fill_1 rfl hl (by decide) rfl (fun ls hl => ?_)
  refine lv_aload_n hx hb dJ_fill_2 rfl (lv_at hl 1 rfl) ?_
  refine va_alen (D := g.1) (cl := bw_cl) hx hb hK Y.1 0 1 (x := (n, .inl f)) (cA := g.2.2.1) (ty := .int) rfl rfl (v := nI n) rfl dJ_fill_3 ?_
  refine lv_istore_n (lv' := [(3, .int (nI n)), (2, .int (nI 0)), (0, .ref q), (1, .int v)]) hx hb dJ_fill_4 rfl hl (by decide) rfl (fun ls hl => ?_)
  have loop : ∀ (k i : Nat) (f : Nat → Int32), i ≤ n → n < i + k → (∀ j, j < i → f j = v) → ∀ (H : Heap) (locs : List Loc) (ls : Array Slot), Yw g (wA g q n) (fun x => x = q) S H locs f → lv_has ls 4 [(0, .ref q), (1, .int v), (2, .int (nI i)), (3, .int (nI n))] → W p l e ({ frames := 0, cells := 0, slots := 0, locals := 0 }) S m args below meth c H locs 0 0 Q (F0 m 5 ls []) := by
    intro k
    induction k with
    | zero =>
      intro i f b1 b2
      exact absurd b2 (by omega)
    | succ k ih =>
      intro i f hi hk hf H locs ls Y hl
      refine lv_iload_n hx hb dJ_fill_5 rfl (lv_at hl 2 rfl) ?_
      refine lv_iload_n hx hb dJ_fill_6 rfl (lv_at hl 3 rfl) ?_
      refine bn_ge (tgt := 20) hx hb dJ_fill_7 (by decide) (by omega) (by omega) (fun h7 => ?_) (fun h7 => ?_)
      · refine ret _ _ _ _ ⟨?_, wA_D _, Y.2.2⟩ dJ_fill_20
        intro k2 r hr
        have h1 : k2 < 1 := (List.getElem?_eq_some_iff.mp hr).1
        have e1 : k2 = 0 := by omega
        rw [e1] at hr
        cases hr
        have h2 := Y.1 0 _ rfl
        have h2 : H[q]? = some (vp_cell g.2.2.1 (n, .inl f)) := h2
        show H[q]? = some (vp_cell g.2.2.1 (n, .inl (fun _ => v)))
        rw [h2, cell_eq (fun j hj => hf j (by omega))]
      · refine lv_aload_n hx hb dJ_fill_10 rfl (lv_at hl 0 rfl) ?_
        refine lv_iload_n hx hb dJ_fill_11 rfl (lv_at hl 2 rfl) ?_
        refine lv_iload_n hx hb dJ_fill_12 rfl (lv_at hl 1 rfl) ?_
        refine va_iast (D := g.1) (cl := bw_cl) hx hb hK Y.1 Y.2.1 Y.2.2 0 1 (cA := g.2.2.1) (n := n) (f := f) rfl rfl (vp_in_nI h7 hn) dJ_fill_13 (fun H1 locs1 hP hD hS => ?_)
        rw [nI_clamp (by omega)] at hP hD
        refine lv_iinc (v := nI (i + 1)) (lv' := [(2, .int (nI (i + 1))), (0, .ref q), (1, .int v), (3, .int (nI n))]) hx hb dJ_fill_14 hl (k := 2) rfl (nI_1 _) (by decide) rfl (fun ls hl => ?_)
        refine lv_goto (tgt := 5) hx hb dJ_fill_17 (by decide) ?_
        refine ih (i + 1) (upd f i v) (by omega) (by omega) (fun j hj => ?_) _ _ _ ⟨hP, hD, hS⟩ (lv_sub hl [1, 2, 0, 3] rfl)
        unfold upd
        by_cases z : j = i
        · rw [if_pos z]
        · rw [if_neg z]; exact hf j (by omega)
  exact loop (n + 1) 0 f (by omega) (by omega) (fun j hj => absurd hj (by omega)) _ _ _ Y (lv_sub hl [2, 3, 1, 0] rfl)
def iA (h0 sz : Nat) : Nat → Prop := fun q => q = h0 ∨ sz ≤ q
theorem iD (h0 sz : Nat) (e : va_E) : va_D (iA h0 sz) [(h0, e)] :=
  ⟨fun i j p r hi hj _ => by
    have h1 : i < 1 := (List.getElem?_eq_some_iff.mp hi).1
    have h2 : j < 1 := (List.getElem?_eq_some_iff.mp hj).1
    omega, fun k r hk => by
    have h1 : k < 1 := (List.getElem?_eq_some_iff.mp hk).1
    have e : k = 0 := by omega
    rw [e] at hk
    cases hk
    exact Or.inl rfl⟩
theorem aw_Z : Cond.arrayClass .boolean ∈ bw_G := by decide +kernel
theorem aw_I : Cond.arrayClass .int ∈ bw_G := by decide +kernel
theorem aw_J : Cond.arrayClass .long ∈ bw_G := by decide +kernel
section NA
variable {p : Program} {l : Launch} {e : Env} {R : Room} {S : State} {m : MethodId} {args : Array Value} {below : List Frame} {meth : Method} {c : Code} {H : Heap} {locs : List Loc} {cells slots : Nat} {Q : State → Prop}
variable {cc : ByteArray} {pc : Nat} {ls : Array Slot} {rest : List Value} {g : GG} {A : Nat → Prop} {ws : va_W} {nL : Nat} {ret : Option FieldType} {own : String}
theorem bk_nz (X : Cx own g p S m args meth c cc nL ret) (hP : va_P g.1 bw_cl ws H) (hD : va_D A ws) (hS : va_S A S.heap H locs) (hA : ∀ q, S.heap.size ≤ q → A q) (n : Nat) (hn : n < 1000) (hc : cells + 1 ≤ R.cells) (hs : slots + n ≤ R.slots) (hdg : decode cc pc = .ok (.newarray .boolean, 2))
    (kk : ∀ (q : Nat) (H1 : Heap), va_P g.1 bw_cl (ws ++ [(q, .inl (g.2.1, n, .inl (fun _ => 0)))]) H1 → va_D A (ws ++ [(q, .inl (g.2.1, n, .inl (fun _ => 0)))]) → va_S A S.heap H1 locs → W p l e R S m args below meth c H1 locs (cells + 1) (slots + n) Q (F0 m (pc + 2) ls (.ref q :: rest))) : W p l e R S m args below meth c H locs cells slots Q (F0 m pc ls (.int (nI n) :: rest)) := by
  have hK := X.2.2.2.2.2.2.1
  refine va_newa (D := g.1) (cl := bw_cl) X.1 X.2.1 (atype := .boolean) (X.2.2.2.2.2.1 _ aw_Z) rfl hK hP hD hS hA (N' := n) (a0 := (n, .inl (fun _ => 0))) (fun cA => rfl) (nI_pos (by omega)) (nI_clamp (by omega)) (by show n * 1 ≤ 536870912; omega) hc hs hdg (fun q cA H1 hK1 hP1 hD1 hS1 => ?_)
  have e1 := (hK1.2 3 _ rfl).2
  have e2 := (hK.2 0 _ rfl).2
  have e3 : cA = g.2.1 := Option.some.inj (e1.symm.trans e2)
  subst e3
  exact kk q H1 hP1 hD1 hS1
theorem bk_ni (X : Cx own g p S m args meth c cc nL ret) (hP : va_P g.1 bw_cl ws H) (hD : va_D A ws) (hS : va_S A S.heap H locs) (hA : ∀ q, S.heap.size ≤ q → A q) (n : Nat) (hn : n < 1000) (hc : cells + 1 ≤ R.cells) (hs : slots + n ≤ R.slots) (hdg : decode cc pc = .ok (.newarray .int, 2))
    (kk : ∀ (q : Nat) (H1 : Heap), va_P g.1 bw_cl (ws ++ [(q, .inl (g.2.2.1, n, .inl (fun _ => 0)))]) H1 → va_D A (ws ++ [(q, .inl (g.2.2.1, n, .inl (fun _ => 0)))]) → va_S A S.heap H1 locs → W p l e R S m args below meth c H1 locs (cells + 1) (slots + n) Q (F0 m (pc + 2) ls (.ref q :: rest))) : W p l e R S m args below meth c H locs cells slots Q (F0 m pc ls (.int (nI n) :: rest)) := by
  have hK := X.2.2.2.2.2.2.1
  refine va_newa (D := g.1) (cl := bw_cl) X.1 X.2.1 (atype := .int) (X.2.2.2.2.2.1 _ aw_I) rfl hK hP hD hS hA (N' := n) (a0 := (n, .inl (fun _ => 0))) (fun cA => rfl) (nI_pos (by omega)) (nI_clamp (by omega)) (by show n * 4 ≤ 536870912; omega) hc hs hdg (fun q cA H1 hK1 hP1 hD1 hS1 => ?_)
  have e1 := (hK1.2 3 _ rfl).2
  have e2 := (hK.2 1 _ rfl).2
  have e3 : cA = g.2.2.1 := Option.some.inj (e1.symm.trans e2)
  subst e3
  exact kk q H1 hP1 hD1 hS1
end NA
