/-! what the law's entry gives: classes, statics, strings; how the law begins -/
theorem st_arr {args : Array Value} {s : State} {ty : FieldType} (h : (Cond.arrayClass ty).before args s = true) : ∃ cA, s.vm.findClass ("[" ++ ty.toString) = some cA ∧ ArrOfT s cA ty := by
  obtain ⟨c, k, comp, h1, h2, h3⟩ := Cond.arrayClass_spec h
  exact ⟨c, h1, fun n z => ⟨fun k h => (by cases h), k, h2, comp, h3⟩⟩
theorem iw_H : Cond.instantiable RH 14 ∈ bw_G := by decide +kernel
theorem iw_M : Cond.instantiable RM 12 ∈ bw_G := by decide +kernel
theorem st_K {args : Array Value} {s : State} (hts : ∀ w ∈ bw_G, w.before args s = true) : ∃ g : GG, va_K g.1 bw_cl (bw_ty g) s := by
  obtain ⟨cH, iH, kH⟩ := u_known (C := RH) (T := FH) (N := 14) hts inH (hts _ iw_H)
  obtain ⟨cM, iM, kM⟩ := u_known (C := RM) (T := FM) (N := 12) hts inM (hts _ iw_M)
  obtain ⟨cZ, z1, z2⟩ := st_arr (hts _ aw_Z)
  obtain ⟨cI, i1, i2⟩ := st_arr (hts _ aw_I)
  obtain ⟨cJ, j1, j2⟩ := st_arr (hts _ aw_J)
  refine ⟨((fun c => if c = 0 then cH else cM, fun c => if c = 0 then iH else iM), cZ, cI, cJ), fun c q hq => ?_, fun k q hk => ?_⟩
  · have hc : c < 2 := (List.getElem?_eq_some_iff.mp hq).1
    rcases (show c = 0 ∨ c = 1 by omega) with rfl | rfl
    · cases hq; exact kH
    · cases hq; exact kM
  · have hc : k < 3 := (List.getElem?_eq_some_iff.mp hk).1
    rcases (show k = 0 ∨ k = 1 ∨ k = 2 by omega) with rfl | rfl | rfl
    · cases hk; exact ⟨z2, z1⟩
    · cases hk; exact ⟨i2, i1⟩
    · cases hk; exact ⟨j2, j1⟩
theorem st_S {args : Array Value} {s : State} {own tx : String} {k : Nat} (h1 : (Cond.stringRef own k tx).before args s = true) (h2 : (Cond.exactly (.string own k) "java/lang/String").before args s = true) : ∃ sa, vk_R own k tx sa s := by
  obtain ⟨a, c, cA, kA, q1, -⟩ := Cond.exactly_spec (args := args) (first := s) (o := none) (s := s) (idx := []) (t := .string own k) (cls := "java/lang/String") h2
  exact ⟨a, vk_R.of (A := args) h1 q1⟩
set_option maxRecDepth 100000 in
theorem st_Z {args : Array Value} {s : State} (hts : ∀ w ∈ lw_tbl, w.before args s = true) (hgv : (Jvm.Cond.and given_1 narrow_1).before args s = true) : Zt (fun q => s.heap.size ≤ q) s s.heap ∧ va_Nc exS exI s ∧ va_Nc exA exI s := by
  have hs := flat_of_before _ hgv
  have hA : ∀ a : Nat, a < s.heap.size → ¬ s.heap.size ≤ a := fun a h => Nat.not_le.mpr h
  refine ⟨⟨vx_Zqof (args := args) (hts _ (by decide +kernel)) (hts _ (by decide +kernel)) (hs _ (by decide +kernel)) hA, vx_Zqof (args := args) (hts _ (by decide +kernel)) (hts _ (by decide +kernel)) (hs _ (by decide +kernel)) hA, st_S (args := args) (hts _ (by decide +kernel)) (hs _ (by decide +kernel)), st_S (args := args) (hts _ (by decide +kernel)) (hs _ (by decide +kernel)), st_S (args := args) (hts _ (by decide +kernel)) (hs _ (by decide +kernel)), st_S (args := args) (hts _ (by decide +kernel)) (hs _ (by decide +kernel)), st_S (args := args) (hts _ (by decide +kernel)) (hs _ (by decide +kernel)),
    va_Nw.of rfl (A := args) (hts _ (by decide +kernel)), va_Nw.of rfl (A := args) (hts _ (by decide +kernel)), va_Nw.of rfl (A := args) (hts _ (by decide +kernel)), va_Nw.of rfl (A := args) (hts _ (by decide +kernel)), va_Nw.of rfl (A := args) (hts _ (by decide +kernel)), va_Nw.of rfl (A := args) (hts _ (by decide +kernel))⟩, va_Nc.of (args := args) (hs _ (by decide +kernel)), va_Nc.of (args := args) (hs _ (by decide +kernel))⟩
theorem vS_step {H0 H H1 : Heap} {locs : List Loc} (h : va_S (fun q => H0.size ≤ q) H0 H locs) (h2 : va_S (fun q => H.size ≤ q) H H1 []) : va_S (fun q => H0.size ≤ q) H0 H1 [] :=
  ⟨Nat.le_trans h.1 h2.1, fun q h1 hq => (h2.2.1 q (Nat.lt_of_lt_of_le h1 h.1) (fun z => hq (Nat.le_trans h.1 z))).trans (h.2.1 q h1 hq), fun _ h => by cases h⟩
theorem vS_nil {A : Nat → Prop} {H0 H : Heap} {locs : List Loc} (h : va_S A H0 H locs) : va_S A H0 H [] := ⟨h.1, h.2.1, fun _ h => by cases h⟩
theorem vP_nil {D : va_G} {cl : List vw_C} {H : Heap} : va_P D cl [] H := fun k q h => by cases h
theorem vD_nil {A : Nat → Prop} : va_D A [] := ⟨fun i j p r hi _ _ => (by cases hi), fun k r hk => (by cases hk)⟩
theorem iBl {av : List Value} {g : GG} {ws : va_W} {sz : Nat} : FrameBlind (va_Pc av (fun U => U.heap.size = sz ∧ va_P g.1 bw_cl ws U.heap ∧ va_K g.1 bw_cl (bw_ty g) U)) := fun a U g mk q => by
  obtain ⟨q0, q1, qP, qK⟩ := q
  exact ⟨q0, q1, qP, va_K.moved (u := U) (U := U.calling g mk a) (Vm.Alike.refl U.vm) qK⟩
theorem gd_H : GoodIn bw_G kH_init := bw_good (fun w h => (List.mem_cons.mp h).elim (fun e => by rw [e]; decide +kernel) id)
theorem gd_M : GoodIn bw_G kM_init := bw_good (fun w h => (List.mem_cons.mp h).elim (fun e => by rw [e]; decide +kernel) id)
theorem gw1 : Cond.classLink RL 8 RH ∈ bw_G := by decide +kernel
theorem gw2 : Cond.classLink RL 41 RM ∈ bw_G := by decide +kernel
theorem gw3 : Cond.initialized RH ∈ bw_G := by decide +kernel
theorem gw4 : Cond.initialized RM ∈ bw_G := by decide +kernel
theorem gw5 : Cond.methodLink RL 40 yH_init ∈ bw_G := by decide +kernel
theorem gw6 : Cond.methodLink RL 43 yM_init ∈ bw_G := by decide +kernel
theorem gw7 : Cond.instanceMethod yH_init ∈ bw_G := by decide +kernel
theorem gw8 : Cond.instanceMethod yM_init ∈ bw_G := by decide +kernel
theorem dfH : ∀ j, j < 14 → defaultValue (tH j) = vp_V iH_F j := by decide +kernel
theorem dfM : ∀ j, j < 12 → defaultValue (tM j) = vp_V iM_F j := by decide +kernel
