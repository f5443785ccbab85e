/-! the law from its first row to its loop -/
set_option maxHeartbeats 2000000 in
theorem law_start {p : Program} {l : Launch} {e : Env} {S : State} {m : MethodId} {args : Array Value} {below : List Frame} {meth : Method} {c : Code} {Q : State → Prop} {g : GG} {sb L : Nat} {xs : Nat → Int32} {ls : Array Slot}
    (hl0 : l.stackTraces = false) (X : Cx RL g p S m args meth c cL_law 7 (some .boolean)) (hZ : Zt (fun q => S.heap.size ≤ q) S S.heap) (n1 : va_Nc exS exI S) (n2 : va_Nc exA exI S) (hX : va_X sb L xs S S.heap) (hsb : sb < S.heap.size) (hL : L ≤ 2048)
    (ret : ∀ (H : Heap) (locs : List Loc) (ls : Array Slot) (cells slots : Nat), va_S (fun q => S.heap.size ≤ q) S.heap H locs → cells ≤ room_1.cells → slots ≤ room_1.slots → W p l e room_1 S m args below meth c H locs cells slots Q (F0 m 730 ls [.int 1]))
    (hl : lv_has ls 7 [(0, .ref sb)]) : W p l e room_1 S m args below meth c S.heap [] 0 0 Q (F0 m 0 ls []) := by
  have loop := fun (a : Nat → Nat) (ao : Nat) (bm : Nat → Nat) (hap : apL a ao bm S.heap.size) => law_loop (a := a) (ao := ao) (bm := bm) hl0 hap X hZ n1 n2 hX hsb hL ret
  obtain ⟨hx, hb, -, hml, hown, hts, hK, -⟩ := X
  have F : CallFix p m c cL_law 7 S args bw_G RL := ⟨hx, hb, hml, hown, hts⟩
  refine va_new (D := g.1) (cl := bw_cl) (A := fun q => S.heap.size ≤ q) (H0 := S.heap) hx hb hts inH tH tH_ok hown (hts _ gw1) (hts _ iw_H) (hts _ gw3) hK vP_nil vD_nil va_S.rf (fun q h => h) (ci := 0) rfl (fs := iH_F) dfH (Nat.le_of_ble_eq_true rfl) (Nat.le_of_ble_eq_true rfl) dL_law_0 (fun h0 H1 hP1 hD1 hS1 => ?_)
  have hP1 : va_P g.1 bw_cl [(h0, .inr (0, iH_F))] H1 := hP1
  have b0 : S.heap.size ≤ h0 := hD1.2 0 _ rfl
  have l0 : h0 < H1.size := (hP1 0 _ rfl).lt
  refine lv_dup hx hb dL_law_3 rfl ?_
  refine va_callv (A0 := fun q => S.heap.size ≤ q) (va_runI (As := []) (b := h0) (rest := [.ref h0]) F (tH_init l g h0 H1.size) (cwI 0 hts gd_H rfl rfl rfl (hts _ gw3) (hts _ gw5) (hts _ gw7) rfl (by decide +kernel) ⟨Nat.le_of_ble_eq_true rfl, Nat.le_of_ble_eq_true rfl⟩) ⟨iBl, fun U hU hW => ⟨rfl, by rw [hU], by rw [hU]; exact hP1, va_K.moved hW.alike hK⟩⟩ rfl rfl hl.1 rfl (lv_room (Nat.le_of_ble_eq_true rfl)) dL_law_4 ⟨Nat.le_of_ble_eq_true rfl, Nat.le_of_ble_eq_true rfl⟩) hS1 (fun q _ h => h.elim (fun e => by rw [e]; exact b0) (fun e => Nat.le_trans hS1.1 e)) (fun q h => h.elim (fun e => by rw [e]; exact b0) (fun e => Nat.le_trans hS1.1 e)) (fun a t H2 locs2 ht hvm hpost hB hz2 hk2 hS2 => ?_)
  obtain ⟨ea, ha, hnew⟩ := hpost
  subst ea
  rw [ht] at hB
  refine va_forget (fun q hq => hS2.2.2 q hq) ?_
  have hS2 := vS_nil hS2
  have aS : ∀ i, i < 11 → S.heap.size ≤ a i := fun i hi => by
    rcases Nat.eq_zero_or_pos i with e | e
    · rw [e]; exact b0
    · exact Nat.le_trans hS1.1 (hnew i e hi)
  have aL : ∀ i, i < 11 → a i < H2.size := fun i hi => by
    obtain ⟨e1, g1⟩ := wldH_get (g := g) (a := a) (s := h_init) hi
    exact (hB i _ g1).lt
  refine lv_astore_n (lv' := [(1, .ref (a 0)), (0, .ref sb)]) hx hb dL_law_7 rfl hl (by decide) rfl (fun ls hl => ?_)
  refine va_new (D := g.1) (cl := bw_cl) (A := fun q => H2.size ≤ q) (H0 := H2) hx hb hts inM tM tM_ok hown (hts _ gw2) (hts _ iw_M) (hts _ gw4) hK vP_nil vD_nil va_S.rf (fun q h => h) (ci := 1) rfl (fs := iM_F) dfM (Nat.le_of_ble_eq_true rfl) (Nat.le_of_ble_eq_true rfl) dL_law_8 (fun q0 H3 hP3 hD3 hS3 => ?_)
  have hP3 : va_P g.1 bw_cl [(q0, .inr (1, iM_F))] H3 := hP3
  have b3 : H2.size ≤ q0 := hD3.2 0 _ rfl
  have l3 : q0 < H3.size := (hP3 0 _ rfl).lt
  have hSS3 := vS_step hS2 hS3
  have hA3 : va_P g.1 bw_cl (wldH g a h_init) H3 := hB.kept (fun k q hk => by
    obtain ⟨h1, h2⟩ := wldH_at hk
    rw [h2]
    exact hS3.2.1 _ (aL k h1) (Nat.not_le.mpr (aL k h1)))
  refine lv_dup hx hb dL_law_11 rfl ?_
  refine va_callv (A0 := fun q => S.heap.size ≤ q) (va_runI (As := []) (b := q0) (rest := [.ref q0]) F (tM_init l g q0 H3.size) (cwI 0 hts gd_M rfl rfl rfl (hts _ gw4) (hts _ gw6) (hts _ gw8) rfl (by decide +kernel) ⟨Nat.le_of_ble_eq_true rfl, Nat.le_of_ble_eq_true rfl⟩) ⟨iBl, fun U hU hW => ⟨rfl, by rw [hU], by rw [hU]; exact hP3, va_K.moved hW.alike hK⟩⟩ rfl rfl hl.1 rfl (lv_room (Nat.le_of_ble_eq_true rfl)) dL_law_12 ⟨Nat.le_of_ble_eq_true rfl, Nat.le_of_ble_eq_true rfl⟩) hSS3 (fun q _ h => h.elim (fun e => by rw [e]; exact Nat.le_trans hS2.1 b3) (fun e => Nat.le_trans hSS3.1 e)) (fun q h => h.elim (fun e => by rw [e]; exact Nat.le_trans hS2.1 b3) (fun e => Nat.le_trans hSS3.1 e)) (fun bm t4 H4 locs4 ht4 hvm4 hpost4 hB4 hz4 hk4 hS4 => ?_)
  obtain ⟨eb, hbm, hnew4⟩ := hpost4
  subst eb
  rw [ht4] at hB4
  refine va_forget (fun q hq => hS4.2.2 q hq) ?_
  have hS4 := vS_nil hS4
  have hB4 := wldM_ini hB4
  have bL : ∀ j, j < 9 → H2.size ≤ bm j := fun j hj => by
    rcases Nat.eq_zero_or_pos j with e | e
    · rw [e]; exact b3
    · exact Nat.le_trans hS3.1 (hnew4 j e hj)
  have bU : ∀ j, j < 9 → bm j < H4.size := fun j hj => by
    obtain ⟨e1, g1⟩ := wldM_get (g := g) (a := bm) (s := m_ini2) hj
    exact (hB4 j _ g1).lt
  have hA4 : va_P g.1 bw_cl (wldH g a h_init) H4 := hA3.kept (fun k q hk => by
    obtain ⟨h1, h2⟩ := wldH_at hk
    have h3 := aL k h1
    have h4 := hS3.1
    rw [h2]
    exact hk4 _ (by omega) (fun z => z.elim (fun e => by omega) (fun e => by omega)))
  refine lv_astore_n (lv' := [(2, .ref (bm 0)), (1, .ref (a 0)), (0, .ref sb)]) hx hb dL_law_15 rfl hl (by decide) rfl (fun ls hl => ?_)
  refine lv_iconst (v := nI 1) hx hb dL_law_16 (by decide) ?_
  refine va_newa (D := g.1) (cl := bw_cl) (A := fun q => H4.size ≤ q) (H0 := H4) hx hb (atype := .long) (hts _ aw_J) rfl hK vP_nil vD_nil va_S.rf (fun q h => h) (N' := 1) (a0 := (1, .inr (.inl (fun _ => 0)))) (fun cA => rfl) (nI_pos (by omega)) (nI_clamp (by omega)) (by decide) (Nat.le_of_ble_eq_true rfl) (Nat.le_of_ble_eq_true rfl) dL_law_17 (fun ao cA H5 hK5 hP5 hD5 hS5 => ?_)
  have e1 := (hK5.2 3 _ rfl).2
  have e2 := (hK.2 2 _ rfl).2
  have e3 : cA = g.2.2.2 := Option.some.inj (e1.symm.trans e2)
  subst e3
  have hP5 : va_P g.1 bw_cl [(ao, .inl (g.2.2.2, 1, .inr (.inl (fun _ => 0))))] H5 := hP5
  have b5 : H4.size ≤ ao := hD5.2 0 _ rfl
  have hSS5 := vS_step hS4 hS5
  have aH : ∀ i, i < 11 → a i < H4.size := fun i hi => by
    have h1 := aL i hi
    have h2 := hS3.1
    have h3 : H3.size ≤ H4.size := hz4
    omega
  have hA5 : va_P g.1 bw_cl (wHO g a ao (h_init, fun _ => 0)) H5 := (hA4.kept (fun k q hk => by
    obtain ⟨h1, h2⟩ := wldH_at hk
    rw [h2]
    exact hS5.2.1 _ (aH k h1) (Nat.not_le.mpr (aH k h1)))).app hP5
  have hM5 : va_P g.1 bw_cl (wldM g bm m_ini2) H5 := hB4.kept (fun k q hk => by
    obtain ⟨h1, h2⟩ := wldM_at hk
    rw [h2]
    exact hS5.2.1 _ (bU k h1) (Nat.not_le.mpr (bU k h1)))
  have hap : apL a ao bm S.heap.size := by
    have hs2 := hS2.1
    have hs4 := hS4.1
    refine ⟨⟨ha, fun k hk e => ?_⟩, hbm, fun i j hi hj e => ?_, fun j hj e => ?_, aS, by omega, fun j hj => ?_⟩
    · have := aH k hk; omega
    · have h1 := aL i hi; have h2 := bL j hj; omega
    · have := bU j hj; omega
    · have := bL j hj; omega
  refine lv_astore_n (lv' := [(3, .ref ao), (2, .ref (bm 0)), (1, .ref (a 0)), (0, .ref sb)]) hx hb dL_law_19 rfl hl (by decide) rfl (fun ls hl => ?_)
  refine lv_iconst (v := nI 0) hx hb dL_law_20 (by decide) ?_
  refine lv_istore (lv' := [(4, .int (nI 0)), (3, .ref ao), (2, .ref (bm 0)), (1, .ref (a 0)), (0, .ref sb)]) hx hb dL_law_21 hl (by decide) rfl (fun ls hl => ?_)
  exact loop a ao bm hap 513 0 H5 [] ls h_init (fun _ => 0) m_ini2 _ _ rfl (Nat.zero_le _) rfl rfl OKs.init ⟨hA5, hM5, hSS5⟩ (lv_sub hl [0, 4, 3, 2, 1] rfl)
