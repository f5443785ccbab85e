/-! the law's loop -/
theorem nI_low : ∀ L : Fin 4, nI L.val - nI 4 < nI 0 := by decide
set_option maxHeartbeats 1000000 in
theorem law_loop {p : Program} {l : Launch} {e : Env} {S : State} {m : MethodId} {args : Array Value} {below : List Frame} {meth : Method} {c : Code} {Q : State → Prop} {g : GG} {a : Nat → Nat} {ao : Nat} {bm : Nat → Nat} {sb L : Nat} {xs : Nat → Int32}
    (hl0 : l.stackTraces = false) (hap : apL a ao bm S.heap.size) (X : Cx RL g p S m args meth c cL_law 7 (some .boolean)) (hZ : Zt (fun q => S.heap.size ≤ q) S S.heap) (n1 : va_Nc exS exI S) (n2 : va_Nc exA exI S) (hX : va_X sb L xs S S.heap) (hsb : sb < S.heap.size) (hL : L ≤ 2048)
    (ret : ∀ (H : Heap) (locs : List Loc) (ls : Array Slot) (cells slots : Nat), va_S (fun q => S.heap.size ≤ q) S.heap H locs → cells ≤ room_1.cells → slots ≤ room_1.slots → W p l e room_1 S m args below meth c H locs cells slots Q (F0 m 730 ls [.int 1])) :
    ∀ (n k : Nat) (H : Heap) (locs : List Loc) (ls : Array Slot) (h : HS) (z : Nat → Int64) (w : MS) (cells slots : Nat), k + n = 513 → 4 * k ≤ L → cells = 21 + k → slots = 491 + 6 * k → OKs h w → YL g a ao bm S H locs h z w → lv_has ls 7 [(4, .int (nI (4 * k))), (0, .ref sb), (1, .ref (a 0)), (2, .ref (bm 0)), (3, .ref ao)] → W p l e room_1 S m args below meth c H locs cells slots Q (F0 m 23 ls []) := by
  have hrc : room_1.cells = 1050 := rfl
  have hrs : room_1.slots = 8713 := rfl
  have hx := X.1
  have hb := X.2.1
  intro n
  induction n with
  | zero => intro k H locs ls h z w cells slots hk hkL; omega
  | succ n ih =>
    intro k H locs ls h z w cells slots hk hkL hc hs o Y hl
    have hf : cells + 1 ≤ room_1.cells ∧ slots + 6 ≤ room_1.slots := by rw [hrc, hrs]; omega
    have fin : ∀ (H : Heap) (locs : List Loc) (ls : Array Slot) (h : HS) (z : Nat → Int64) (w : MS), 4 * k + 4 ≤ L → OKs h w → YL g a ao bm S H locs h z w → lv_has ls 7 [(4, .int (nI (4 * k))), (0, .ref sb), (1, .ref (a 0)), (2, .ref (bm 0)), (3, .ref ao)] → W p l e room_1 S m args below meth c H locs (cells + 1) (slots + 6) Q (F0 m 723 ls []) := by
      intro H locs ls h z w h4 o Y hl
      refine lv_iinc (v := nI (4 * (k + 1))) (lv' := [(4, .int (nI (4 * (k + 1)))), (0, .ref sb), (1, .ref (a 0)), (2, .ref (bm 0)), (3, .ref ao)]) hx hb dL_law_723 hl (k := 0) rfl (by rw [show Int32.ofInt 4 = nI 4 by decide, nI_add]; rfl) (by decide) rfl (fun ls hl => ?_)
      refine lv_goto (tgt := 23) hx hb dL_law_726 (by decide) ?_
      exact ih (k + 1) H locs ls h z w _ _ (by omega) (by omega) (by omega) (by omega) o Y hl
    refine lv_iload hx hb dL_law_23 (lv_at hl 0 rfl) ?_
    refine lv_aload_n hx hb dL_law_25 rfl (lv_at hl 1 rfl) ?_
    refine va_slen (A := fun q => S.heap.size ≤ q) hx hb hX hsb (Nat.not_le.mpr hsb) Y.2.2 dL_law_26 ?_
    refine lv_iconst (v := nI 4) hx hb dL_law_27 (by decide) ?_
    have exit : W p l e room_1 S m args below meth c H locs cells slots Q (F0 m 729 ls []) := by
      refine lv_iconst (v := 1) hx hb dL_law_729 (by decide) ?_
      exact ret _ _ _ _ _ Y.2.2 (by omega) (by omega)
    by_cases h4 : 4 ≤ L
    · refine bn_sub (a := L) (b := 4) hx hb dL_law_28 h4 ?_
      refine bn_gt (a := 4 * k) (b := L - 4) (tgt := 729) hx hb dL_law_29 (by decide) (by omega) (by omega) (fun _ => exit) (fun hle => ?_)
      have fin := fun H locs ls h z w => fin H locs ls h z w (by omega)
      refine lv_aload_n hx hb dL_law_32 rfl (lv_at hl 1 rfl) ?_
      refine lv_iload hx hb dL_law_33 (lv_at hl 0 rfl) ?_
      refine la_rd (i := 4 * k) (k := 0) X hX hsb hL Y (by omega) dL_law_35 ?_
      refine lv_bipush (v := 15) hx hb dL_law_36 (by decide) ?_
      refine lv_iand hx hb dL_law_38 ?_
      obtain ⟨j, hj, ej⟩ := pk_andE (xs (4 * k + 0)) (m := 15) 4 (by decide)
      refine bn_top ej ?_
      match j, hj with
      | 0, _ => exact lv_tableIn (off := 73) (tgt := 112) hx hb dL_law_39 (by decide) (by decide) (by decide +kernel) (by decide) (tn_make hl0 hap X hZ n1 n2 hX hsb hL (i := 4 * k) (by omega) hf o Y hl fin)
      | 1, _ => exact lv_tableIn (off := 141) (tgt := 180) hx hb dL_law_39 (by decide) (by decide) (by decide +kernel) (by decide) (tn_store hl0 hap X hZ n1 n2 hX hsb hL (i := 4 * k) (by omega) hf o Y hl fin)
      | 2, _ => exact lv_tableIn (off := 221) (tgt := 260) hx hb dL_law_39 (by decide) (by decide) (by decide +kernel) (by decide) (tn_load hl0 hap X hZ n1 n2 hX hsb hL (i := 4 * k) (by omega) hf o Y hl fin)
      | 3, _ => exact lv_tableIn (off := 301) (tgt := 340) hx hb dL_law_39 (by decide) (by decide) (by decide +kernel) (by decide) (tn_value hl0 hap X hZ n1 n2 hX hsb hL (i := 4 * k) (by omega) hf o Y hl fin)
      | 4, _ => exact lv_tableIn (off := 357) (tgt := 396) hx hb dL_law_39 (by decide) (by decide) (by decide +kernel) (by decide) (tn_copy hl0 hap X hZ n1 n2 hX hsb hL (i := 4 * k) (by omega) hf o Y hl fin)
      | 5, _ => exact lv_tableIn (off := 425) (tgt := 464) hx hb dL_law_39 (by decide) (by decide) (by decide +kernel) (by decide) (tn_drop hl0 hap X hZ n1 n2 hX hsb hL (i := 4 * k) (by omega) hf o Y hl fin)
      | 6, _ => exact lv_tableIn (off := 488) (tgt := 527) hx hb dL_law_39 (by decide) (by decide) (by decide +kernel) (by decide) (tn_budget hl0 hap X hZ n1 n2 hX hsb hL (i := 4 * k) (by omega) hf o Y hl fin)
      | 7, _ => exact lv_tableIn (off := 544) (tgt := 583) hx hb dL_law_39 (by decide) (by decide) (by decide +kernel) (by decide) (tn_collect hl0 hap X hZ n1 n2 hX hsb hL (i := 4 * k) (by omega) hf o Y hl fin)
      | 8, _ => exact lv_tableIn (off := 557) (tgt := 596) hx hb dL_law_39 (by decide) (by decide) (by decide +kernel) (by decide) (tn_thorough hl0 hap X hZ n1 n2 hX hsb hL (i := 4 * k) (by omega) hf o Y hl fin)
      | 9, _ => exact lv_tableIn (off := 570) (tgt := 609) hx hb dL_law_39 (by decide) (by decide) (by decide +kernel) (by decide) (tn_faults hl0 hap X hZ n1 n2 hX hsb hL (i := 4 * k) (by omega) hf o Y hl fin)
      | 10, _ => exact lv_tableIn (off := 583) (tgt := 622) hx hb dL_law_39 (by decide) (by decide) (by decide +kernel) (by decide) (tn_objects hl0 hap X hZ n1 n2 hX hsb hL (i := 4 * k) (by omega) hf o Y hl fin)
      | 11, _ => exact lv_tableIn (off := 596) (tgt := 635) hx hb dL_law_39 (by decide) (by decide) (by decide +kernel) (by decide) (tn_page hl0 hap X hZ n1 n2 hX hsb hL (i := 4 * k) (by omega) hf o Y hl fin)
      | 12, _ => exact lv_tableIn (off := 621) (tgt := 660) hx hb dL_law_39 (by decide) (by decide) (by decide +kernel) (by decide) (tn_count hl0 hap X hZ n1 n2 hX hsb hL (i := 4 * k) (by omega) hf o Y hl fin)
      | 13, _ => exact lv_tableIn (off := 646) (tgt := 685) hx hb dL_law_39 (by decide) (by decide) (by decide +kernel) (by decide) (tn_places hl0 hap X hZ n1 n2 hX hsb hL (i := 4 * k) (by omega) hf o Y hl fin)
      | 14, _ => exact lv_tableIn (off := 671) (tgt := 710) hx hb dL_law_39 (by decide) (by decide) (by decide +kernel) (by decide) (tn_hand hl0 hap X hZ n1 n2 hX hsb hL (i := 4 * k) (by omega) hf o Y hl fin)
      | 15, _ => exact lv_tableOut (tgt := 723) hx hb dL_law_39 (by decide) (by decide) (W.widen (k := cells + 1) (n := slots + 6) (by omega) (by omega) (fin _ _ _ _ _ _ o Y hl))
      | j + 16, hj => exact absurd hj (by omega)
    · have hk0 : k = 0 := by omega
      subst hk0
      refine lv_isub hx hb dL_law_28 ?_
      refine lv_icmp_gt (tgt := 729) hx hb dL_law_29 (by decide) (fun _ => exit) (fun q => absurd (nI_low ⟨L, by omega⟩) q)
