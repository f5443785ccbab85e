/-! the law's helpers: written by wip/whole/law.py -/
set_option maxHeartbeats 1000000 in
theorem tL_make_ok {l : Launch} {g : GG} {a : Nat → Nat} {ao : Nat} (hap : apO a ao) {h h' : HS} {z : Nat → Int64} {p0 p1 : Int32} {rm : Room} {r : Int32} (hM : Ci l g (wldH g a) (adH a) yH_make kH_make rm (.ref (a 0) :: [.int p0, .int p1]) h r h') (hrm : rm.cells = 0 ∧ rm.slots = 0) (hR : rm.frames ≤ 7 ∧ rm.locals ≤ 129) : LC l g a ao yL_make kL_make { frames := 8, cells := 1, slots := 6, locals := 160 } (.ref (a 0) :: [.int p0, .int p1] ++ [.ref ao]) (h, z) 0 (h', vp_updL z 0 r.toInt64) := by
  refine LC.of (cc := cL_make) (nL := 5) (hh := [(0, 10, 13, 13), (0, 10, 17, 15)]) hap (by decide) rfl (Nat.le_of_ble_eq_true rfl) ?_
  intro p e S m args below meth c Q X htab hZ n1 n2 ret H locs ls Y hl
  have hx := X.1
  have hb := X.2.1
  have hl : lv_has ls 5 [(0, .ref (a 0)), (1, .int p0), (2, .int p1), (3, .ref ao)] := hl
  refine lv_aload_n hx hb dL_make_0 rfl (lv_at hl 3 rfl) ?_
  refine lv_iconst (v := nI 0) hx hb dL_make_1 (by decide) ?_
  refine lv_aload_n hx hb dL_make_2 rfl (lv_at hl 0 rfl) ?_
  refine lv_iload_n hx hb dL_make_3 rfl (lv_at hl 1 rfl) ?_
  refine lv_iload_n hx hb dL_make_4 rfl (lv_at hl 2 rfl) ?_
  refine lh_i (na := 2) (av := [.int p0, .int p1]) (rest := [.int (nI 0), .ref ao]) hap X Y hM gL_H_make (by decide +kernel) rfl hrm ⟨Nat.succ_le_succ hR.1, (by have := hR.2; show 8 + (4 + 11) + rm.locals ≤ 160; omega)⟩ hl.1 rfl (Nat.le_of_ble_eq_true rfl) dL_make_5 (fun H locs Y => ?_)
  refine lv_i2l hx hb dL_make_8 rfl ?_
  refine lh_out X Y dL_make_9 (fun H locs Y => ?_)
  refine lv_goto (tgt := 21) hx hb dL_make_10 (by decide) ?_
  refine W.widen (k := 1) (n := 6) (by omega) (by omega) ?_
  refine lv_iconst (v := 0) hx hb dL_make_21 (by decide) ?_
  exact ret _ _ _ _ _ Y rfl dL_make_22
set_option maxHeartbeats 1000000 in
theorem tL_make_1 {l : Launch} {g : GG} {a : Nat → Nat} {ao : Nat} (hap : apO a ao) {h h' : HS} {z : Nat → Int64} {p0 p1 : Int32} {rm : Room} (hM : CX l g (wldH g a) (adH a) yH_make kH_make rm (.ref (a 0) :: [.int p0, .int p1]) h exI h') (hrm : rm.cells = 1 ∧ rm.slots = 6) (hR : rm.frames ≤ 7 ∧ rm.locals ≤ 129) : LC l g a ao yL_make kL_make { frames := 8, cells := 1, slots := 6, locals := 160 } (.ref (a 0) :: [.int p0, .int p1] ++ [.ref ao]) (h, z) 1 (h', z) := by
  refine LC.of (cc := cL_make) (nL := 5) (hh := [(0, 10, 13, 13), (0, 10, 17, 15)]) hap (by decide) rfl (Nat.le_of_ble_eq_true rfl) ?_
  intro p e S m args below meth c Q X htab hZ n1 n2 ret H locs ls Y hl
  have hx := X.1
  have hb := X.2.1
  have hl : lv_has ls 5 [(0, .ref (a 0)), (1, .int p0), (2, .int p1), (3, .ref ao)] := hl
  refine lv_aload_n hx hb dL_make_0 rfl (lv_at hl 3 rfl) ?_
  refine lv_iconst (v := nI 0) hx hb dL_make_1 (by decide) ?_
  refine lv_aload_n hx hb dL_make_2 rfl (lv_at hl 0 rfl) ?_
  refine lv_iload_n hx hb dL_make_3 rfl (lv_at hl 1 rfl) ?_
  refine lv_iload_n hx hb dL_make_4 rfl (lv_at hl 2 rfl) ?_
  refine lh_x (na := 2) (av := [.int p0, .int p1]) (rest := [.int (nI 0), .ref ao]) hap X hZ Y hM gL_H_make (by decide +kernel) rfl hrm ⟨Nat.succ_le_succ hR.1, (by have := hR.2; show 8 + (4 + 11) + rm.locals ≤ 160; omega)⟩ ⟨Nat.le_refl 1, Nat.le_refl 6⟩ hl.1 rfl (Nat.le_of_ble_eq_true rfl) dL_make_5 [] ⟨0, 10, 13, 13⟩ [⟨0, 10, 17, 15⟩] htab (fun q hq => by cases hq) (by decide) (by decide) lk_I hZ.2.2.2.2.2.2.2.2.2.2.1 (fun H locs q Y => ?_)
  refine lv_astore (lv' := (4, .ref q) :: [(0, .ref (a 0)), (1, .int p0), (2, .int p1), (3, .ref ao)]) hx hb dL_make_13 hl (by decide) rfl (fun ls hl => ?_)
  refine lv_iconst (v := 1) hx hb dL_make_15 (by decide) ?_
  exact ret _ _ _ _ _ Y rfl dL_make_16
set_option maxHeartbeats 1000000 in
theorem tL_make_2 {l : Launch} {g : GG} {a : Nat → Nat} {ao : Nat} (hap : apO a ao) {h h' : HS} {z : Nat → Int64} {p0 p1 : Int32} {rm : Room} (hM : CX l g (wldH g a) (adH a) yH_make kH_make rm (.ref (a 0) :: [.int p0, .int p1]) h exS h') (hrm : rm.cells = 1 ∧ rm.slots = 6) (hR : rm.frames ≤ 7 ∧ rm.locals ≤ 129) : LC l g a ao yL_make kL_make { frames := 8, cells := 1, slots := 6, locals := 160 } (.ref (a 0) :: [.int p0, .int p1] ++ [.ref ao]) (h, z) 2 (h', z) := by
  refine LC.of (cc := cL_make) (nL := 5) (hh := [(0, 10, 13, 13), (0, 10, 17, 15)]) hap (by decide) rfl (Nat.le_of_ble_eq_true rfl) ?_
  intro p e S m args below meth c Q X htab hZ n1 n2 ret H locs ls Y hl
  have hx := X.1
  have hb := X.2.1
  have hl : lv_has ls 5 [(0, .ref (a 0)), (1, .int p0), (2, .int p1), (3, .ref ao)] := hl
  refine lv_aload_n hx hb dL_make_0 rfl (lv_at hl 3 rfl) ?_
  refine lv_iconst (v := nI 0) hx hb dL_make_1 (by decide) ?_
  refine lv_aload_n hx hb dL_make_2 rfl (lv_at hl 0 rfl) ?_
  refine lv_iload_n hx hb dL_make_3 rfl (lv_at hl 1 rfl) ?_
  refine lv_iload_n hx hb dL_make_4 rfl (lv_at hl 2 rfl) ?_
  refine lh_x (na := 2) (av := [.int p0, .int p1]) (rest := [.int (nI 0), .ref ao]) hap X hZ Y hM gL_H_make (by decide +kernel) rfl hrm ⟨Nat.succ_le_succ hR.1, (by have := hR.2; show 8 + (4 + 11) + rm.locals ≤ 160; omega)⟩ ⟨Nat.le_refl 1, Nat.le_refl 6⟩ hl.1 rfl (Nat.le_of_ble_eq_true rfl) dL_make_5 [⟨0, 10, 13, 13⟩] ⟨0, 10, 17, 15⟩ [] htab (fun q hq => by rw [List.mem_singleton] at hq; subst hq; exact Or.inr ⟨by decide, exI, lk_I, n1⟩) (by decide) (by decide) lk_S hZ.2.2.2.2.2.2.2.2.2.2.2.2 (fun H locs q Y => ?_)
  refine lv_astore (lv' := (4, .ref q) :: [(0, .ref (a 0)), (1, .int p0), (2, .int p1), (3, .ref ao)]) hx hb dL_make_17 hl (by decide) rfl (fun ls hl => ?_)
  refine lv_iconst (v := 2) hx hb dL_make_19 (by decide) ?_
  exact ret _ _ _ _ _ Y rfl dL_make_20
set_option maxHeartbeats 1000000 in
theorem tL_store_ok {l : Launch} {g : GG} {a : Nat → Nat} {ao : Nat} (hap : apO a ao) {h h' : HS} {z : Nat → Int64} {p0 p1 p2 : Int32} {rm : Room} {r : Int32} (hM : Ci l g (wldH g a) (adH a) yH_store kH_store rm (.ref (a 0) :: [.int p0, .int p1, .int p2]) h r h') (hrm : rm.cells = 0 ∧ rm.slots = 0) (hR : rm.frames ≤ 7 ∧ rm.locals ≤ 129) : LC l g a ao yL_store kL_store { frames := 8, cells := 1, slots := 6, locals := 160 } (.ref (a 0) :: [.int p0, .int p1, .int p2] ++ [.ref ao]) (h, z) 0 (h', vp_updL z 0 r.toInt64) := by
  refine LC.of (cc := cL_store) (nL := 6) (hh := [(0, 12, 15, 13), (0, 12, 19, 21)]) hap (by decide) rfl (Nat.le_of_ble_eq_true rfl) ?_
  intro p e S m args below meth c Q X htab hZ n1 n2 ret H locs ls Y hl
  have hx := X.1
  have hb := X.2.1
  have hl : lv_has ls 6 [(0, .ref (a 0)), (1, .int p0), (2, .int p1), (3, .int p2), (4, .ref ao)] := hl
  refine lv_aload hx hb dL_store_0 (lv_at hl 4 rfl) ?_
  refine lv_iconst (v := nI 0) hx hb dL_store_2 (by decide) ?_
  refine lv_aload_n hx hb dL_store_3 rfl (lv_at hl 0 rfl) ?_
  refine lv_iload_n hx hb dL_store_4 rfl (lv_at hl 1 rfl) ?_
  refine lv_iload_n hx hb dL_store_5 rfl (lv_at hl 2 rfl) ?_
  refine lv_iload_n hx hb dL_store_6 rfl (lv_at hl 3 rfl) ?_
  refine lh_i (na := 3) (av := [.int p0, .int p1, .int p2]) (rest := [.int (nI 0), .ref ao]) hap X Y hM gL_H_store (by decide +kernel) rfl hrm ⟨Nat.succ_le_succ hR.1, (by have := hR.2; show 8 + (5 + 11) + rm.locals ≤ 160; omega)⟩ hl.1 rfl (Nat.le_of_ble_eq_true rfl) dL_store_7 (fun H locs Y => ?_)
  refine lv_i2l hx hb dL_store_10 rfl ?_
  refine lh_out X Y dL_store_11 (fun H locs Y => ?_)
  refine lv_goto (tgt := 23) hx hb dL_store_12 (by decide) ?_
  refine W.widen (k := 1) (n := 6) (by omega) (by omega) ?_
  refine lv_iconst (v := 0) hx hb dL_store_23 (by decide) ?_
  exact ret _ _ _ _ _ Y rfl dL_store_24
set_option maxHeartbeats 1000000 in
theorem tL_store_1 {l : Launch} {g : GG} {a : Nat → Nat} {ao : Nat} (hap : apO a ao) {h h' : HS} {z : Nat → Int64} {p0 p1 p2 : Int32} {rm : Room} (hM : CX l g (wldH g a) (adH a) yH_store kH_store rm (.ref (a 0) :: [.int p0, .int p1, .int p2]) h exI h') (hrm : rm.cells = 1 ∧ rm.slots = 6) (hR : rm.frames ≤ 7 ∧ rm.locals ≤ 129) : LC l g a ao yL_store kL_store { frames := 8, cells := 1, slots := 6, locals := 160 } (.ref (a 0) :: [.int p0, .int p1, .int p2] ++ [.ref ao]) (h, z) 1 (h', z) := by
  refine LC.of (cc := cL_store) (nL := 6) (hh := [(0, 12, 15, 13), (0, 12, 19, 21)]) hap (by decide) rfl (Nat.le_of_ble_eq_true rfl) ?_
  intro p e S m args below meth c Q X htab hZ n1 n2 ret H locs ls Y hl
  have hx := X.1
  have hb := X.2.1
  have hl : lv_has ls 6 [(0, .ref (a 0)), (1, .int p0), (2, .int p1), (3, .int p2), (4, .ref ao)] := hl
  refine lv_aload hx hb dL_store_0 (lv_at hl 4 rfl) ?_
  refine lv_iconst (v := nI 0) hx hb dL_store_2 (by decide) ?_
  refine lv_aload_n hx hb dL_store_3 rfl (lv_at hl 0 rfl) ?_
  refine lv_iload_n hx hb dL_store_4 rfl (lv_at hl 1 rfl) ?_
  refine lv_iload_n hx hb dL_store_5 rfl (lv_at hl 2 rfl) ?_
  refine lv_iload_n hx hb dL_store_6 rfl (lv_at hl 3 rfl) ?_
  refine lh_x (na := 3) (av := [.int p0, .int p1, .int p2]) (rest := [.int (nI 0), .ref ao]) hap X hZ Y hM gL_H_store (by decide +kernel) rfl hrm ⟨Nat.succ_le_succ hR.1, (by have := hR.2; show 8 + (5 + 11) + rm.locals ≤ 160; omega)⟩ ⟨Nat.le_refl 1, Nat.le_refl 6⟩ hl.1 rfl (Nat.le_of_ble_eq_true rfl) dL_store_7 [] ⟨0, 12, 15, 13⟩ [⟨0, 12, 19, 21⟩] htab (fun q hq => by cases hq) (by decide) (by decide) lk_I hZ.2.2.2.2.2.2.2.2.2.2.1 (fun H locs q Y => ?_)
  refine lv_astore (lv' := (5, .ref q) :: [(0, .ref (a 0)), (1, .int p0), (2, .int p1), (3, .int p2), (4, .ref ao)]) hx hb dL_store_15 hl (by decide) rfl (fun ls hl => ?_)
  refine lv_iconst (v := 1) hx hb dL_store_17 (by decide) ?_
  exact ret _ _ _ _ _ Y rfl dL_store_18
set_option maxHeartbeats 1000000 in
theorem tL_store_2 {l : Launch} {g : GG} {a : Nat → Nat} {ao : Nat} (hap : apO a ao) {h h' : HS} {z : Nat → Int64} {p0 p1 p2 : Int32} {rm : Room} (hM : CX l g (wldH g a) (adH a) yH_store kH_store rm (.ref (a 0) :: [.int p0, .int p1, .int p2]) h exA h') (hrm : rm.cells = 1 ∧ rm.slots = 6) (hR : rm.frames ≤ 7 ∧ rm.locals ≤ 129) : LC l g a ao yL_store kL_store { frames := 8, cells := 1, slots := 6, locals := 160 } (.ref (a 0) :: [.int p0, .int p1, .int p2] ++ [.ref ao]) (h, z) 2 (h', z) := by
  refine LC.of (cc := cL_store) (nL := 6) (hh := [(0, 12, 15, 13), (0, 12, 19, 21)]) hap (by decide) rfl (Nat.le_of_ble_eq_true rfl) ?_
  intro p e S m args below meth c Q X htab hZ n1 n2 ret H locs ls Y hl
  have hx := X.1
  have hb := X.2.1
  have hl : lv_has ls 6 [(0, .ref (a 0)), (1, .int p0), (2, .int p1), (3, .int p2), (4, .ref ao)] := hl
  refine lv_aload hx hb dL_store_0 (lv_at hl 4 rfl) ?_
  refine lv_iconst (v := nI 0) hx hb dL_store_2 (by decide) ?_
  refine lv_aload_n hx hb dL_store_3 rfl (lv_at hl 0 rfl) ?_
  refine lv_iload_n hx hb dL_store_4 rfl (lv_at hl 1 rfl) ?_
  refine lv_iload_n hx hb dL_store_5 rfl (lv_at hl 2 rfl) ?_
  refine lv_iload_n hx hb dL_store_6 rfl (lv_at hl 3 rfl) ?_
  refine lh_x (na := 3) (av := [.int p0, .int p1, .int p2]) (rest := [.int (nI 0), .ref ao]) hap X hZ Y hM gL_H_store (by decide +kernel) rfl hrm ⟨Nat.succ_le_succ hR.1, (by have := hR.2; show 8 + (5 + 11) + rm.locals ≤ 160; omega)⟩ ⟨Nat.le_refl 1, Nat.le_refl 6⟩ hl.1 rfl (Nat.le_of_ble_eq_true rfl) dL_store_7 [⟨0, 12, 15, 13⟩] ⟨0, 12, 19, 21⟩ [] htab (fun q hq => by rw [List.mem_singleton] at hq; subst hq; exact Or.inr ⟨by decide, exI, lk_I, n2⟩) (by decide) (by decide) lk_A hZ.2.2.2.2.2.2.2.2.2.2.2.1 (fun H locs q Y => ?_)
  refine lv_astore (lv' := (5, .ref q) :: [(0, .ref (a 0)), (1, .int p0), (2, .int p1), (3, .int p2), (4, .ref ao)]) hx hb dL_store_19 hl (by decide) rfl (fun ls hl => ?_)
  refine lv_iconst (v := 2) hx hb dL_store_21 (by decide) ?_
  exact ret _ _ _ _ _ Y rfl dL_store_22
set_option maxHeartbeats 1000000 in
theorem tL_load_ok {l : Launch} {g : GG} {a : Nat → Nat} {ao : Nat} (hap : apO a ao) {h h' : HS} {z : Nat → Int64} {p0 p1 p2 : Int32} {rm : Room} {r : Int32} (hM : Ci l g (wldH g a) (adH a) yH_load kH_load rm (.ref (a 0) :: [.int p0, .int p1, .int p2]) h r h') (hrm : rm.cells = 0 ∧ rm.slots = 0) (hR : rm.frames ≤ 7 ∧ rm.locals ≤ 129) : LC l g a ao yL_load kL_load { frames := 8, cells := 1, slots := 6, locals := 160 } (.ref (a 0) :: [.int p0, .int p1, .int p2] ++ [.ref ao]) (h, z) 0 (h', vp_updL z 0 r.toInt64) := by
  refine LC.of (cc := cL_load) (nL := 6) (hh := [(0, 12, 15, 13), (0, 12, 19, 21)]) hap (by decide) rfl (Nat.le_of_ble_eq_true rfl) ?_
  intro p e S m args below meth c Q X htab hZ n1 n2 ret H locs ls Y hl
  have hx := X.1
  have hb := X.2.1
  have hl : lv_has ls 6 [(0, .ref (a 0)), (1, .int p0), (2, .int p1), (3, .int p2), (4, .ref ao)] := hl
  refine lv_aload hx hb dL_load_0 (lv_at hl 4 rfl) ?_
  refine lv_iconst (v := nI 0) hx hb dL_load_2 (by decide) ?_
  refine lv_aload_n hx hb dL_load_3 rfl (lv_at hl 0 rfl) ?_
  refine lv_iload_n hx hb dL_load_4 rfl (lv_at hl 1 rfl) ?_
  refine lv_iload_n hx hb dL_load_5 rfl (lv_at hl 2 rfl) ?_
  refine lv_iload_n hx hb dL_load_6 rfl (lv_at hl 3 rfl) ?_
  refine lh_i (na := 3) (av := [.int p0, .int p1, .int p2]) (rest := [.int (nI 0), .ref ao]) hap X Y hM gL_H_load (by decide +kernel) rfl hrm ⟨Nat.succ_le_succ hR.1, (by have := hR.2; show 8 + (5 + 11) + rm.locals ≤ 160; omega)⟩ hl.1 rfl (Nat.le_of_ble_eq_true rfl) dL_load_7 (fun H locs Y => ?_)
  refine lv_i2l hx hb dL_load_10 rfl ?_
  refine lh_out X Y dL_load_11 (fun H locs Y => ?_)
  refine lv_goto (tgt := 23) hx hb dL_load_12 (by decide) ?_
  refine W.widen (k := 1) (n := 6) (by omega) (by omega) ?_
  refine lv_iconst (v := 0) hx hb dL_load_23 (by decide) ?_
  exact ret _ _ _ _ _ Y rfl dL_load_24
set_option maxHeartbeats 1000000 in
theorem tL_load_1 {l : Launch} {g : GG} {a : Nat → Nat} {ao : Nat} (hap : apO a ao) {h h' : HS} {z : Nat → Int64} {p0 p1 p2 : Int32} {rm : Room} (hM : CX l g (wldH g a) (adH a) yH_load kH_load rm (.ref (a 0) :: [.int p0, .int p1, .int p2]) h exI h') (hrm : rm.cells = 1 ∧ rm.slots = 6) (hR : rm.frames ≤ 7 ∧ rm.locals ≤ 129) : LC l g a ao yL_load kL_load { frames := 8, cells := 1, slots := 6, locals := 160 } (.ref (a 0) :: [.int p0, .int p1, .int p2] ++ [.ref ao]) (h, z) 1 (h', z) := by
  refine LC.of (cc := cL_load) (nL := 6) (hh := [(0, 12, 15, 13), (0, 12, 19, 21)]) hap (by decide) rfl (Nat.le_of_ble_eq_true rfl) ?_
  intro p e S m args below meth c Q X htab hZ n1 n2 ret H locs ls Y hl
  have hx := X.1
  have hb := X.2.1
  have hl : lv_has ls 6 [(0, .ref (a 0)), (1, .int p0), (2, .int p1), (3, .int p2), (4, .ref ao)] := hl
  refine lv_aload hx hb dL_load_0 (lv_at hl 4 rfl) ?_
  refine lv_iconst (v := nI 0) hx hb dL_load_2 (by decide) ?_
  refine lv_aload_n hx hb dL_load_3 rfl (lv_at hl 0 rfl) ?_
  refine lv_iload_n hx hb dL_load_4 rfl (lv_at hl 1 rfl) ?_
  refine lv_iload_n hx hb dL_load_5 rfl (lv_at hl 2 rfl) ?_
  refine lv_iload_n hx hb dL_load_6 rfl (lv_at hl 3 rfl) ?_
  refine lh_x (na := 3) (av := [.int p0, .int p1, .int p2]) (rest := [.int (nI 0), .ref ao]) hap X hZ Y hM gL_H_load (by decide +kernel) rfl hrm ⟨Nat.succ_le_succ hR.1, (by have := hR.2; show 8 + (5 + 11) + rm.locals ≤ 160; omega)⟩ ⟨Nat.le_refl 1, Nat.le_refl 6⟩ hl.1 rfl (Nat.le_of_ble_eq_true rfl) dL_load_7 [] ⟨0, 12, 15, 13⟩ [⟨0, 12, 19, 21⟩] htab (fun q hq => by cases hq) (by decide) (by decide) lk_I hZ.2.2.2.2.2.2.2.2.2.2.1 (fun H locs q Y => ?_)
  refine lv_astore (lv' := (5, .ref q) :: [(0, .ref (a 0)), (1, .int p0), (2, .int p1), (3, .int p2), (4, .ref ao)]) hx hb dL_load_15 hl (by decide) rfl (fun ls hl => ?_)
  refine lv_iconst (v := 1) hx hb dL_load_17 (by decide) ?_
  exact ret _ _ _ _ _ Y rfl dL_load_18
set_option maxHeartbeats 1000000 in
theorem tL_load_2 {l : Launch} {g : GG} {a : Nat → Nat} {ao : Nat} (hap : apO a ao) {h h' : HS} {z : Nat → Int64} {p0 p1 p2 : Int32} {rm : Room} (hM : CX l g (wldH g a) (adH a) yH_load kH_load rm (.ref (a 0) :: [.int p0, .int p1, .int p2]) h exA h') (hrm : rm.cells = 1 ∧ rm.slots = 6) (hR : rm.frames ≤ 7 ∧ rm.locals ≤ 129) : LC l g a ao yL_load kL_load { frames := 8, cells := 1, slots := 6, locals := 160 } (.ref (a 0) :: [.int p0, .int p1, .int p2] ++ [.ref ao]) (h, z) 2 (h', z) := by
  refine LC.of (cc := cL_load) (nL := 6) (hh := [(0, 12, 15, 13), (0, 12, 19, 21)]) hap (by decide) rfl (Nat.le_of_ble_eq_true rfl) ?_
  intro p e S m args below meth c Q X htab hZ n1 n2 ret H locs ls Y hl
  have hx := X.1
  have hb := X.2.1
  have hl : lv_has ls 6 [(0, .ref (a 0)), (1, .int p0), (2, .int p1), (3, .int p2), (4, .ref ao)] := hl
  refine lv_aload hx hb dL_load_0 (lv_at hl 4 rfl) ?_
  refine lv_iconst (v := nI 0) hx hb dL_load_2 (by decide) ?_
  refine lv_aload_n hx hb dL_load_3 rfl (lv_at hl 0 rfl) ?_
  refine lv_iload_n hx hb dL_load_4 rfl (lv_at hl 1 rfl) ?_
  refine lv_iload_n hx hb dL_load_5 rfl (lv_at hl 2 rfl) ?_
  refine lv_iload_n hx hb dL_load_6 rfl (lv_at hl 3 rfl) ?_
  refine lh_x (na := 3) (av := [.int p0, .int p1, .int p2]) (rest := [.int (nI 0), .ref ao]) hap X hZ Y hM gL_H_load (by decide +kernel) rfl hrm ⟨Nat.succ_le_succ hR.1, (by have := hR.2; show 8 + (5 + 11) + rm.locals ≤ 160; omega)⟩ ⟨Nat.le_refl 1, Nat.le_refl 6⟩ hl.1 rfl (Nat.le_of_ble_eq_true rfl) dL_load_7 [⟨0, 12, 15, 13⟩] ⟨0, 12, 19, 21⟩ [] htab (fun q hq => by rw [List.mem_singleton] at hq; subst hq; exact Or.inr ⟨by decide, exI, lk_I, n2⟩) (by decide) (by decide) lk_A hZ.2.2.2.2.2.2.2.2.2.2.2.1 (fun H locs q Y => ?_)
  refine lv_astore (lv' := (5, .ref q) :: [(0, .ref (a 0)), (1, .int p0), (2, .int p1), (3, .int p2), (4, .ref ao)]) hx hb dL_load_19 hl (by decide) rfl (fun ls hl => ?_)
  refine lv_iconst (v := 2) hx hb dL_load_21 (by decide) ?_
  exact ret _ _ _ _ _ Y rfl dL_load_22
set_option maxHeartbeats 1000000 in
theorem tL_value_ok {l : Launch} {g : GG} {a : Nat → Nat} {ao : Nat} (hap : apO a ao) {h h' : HS} {z : Nat → Int64} {p0 : Int32} {rm : Room} {r : Int32} (hM : Ci l g (wldH g a) (adH a) yH_value kH_value rm (.ref (a 0) :: [.int p0]) h r h') (hrm : rm.cells = 0 ∧ rm.slots = 0) (hR : rm.frames ≤ 7 ∧ rm.locals ≤ 129) : LC l g a ao yL_value kL_value { frames := 8, cells := 1, slots := 6, locals := 160 } (.ref (a 0) :: [.int p0] ++ [.ref ao]) (h, z) 0 (h', vp_updL z 0 r.toInt64) := by
  refine LC.of (cc := cL_value) (nL := 4) (hh := [(0, 9, 12, 13), (0, 9, 15, 21)]) hap (by decide) rfl (Nat.le_of_ble_eq_true rfl) ?_
  intro p e S m args below meth c Q X htab hZ n1 n2 ret H locs ls Y hl
  have hx := X.1
  have hb := X.2.1
  have hl : lv_has ls 4 [(0, .ref (a 0)), (1, .int p0), (2, .ref ao)] := hl
  refine lv_aload_n hx hb dL_value_0 rfl (lv_at hl 2 rfl) ?_
  refine lv_iconst (v := nI 0) hx hb dL_value_1 (by decide) ?_
  refine lv_aload_n hx hb dL_value_2 rfl (lv_at hl 0 rfl) ?_
  refine lv_iload_n hx hb dL_value_3 rfl (lv_at hl 1 rfl) ?_
  refine lh_i (na := 1) (av := [.int p0]) (rest := [.int (nI 0), .ref ao]) hap X Y hM gL_H_value (by decide +kernel) rfl hrm ⟨Nat.succ_le_succ hR.1, (by have := hR.2; show 8 + (3 + 11) + rm.locals ≤ 160; omega)⟩ hl.1 rfl (Nat.le_of_ble_eq_true rfl) dL_value_4 (fun H locs Y => ?_)
  refine lv_i2l hx hb dL_value_7 rfl ?_
  refine lh_out X Y dL_value_8 (fun H locs Y => ?_)
  refine lv_goto (tgt := 18) hx hb dL_value_9 (by decide) ?_
  refine W.widen (k := 1) (n := 6) (by omega) (by omega) ?_
  refine lv_iconst (v := 0) hx hb dL_value_18 (by decide) ?_
  exact ret _ _ _ _ _ Y rfl dL_value_19
set_option maxHeartbeats 1000000 in
theorem tL_value_1 {l : Launch} {g : GG} {a : Nat → Nat} {ao : Nat} (hap : apO a ao) {h h' : HS} {z : Nat → Int64} {p0 : Int32} {rm : Room} (hM : CX l g (wldH g a) (adH a) yH_value kH_value rm (.ref (a 0) :: [.int p0]) h exI h') (hrm : rm.cells = 1 ∧ rm.slots = 6) (hR : rm.frames ≤ 7 ∧ rm.locals ≤ 129) : LC l g a ao yL_value kL_value { frames := 8, cells := 1, slots := 6, locals := 160 } (.ref (a 0) :: [.int p0] ++ [.ref ao]) (h, z) 1 (h', z) := by
  refine LC.of (cc := cL_value) (nL := 4) (hh := [(0, 9, 12, 13), (0, 9, 15, 21)]) hap (by decide) rfl (Nat.le_of_ble_eq_true rfl) ?_
  intro p e S m args below meth c Q X htab hZ n1 n2 ret H locs ls Y hl
  have hx := X.1
  have hb := X.2.1
  have hl : lv_has ls 4 [(0, .ref (a 0)), (1, .int p0), (2, .ref ao)] := hl
  refine lv_aload_n hx hb dL_value_0 rfl (lv_at hl 2 rfl) ?_
  refine lv_iconst (v := nI 0) hx hb dL_value_1 (by decide) ?_
  refine lv_aload_n hx hb dL_value_2 rfl (lv_at hl 0 rfl) ?_
  refine lv_iload_n hx hb dL_value_3 rfl (lv_at hl 1 rfl) ?_
  refine lh_x (na := 1) (av := [.int p0]) (rest := [.int (nI 0), .ref ao]) hap X hZ Y hM gL_H_value (by decide +kernel) rfl hrm ⟨Nat.succ_le_succ hR.1, (by have := hR.2; show 8 + (3 + 11) + rm.locals ≤ 160; omega)⟩ ⟨Nat.le_refl 1, Nat.le_refl 6⟩ hl.1 rfl (Nat.le_of_ble_eq_true rfl) dL_value_4 [] ⟨0, 9, 12, 13⟩ [⟨0, 9, 15, 21⟩] htab (fun q hq => by cases hq) (by decide) (by decide) lk_I hZ.2.2.2.2.2.2.2.2.2.2.1 (fun H locs q Y => ?_)
  refine lv_astore_n (lv' := (3, .ref q) :: [(0, .ref (a 0)), (1, .int p0), (2, .ref ao)]) hx hb dL_value_12 rfl hl (by decide) rfl (fun ls hl => ?_)
  refine lv_iconst (v := 1) hx hb dL_value_13 (by decide) ?_
  exact ret _ _ _ _ _ Y rfl dL_value_14
set_option maxHeartbeats 1000000 in
theorem tL_value_2 {l : Launch} {g : GG} {a : Nat → Nat} {ao : Nat} (hap : apO a ao) {h h' : HS} {z : Nat → Int64} {p0 : Int32} {rm : Room} (hM : CX l g (wldH g a) (adH a) yH_value kH_value rm (.ref (a 0) :: [.int p0]) h exA h') (hrm : rm.cells = 1 ∧ rm.slots = 6) (hR : rm.frames ≤ 7 ∧ rm.locals ≤ 129) : LC l g a ao yL_value kL_value { frames := 8, cells := 1, slots := 6, locals := 160 } (.ref (a 0) :: [.int p0] ++ [.ref ao]) (h, z) 2 (h', z) := by
  refine LC.of (cc := cL_value) (nL := 4) (hh := [(0, 9, 12, 13), (0, 9, 15, 21)]) hap (by decide) rfl (Nat.le_of_ble_eq_true rfl) ?_
  intro p e S m args below meth c Q X htab hZ n1 n2 ret H locs ls Y hl
  have hx := X.1
  have hb := X.2.1
  have hl : lv_has ls 4 [(0, .ref (a 0)), (1, .int p0), (2, .ref ao)] := hl
  refine lv_aload_n hx hb dL_value_0 rfl (lv_at hl 2 rfl) ?_
  refine lv_iconst (v := nI 0) hx hb dL_value_1 (by decide) ?_
  refine lv_aload_n hx hb dL_value_2 rfl (lv_at hl 0 rfl) ?_
  refine lv_iload_n hx hb dL_value_3 rfl (lv_at hl 1 rfl) ?_
  refine lh_x (na := 1) (av := [.int p0]) (rest := [.int (nI 0), .ref ao]) hap X hZ Y hM gL_H_value (by decide +kernel) rfl hrm ⟨Nat.succ_le_succ hR.1, (by have := hR.2; show 8 + (3 + 11) + rm.locals ≤ 160; omega)⟩ ⟨Nat.le_refl 1, Nat.le_refl 6⟩ hl.1 rfl (Nat.le_of_ble_eq_true rfl) dL_value_4 [⟨0, 9, 12, 13⟩] ⟨0, 9, 15, 21⟩ [] htab (fun q hq => by rw [List.mem_singleton] at hq; subst hq; exact Or.inr ⟨by decide, exI, lk_I, n2⟩) (by decide) (by decide) lk_A hZ.2.2.2.2.2.2.2.2.2.2.2.1 (fun H locs q Y => ?_)
  refine lv_astore_n (lv' := (3, .ref q) :: [(0, .ref (a 0)), (1, .int p0), (2, .ref ao)]) hx hb dL_value_15 rfl hl (by decide) rfl (fun ls hl => ?_)
  refine lv_iconst (v := 2) hx hb dL_value_16 (by decide) ?_
  exact ret _ _ _ _ _ Y rfl dL_value_17
set_option maxHeartbeats 1000000 in
theorem tL_copy_ok {l : Launch} {g : GG} {a : Nat → Nat} {ao : Nat} (hap : apO a ao) {h h' : HS} {z : Nat → Int64} {p0 p1 : Int32} {rm : Room} {r : Int32} (hM : Ci l g (wldH g a) (adH a) yH_copy kH_copy rm (.ref (a 0) :: [.int p0, .int p1]) h r h') (hrm : rm.cells = 0 ∧ rm.slots = 0) (hR : rm.frames ≤ 7 ∧ rm.locals ≤ 129) : LC l g a ao yL_copy kL_copy { frames := 8, cells := 1, slots := 6, locals := 160 } (.ref (a 0) :: [.int p0, .int p1] ++ [.ref ao]) (h, z) 0 (h', vp_updL z 0 r.toInt64) := by
  refine LC.of (cc := cL_copy) (nL := 5) (hh := [(0, 10, 13, 13)]) hap (by decide) rfl (Nat.le_of_ble_eq_true rfl) ?_
  intro p e S m args below meth c Q X htab hZ n1 n2 ret H locs ls Y hl
  have hx := X.1
  have hb := X.2.1
  have hl : lv_has ls 5 [(0, .ref (a 0)), (1, .int p0), (2, .int p1), (3, .ref ao)] := hl
  refine lv_aload_n hx hb dL_copy_0 rfl (lv_at hl 3 rfl) ?_
  refine lv_iconst (v := nI 0) hx hb dL_copy_1 (by decide) ?_
  refine lv_aload_n hx hb dL_copy_2 rfl (lv_at hl 0 rfl) ?_
  refine lv_iload_n hx hb dL_copy_3 rfl (lv_at hl 1 rfl) ?_
  refine lv_iload_n hx hb dL_copy_4 rfl (lv_at hl 2 rfl) ?_
  refine lh_i (na := 2) (av := [.int p0, .int p1]) (rest := [.int (nI 0), .ref ao]) hap X Y hM gL_H_copy (by decide +kernel) rfl hrm ⟨Nat.succ_le_succ hR.1, (by have := hR.2; show 8 + (3 + 11) + rm.locals ≤ 160; omega)⟩ hl.1 rfl (Nat.le_of_ble_eq_true rfl) dL_copy_5 (fun H locs Y => ?_)
  refine lv_i2l hx hb dL_copy_8 rfl ?_
  refine lh_out X Y dL_copy_9 (fun H locs Y => ?_)
  refine lv_goto (tgt := 17) hx hb dL_copy_10 (by decide) ?_
  refine W.widen (k := 1) (n := 6) (by omega) (by omega) ?_
  refine lv_iconst (v := 0) hx hb dL_copy_17 (by decide) ?_
  exact ret _ _ _ _ _ Y rfl dL_copy_18
set_option maxHeartbeats 1000000 in
theorem tL_copy_1 {l : Launch} {g : GG} {a : Nat → Nat} {ao : Nat} (hap : apO a ao) {h h' : HS} {z : Nat → Int64} {p0 p1 : Int32} {rm : Room} (hM : CX l g (wldH g a) (adH a) yH_copy kH_copy rm (.ref (a 0) :: [.int p0, .int p1]) h exI h') (hrm : rm.cells = 1 ∧ rm.slots = 6) (hR : rm.frames ≤ 7 ∧ rm.locals ≤ 129) : LC l g a ao yL_copy kL_copy { frames := 8, cells := 1, slots := 6, locals := 160 } (.ref (a 0) :: [.int p0, .int p1] ++ [.ref ao]) (h, z) 1 (h', z) := by
  refine LC.of (cc := cL_copy) (nL := 5) (hh := [(0, 10, 13, 13)]) hap (by decide) rfl (Nat.le_of_ble_eq_true rfl) ?_
  intro p e S m args below meth c Q X htab hZ n1 n2 ret H locs ls Y hl
  have hx := X.1
  have hb := X.2.1
  have hl : lv_has ls 5 [(0, .ref (a 0)), (1, .int p0), (2, .int p1), (3, .ref ao)] := hl
  refine lv_aload_n hx hb dL_copy_0 rfl (lv_at hl 3 rfl) ?_
  refine lv_iconst (v := nI 0) hx hb dL_copy_1 (by decide) ?_
  refine lv_aload_n hx hb dL_copy_2 rfl (lv_at hl 0 rfl) ?_
  refine lv_iload_n hx hb dL_copy_3 rfl (lv_at hl 1 rfl) ?_
  refine lv_iload_n hx hb dL_copy_4 rfl (lv_at hl 2 rfl) ?_
  refine lh_x (na := 2) (av := [.int p0, .int p1]) (rest := [.int (nI 0), .ref ao]) hap X hZ Y hM gL_H_copy (by decide +kernel) rfl hrm ⟨Nat.succ_le_succ hR.1, (by have := hR.2; show 8 + (3 + 11) + rm.locals ≤ 160; omega)⟩ ⟨Nat.le_refl 1, Nat.le_refl 6⟩ hl.1 rfl (Nat.le_of_ble_eq_true rfl) dL_copy_5 [] ⟨0, 10, 13, 13⟩ [] htab (fun q hq => by cases hq) (by decide) (by decide) lk_I hZ.2.2.2.2.2.2.2.2.2.2.1 (fun H locs q Y => ?_)
  refine lv_astore (lv' := (4, .ref q) :: [(0, .ref (a 0)), (1, .int p0), (2, .int p1), (3, .ref ao)]) hx hb dL_copy_13 hl (by decide) rfl (fun ls hl => ?_)
  refine lv_iconst (v := 1) hx hb dL_copy_15 (by decide) ?_
  exact ret _ _ _ _ _ Y rfl dL_copy_16
set_option maxHeartbeats 1000000 in
theorem tL_drop_ok {l : Launch} {g : GG} {a : Nat → Nat} {ao : Nat} (hap : apO a ao) {h h' : HS} {z : Nat → Int64} {p0 : Int32} {rm : Room} {b : Bool} (hM : Ci l g (wldH g a) (adH a) yH_drop kH_drop rm (.ref (a 0) :: [.int p0]) h (bI b) h') (hrm : rm.cells = 0 ∧ rm.slots = 0) (hR : rm.frames ≤ 7 ∧ rm.locals ≤ 129) : LC l g a ao yL_drop kL_drop { frames := 8, cells := 1, slots := 6, locals := 160 } (.ref (a 0) :: [.int p0] ++ [.ref ao]) (h, z) 0 (h', vp_updL z 0 (if b then 1 else 0)) := by
  refine LC.of (cc := cL_drop) (nL := 4) (hh := [(0, 16, 19, 13)]) hap (by decide) rfl (Nat.le_of_ble_eq_true rfl) ?_
  intro p e S m args below meth c Q X htab hZ n1 n2 ret H locs ls Y hl
  have hx := X.1
  have hb := X.2.1
  have hl : lv_has ls 4 [(0, .ref (a 0)), (1, .int p0), (2, .ref ao)] := hl
  refine lv_aload_n hx hb dL_drop_0 rfl (lv_at hl 2 rfl) ?_
  refine lv_iconst (v := nI 0) hx hb dL_drop_1 (by decide) ?_
  refine lv_aload_n hx hb dL_drop_2 rfl (lv_at hl 0 rfl) ?_
  refine lv_iload_n hx hb dL_drop_3 rfl (lv_at hl 1 rfl) ?_
  refine lh_i (na := 1) (av := [.int p0]) (rest := [.int (nI 0), .ref ao]) hap X Y hM gL_H_drop (by decide +kernel) rfl hrm ⟨Nat.succ_le_succ hR.1, (by have := hR.2; show 8 + (3 + 11) + rm.locals ≤ 160; omega)⟩ hl.1 rfl (Nat.le_of_ble_eq_true rfl) dL_drop_4 (fun H locs Y => ?_)
  refine bb_eq (tgt := 14) hx hb dL_drop_7 (by decide) (fun hb0 => ?_) (fun hb0 => ?_)
  · subst hb0
    refine lv_lconst (v := 0) hx hb dL_drop_14 (by decide) ?_
    refine lh_out X Y dL_drop_15 (fun H locs Y => ?_)
    refine lv_goto (tgt := 22) hx hb dL_drop_16 (by decide) ?_
    refine W.widen (k := 1) (n := 6) (by omega) (by omega) ?_
    refine lv_iconst (v := 0) hx hb dL_drop_22 (by decide) ?_
    exact ret _ _ _ _ _ Y rfl dL_drop_23
  · subst hb0
    refine lv_lconst (v := 1) hx hb dL_drop_10 (by decide) ?_
    refine lv_goto (tgt := 15) hx hb dL_drop_11 (by decide) ?_
    refine lh_out X Y dL_drop_15 (fun H locs Y => ?_)
    refine lv_goto (tgt := 22) hx hb dL_drop_16 (by decide) ?_
    refine W.widen (k := 1) (n := 6) (by omega) (by omega) ?_
    refine lv_iconst (v := 0) hx hb dL_drop_22 (by decide) ?_
    exact ret _ _ _ _ _ Y rfl dL_drop_23
set_option maxHeartbeats 1000000 in
theorem tL_drop_1 {l : Launch} {g : GG} {a : Nat → Nat} {ao : Nat} (hap : apO a ao) {h h' : HS} {z : Nat → Int64} {p0 : Int32} {rm : Room} (hM : CX l g (wldH g a) (adH a) yH_drop kH_drop rm (.ref (a 0) :: [.int p0]) h exI h') (hrm : rm.cells = 1 ∧ rm.slots = 6) (hR : rm.frames ≤ 7 ∧ rm.locals ≤ 129) : LC l g a ao yL_drop kL_drop { frames := 8, cells := 1, slots := 6, locals := 160 } (.ref (a 0) :: [.int p0] ++ [.ref ao]) (h, z) 1 (h', z) := by
  refine LC.of (cc := cL_drop) (nL := 4) (hh := [(0, 16, 19, 13)]) hap (by decide) rfl (Nat.le_of_ble_eq_true rfl) ?_
  intro p e S m args below meth c Q X htab hZ n1 n2 ret H locs ls Y hl
  have hx := X.1
  have hb := X.2.1
  have hl : lv_has ls 4 [(0, .ref (a 0)), (1, .int p0), (2, .ref ao)] := hl
  refine lv_aload_n hx hb dL_drop_0 rfl (lv_at hl 2 rfl) ?_
  refine lv_iconst (v := nI 0) hx hb dL_drop_1 (by decide) ?_
  refine lv_aload_n hx hb dL_drop_2 rfl (lv_at hl 0 rfl) ?_
  refine lv_iload_n hx hb dL_drop_3 rfl (lv_at hl 1 rfl) ?_
  refine lh_x (na := 1) (av := [.int p0]) (rest := [.int (nI 0), .ref ao]) hap X hZ Y hM gL_H_drop (by decide +kernel) rfl hrm ⟨Nat.succ_le_succ hR.1, (by have := hR.2; show 8 + (3 + 11) + rm.locals ≤ 160; omega)⟩ ⟨Nat.le_refl 1, Nat.le_refl 6⟩ hl.1 rfl (Nat.le_of_ble_eq_true rfl) dL_drop_4 [] ⟨0, 16, 19, 13⟩ [] htab (fun q hq => by cases hq) (by decide) (by decide) lk_I hZ.2.2.2.2.2.2.2.2.2.2.1 (fun H locs q Y => ?_)
  refine lv_astore_n (lv' := (3, .ref q) :: [(0, .ref (a 0)), (1, .int p0), (2, .ref ao)]) hx hb dL_drop_19 rfl hl (by decide) rfl (fun ls hl => ?_)
  refine lv_iconst (v := 1) hx hb dL_drop_20 (by decide) ?_
  exact ret _ _ _ _ _ Y rfl dL_drop_21
set_option maxHeartbeats 1000000 in
theorem tL_budget_ok {l : Launch} {g : GG} {a : Nat → Nat} {ao : Nat} (hap : apO a ao) {h h' : HS} {z : Nat → Int64} {p0 : Int32} {rm : Room} {r : Int32} (hM : Ci l g (wldH g a) (adH a) yH_budget kH_budget rm (.ref (a 0) :: [.int p0]) h r h') (hrm : rm.cells = 0 ∧ rm.slots = 0) (hR : rm.frames ≤ 7 ∧ rm.locals ≤ 129) : LC l g a ao yL_budget kL_budget { frames := 8, cells := 1, slots := 6, locals := 160 } (.ref (a 0) :: [.int p0] ++ [.ref ao]) (h, z) 0 (h', vp_updL z 0 r.toInt64) := by
  refine LC.of (cc := cL_budget) (nL := 4) (hh := [(0, 9, 12, 21)]) hap (by decide) rfl (Nat.le_of_ble_eq_true rfl) ?_
  intro p e S m args below meth c Q X htab hZ n1 n2 ret H locs ls Y hl
  have hx := X.1
  have hb := X.2.1
  have hl : lv_has ls 4 [(0, .ref (a 0)), (1, .int p0), (2, .ref ao)] := hl
  refine lv_aload_n hx hb dL_budget_0 rfl (lv_at hl 2 rfl) ?_
  refine lv_iconst (v := nI 0) hx hb dL_budget_1 (by decide) ?_
  refine lv_aload_n hx hb dL_budget_2 rfl (lv_at hl 0 rfl) ?_
  refine lv_iload_n hx hb dL_budget_3 rfl (lv_at hl 1 rfl) ?_
  refine lh_i (na := 1) (av := [.int p0]) (rest := [.int (nI 0), .ref ao]) hap X Y hM gL_H_budget (by decide +kernel) rfl hrm ⟨Nat.succ_le_succ hR.1, (by have := hR.2; show 8 + (2 + 11) + rm.locals ≤ 160; omega)⟩ hl.1 rfl (Nat.le_of_ble_eq_true rfl) dL_budget_4 (fun H locs Y => ?_)
  refine lv_i2l hx hb dL_budget_7 rfl ?_
  refine lh_out X Y dL_budget_8 (fun H locs Y => ?_)
  refine lv_goto (tgt := 15) hx hb dL_budget_9 (by decide) ?_
  refine W.widen (k := 1) (n := 6) (by omega) (by omega) ?_
  refine lv_iconst (v := 0) hx hb dL_budget_15 (by decide) ?_
  exact ret _ _ _ _ _ Y rfl dL_budget_16
set_option maxHeartbeats 1000000 in
theorem tL_budget_1 {l : Launch} {g : GG} {a : Nat → Nat} {ao : Nat} (hap : apO a ao) {h h' : HS} {z : Nat → Int64} {p0 : Int32} {rm : Room} (hM : CX l g (wldH g a) (adH a) yH_budget kH_budget rm (.ref (a 0) :: [.int p0]) h exA h') (hrm : rm.cells = 1 ∧ rm.slots = 6) (hR : rm.frames ≤ 7 ∧ rm.locals ≤ 129) : LC l g a ao yL_budget kL_budget { frames := 8, cells := 1, slots := 6, locals := 160 } (.ref (a 0) :: [.int p0] ++ [.ref ao]) (h, z) 1 (h', z) := by
  refine LC.of (cc := cL_budget) (nL := 4) (hh := [(0, 9, 12, 21)]) hap (by decide) rfl (Nat.le_of_ble_eq_true rfl) ?_
  intro p e S m args below meth c Q X htab hZ n1 n2 ret H locs ls Y hl
  have hx := X.1
  have hb := X.2.1
  have hl : lv_has ls 4 [(0, .ref (a 0)), (1, .int p0), (2, .ref ao)] := hl
  refine lv_aload_n hx hb dL_budget_0 rfl (lv_at hl 2 rfl) ?_
  refine lv_iconst (v := nI 0) hx hb dL_budget_1 (by decide) ?_
  refine lv_aload_n hx hb dL_budget_2 rfl (lv_at hl 0 rfl) ?_
  refine lv_iload_n hx hb dL_budget_3 rfl (lv_at hl 1 rfl) ?_
  refine lh_x (na := 1) (av := [.int p0]) (rest := [.int (nI 0), .ref ao]) hap X hZ Y hM gL_H_budget (by decide +kernel) rfl hrm ⟨Nat.succ_le_succ hR.1, (by have := hR.2; show 8 + (2 + 11) + rm.locals ≤ 160; omega)⟩ ⟨Nat.le_refl 1, Nat.le_refl 6⟩ hl.1 rfl (Nat.le_of_ble_eq_true rfl) dL_budget_4 [] ⟨0, 9, 12, 21⟩ [] htab (fun q hq => by cases hq) (by decide) (by decide) lk_A hZ.2.2.2.2.2.2.2.2.2.2.2.1 (fun H locs q Y => ?_)
  refine lv_astore_n (lv' := (3, .ref q) :: [(0, .ref (a 0)), (1, .int p0), (2, .ref ao)]) hx hb dL_budget_12 rfl hl (by decide) rfl (fun ls hl => ?_)
  refine lv_iconst (v := 1) hx hb dL_budget_13 (by decide) ?_
  exact ret _ _ _ _ _ Y rfl dL_budget_14
