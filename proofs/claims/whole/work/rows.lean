section
-- ===== PART A: goes FIRST, ahead of the names: the tables' words, and 'selects' of the private methods out of them =====
/-- a private method of a class that the tables say can be made, by its rows of tables_1 -/
def lw_okq (q : MethodName × Nat) : Prop := (q.1.cls ≠ "java/lang/invoke/MethodHandle" ∧ q.1.cls ≠ "java/lang/invoke/VarHandle") ∧ Cond.instantiable q.1.cls q.2 ∈ tables_1 ∧ Cond.privateMethod q.1 ∈ tables_1 ∧ Cond.instanceMethod q.1 ∈ tables_1
theorem lw_p0 : lw_okq (⟨"BookmarkHeap", "collectWithin", "()I"⟩, 14) := ⟨⟨by decide +kernel, by decide +kernel⟩, List.mem_of_getElem? (i := 11) (by decide +kernel), List.mem_of_getElem? (i := 71) (by decide +kernel), List.mem_of_getElem? (i := 72) (by decide +kernel)⟩
theorem lw_p1 : lw_okq (⟨"BookmarkHeap", "markKept", "()V"⟩, 14) := ⟨⟨by decide +kernel, by decide +kernel⟩, List.mem_of_getElem? (i := 11) (by decide +kernel), List.mem_of_getElem? (i := 75) (by decide +kernel), List.mem_of_getElem? (i := 76) (by decide +kernel)⟩
theorem lw_p2 : lw_okq (⟨"BookmarkHeap", "keep", "(I)V"⟩, 14) := ⟨⟨by decide +kernel, by decide +kernel⟩, List.mem_of_getElem? (i := 11) (by decide +kernel), List.mem_of_getElem? (i := 79) (by decide +kernel), List.mem_of_getElem? (i := 80) (by decide +kernel)⟩
theorem lw_p3 : lw_okq (⟨"BookmarkHeap", "remove", "(I)V"⟩, 14) := ⟨⟨by decide +kernel, by decide +kernel⟩, List.mem_of_getElem? (i := 11) (by decide +kernel), List.mem_of_getElem? (i := 86) (by decide +kernel), List.mem_of_getElem? (i := 87) (by decide +kernel)⟩
theorem lw_p4 : lw_okq (⟨"BookmarkHeap", "isBare", "(I)Z"⟩, 14) := ⟨⟨by decide +kernel, by decide +kernel⟩, List.mem_of_getElem? (i := 11) (by decide +kernel), List.mem_of_getElem? (i := 90) (by decide +kernel), List.mem_of_getElem? (i := 91) (by decide +kernel)⟩
theorem lw_p5 : lw_okq (⟨"BookmarkHeap", "bringInAll", "()V"⟩, 14) := ⟨⟨by decide +kernel, by decide +kernel⟩, List.mem_of_getElem? (i := 11) (by decide +kernel), List.mem_of_getElem? (i := 101) (by decide +kernel), List.mem_of_getElem? (i := 102) (by decide +kernel)⟩
theorem lw_p6 : lw_okq (⟨"BookmarkHeap", "bringIn", "(I)V"⟩, 14) := ⟨⟨by decide +kernel, by decide +kernel⟩, List.mem_of_getElem? (i := 11) (by decide +kernel), List.mem_of_getElem? (i := 105) (by decide +kernel), List.mem_of_getElem? (i := 106) (by decide +kernel)⟩
theorem lw_p7 : lw_okq (⟨"BookmarkHeap", "refersTo", "(II)Z"⟩, 14) := ⟨⟨by decide +kernel, by decide +kernel⟩, List.mem_of_getElem? (i := 11) (by decide +kernel), List.mem_of_getElem? (i := 109) (by decide +kernel), List.mem_of_getElem? (i := 110) (by decide +kernel)⟩
theorem lw_p8 : lw_okq (⟨"BookmarkHeap", "forgetBookmarksUnlessCounted", "(I)V"⟩, 14) := ⟨⟨by decide +kernel, by decide +kernel⟩, List.mem_of_getElem? (i := 11) (by decide +kernel), List.mem_of_getElem? (i := 113) (by decide +kernel), List.mem_of_getElem? (i := 114) (by decide +kernel)⟩
theorem lw_p9 : lw_okq (⟨"BookmarkHeap", "putOutBeyondBudget", "(I)I"⟩, 14) := ⟨⟨by decide +kernel, by decide +kernel⟩, List.mem_of_getElem? (i := 11) (by decide +kernel), List.mem_of_getElem? (i := 117) (by decide +kernel), List.mem_of_getElem? (i := 118) (by decide +kernel)⟩
theorem lw_p10 : lw_okq (⟨"BookmarkHeap", "pagesIn", "()I"⟩, 14) := ⟨⟨by decide +kernel, by decide +kernel⟩, List.mem_of_getElem? (i := 11) (by decide +kernel), List.mem_of_getElem? (i := 121) (by decide +kernel), List.mem_of_getElem? (i := 122) (by decide +kernel)⟩
theorem lw_p11 : lw_okq (⟨"BookmarkHeap", "choose", "(I)I"⟩, 14) := ⟨⟨by decide +kernel, by decide +kernel⟩, List.mem_of_getElem? (i := 11) (by decide +kernel), List.mem_of_getElem? (i := 125) (by decide +kernel), List.mem_of_getElem? (i := 126) (by decide +kernel)⟩
theorem lw_p12 : lw_okq (⟨"BookmarkHeap", "passes", "(I)Z"⟩, 14) := ⟨⟨by decide +kernel, by decide +kernel⟩, List.mem_of_getElem? (i := 11) (by decide +kernel), List.mem_of_getElem? (i := 129) (by decide +kernel), List.mem_of_getElem? (i := 130) (by decide +kernel)⟩
theorem lw_p13 : lw_okq (⟨"BookmarkHeap", "moveHand", "()V"⟩, 14) := ⟨⟨by decide +kernel, by decide +kernel⟩, List.mem_of_getElem? (i := 11) (by decide +kernel), List.mem_of_getElem? (i := 133) (by decide +kernel), List.mem_of_getElem? (i := 134) (by decide +kernel)⟩
theorem lw_p14 : lw_okq (⟨"BookmarkHeap", "putOut", "(I)V"⟩, 14) := ⟨⟨by decide +kernel, by decide +kernel⟩, List.mem_of_getElem? (i := 11) (by decide +kernel), List.mem_of_getElem? (i := 137) (by decide +kernel), List.mem_of_getElem? (i := 138) (by decide +kernel)⟩
theorem lw_p15 : lw_okq (⟨"BookmarkHeap", "bookmarkAllOf", "(I)V"⟩, 14) := ⟨⟨by decide +kernel, by decide +kernel⟩, List.mem_of_getElem? (i := 11) (by decide +kernel), List.mem_of_getElem? (i := 141) (by decide +kernel), List.mem_of_getElem? (i := 142) (by decide +kernel)⟩
def lw_privs_1 : List (MethodName × Nat) := [(⟨"BookmarkHeap", "collectWithin", "()I"⟩, 14), (⟨"BookmarkHeap", "markKept", "()V"⟩, 14), (⟨"BookmarkHeap", "keep", "(I)V"⟩, 14), (⟨"BookmarkHeap", "remove", "(I)V"⟩, 14), (⟨"BookmarkHeap", "isBare", "(I)Z"⟩, 14), (⟨"BookmarkHeap", "bringInAll", "()V"⟩, 14), (⟨"BookmarkHeap", "bringIn", "(I)V"⟩, 14), (⟨"BookmarkHeap", "refersTo", "(II)Z"⟩, 14), (⟨"BookmarkHeap", "forgetBookmarksUnlessCounted", "(I)V"⟩, 14), (⟨"BookmarkHeap", "putOutBeyondBudget", "(I)I"⟩, 14), (⟨"BookmarkHeap", "pagesIn", "()I"⟩, 14), (⟨"BookmarkHeap", "choose", "(I)I"⟩, 14), (⟨"BookmarkHeap", "passes", "(I)Z"⟩, 14), (⟨"BookmarkHeap", "moveHand", "()V"⟩, 14), (⟨"BookmarkHeap", "putOut", "(I)V"⟩, 14), (⟨"BookmarkHeap", "bookmarkAllOf", "(I)V"⟩, 14)]
theorem lw_r1 : ∀ q ∈ lw_privs_1, lw_okq q := List.forall_mem_cons.mpr ⟨lw_p0, List.forall_mem_cons.mpr ⟨lw_p1, List.forall_mem_cons.mpr ⟨lw_p2, List.forall_mem_cons.mpr ⟨lw_p3, List.forall_mem_cons.mpr ⟨lw_p4, List.forall_mem_cons.mpr ⟨lw_p5, List.forall_mem_cons.mpr ⟨lw_p6, List.forall_mem_cons.mpr ⟨lw_p7, List.forall_mem_cons.mpr ⟨lw_p8, List.forall_mem_cons.mpr ⟨lw_p9, List.forall_mem_cons.mpr ⟨lw_p10, List.forall_mem_cons.mpr ⟨lw_p11, List.forall_mem_cons.mpr ⟨lw_p12, List.forall_mem_cons.mpr ⟨lw_p13, List.forall_mem_cons.mpr ⟨lw_p14, List.forall_mem_cons.mpr ⟨lw_p15, fun _ h => absurd h List.not_mem_nil⟩⟩⟩⟩⟩⟩⟩⟩⟩⟩⟩⟩⟩⟩⟩⟩
theorem lw_p16 : lw_okq (⟨"java/lang/Throwable", "fillInStackTrace", "(I)Ljava/lang/Throwable;"⟩, 6) := ⟨⟨by decide +kernel, by decide +kernel⟩, List.mem_of_getElem? (i := 222) (by decide +kernel), List.mem_of_getElem? (i := 220) (by decide +kernel), List.mem_of_getElem? (i := 221) (by decide +kernel)⟩
theorem lw_p17 : lw_okq (⟨"BookmarkHeap", "takePlace", "(Z)I"⟩, 14) := ⟨⟨by decide +kernel, by decide +kernel⟩, List.mem_of_getElem? (i := 11) (by decide +kernel), List.mem_of_getElem? (i := 252) (by decide +kernel), List.mem_of_getElem? (i := 253) (by decide +kernel)⟩
theorem lw_p18 : lw_okq (⟨"BookmarkHeap", "freePlaceOnPagesIn", "()I"⟩, 14) := ⟨⟨by decide +kernel, by decide +kernel⟩, List.mem_of_getElem? (i := 11) (by decide +kernel), List.mem_of_getElem? (i := 256) (by decide +kernel), List.mem_of_getElem? (i := 257) (by decide +kernel)⟩
theorem lw_p19 : lw_okq (⟨"BookmarkHeap", "placeOnEmptyPage", "()I"⟩, 14) := ⟨⟨by decide +kernel, by decide +kernel⟩, List.mem_of_getElem? (i := 11) (by decide +kernel), List.mem_of_getElem? (i := 260) (by decide +kernel), List.mem_of_getElem? (i := 261) (by decide +kernel)⟩
theorem lw_p20 : lw_okq (⟨"BookmarkHeap", "makeRoomForPage", "()V"⟩, 14) := ⟨⟨by decide +kernel, by decide +kernel⟩, List.mem_of_getElem? (i := 11) (by decide +kernel), List.mem_of_getElem? (i := 264) (by decide +kernel), List.mem_of_getElem? (i := 265) (by decide +kernel)⟩
theorem lw_p21 : lw_okq (⟨"BookmarkHeap", "occupy", "(I)V"⟩, 14) := ⟨⟨by decide +kernel, by decide +kernel⟩, List.mem_of_getElem? (i := 11) (by decide +kernel), List.mem_of_getElem? (i := 268) (by decide +kernel), List.mem_of_getElem? (i := 269) (by decide +kernel)⟩
theorem lw_p22 : lw_okq (⟨"BookmarkHeap", "takePlaceThoroughly", "()I"⟩, 14) := ⟨⟨by decide +kernel, by decide +kernel⟩, List.mem_of_getElem? (i := 11) (by decide +kernel), List.mem_of_getElem? (i := 272) (by decide +kernel), List.mem_of_getElem? (i := 273) (by decide +kernel)⟩
theorem lw_p23 : lw_okq (⟨"BookmarkHeap", "checkHolds", "(I)V"⟩, 14) := ⟨⟨by decide +kernel, by decide +kernel⟩, List.mem_of_getElem? (i := 11) (by decide +kernel), List.mem_of_getElem? (i := 304) (by decide +kernel), List.mem_of_getElem? (i := 305) (by decide +kernel)⟩
theorem lw_p24 : lw_okq (⟨"BookmarkHeap", "touch", "(I)V"⟩, 14) := ⟨⟨by decide +kernel, by decide +kernel⟩, List.mem_of_getElem? (i := 11) (by decide +kernel), List.mem_of_getElem? (i := 324) (by decide +kernel), List.mem_of_getElem? (i := 325) (by decide +kernel)⟩
theorem lw_p25 : lw_okq (⟨"BookmarkHeapModel", "fails", "(I)I"⟩, 12) := ⟨⟨by decide +kernel, by decide +kernel⟩, List.mem_of_getElem? (i := 364) (by decide +kernel), List.mem_of_getElem? (i := 418) (by decide +kernel), List.mem_of_getElem? (i := 419) (by decide +kernel)⟩
theorem lw_p26 : lw_okq (⟨"BookmarkHeapModel", "find", "(Z)I"⟩, 12) := ⟨⟨by decide +kernel, by decide +kernel⟩, List.mem_of_getElem? (i := 364) (by decide +kernel), List.mem_of_getElem? (i := 422) (by decide +kernel), List.mem_of_getElem? (i := 423) (by decide +kernel)⟩
theorem lw_p27 : lw_okq (⟨"BookmarkHeapModel", "freeOnPagesIn", "()I"⟩, 12) := ⟨⟨by decide +kernel, by decide +kernel⟩, List.mem_of_getElem? (i := 364) (by decide +kernel), List.mem_of_getElem? (i := 426) (by decide +kernel), List.mem_of_getElem? (i := 427) (by decide +kernel)⟩
theorem lw_p28 : lw_okq (⟨"BookmarkHeapModel", "pagesIn", "()I"⟩, 12) := ⟨⟨by decide +kernel, by decide +kernel⟩, List.mem_of_getElem? (i := 364) (by decide +kernel), List.mem_of_getElem? (i := 430) (by decide +kernel), List.mem_of_getElem? (i := 431) (by decide +kernel)⟩
theorem lw_p29 : lw_okq (⟨"BookmarkHeapModel", "putOutOne", "(I)V"⟩, 12) := ⟨⟨by decide +kernel, by decide +kernel⟩, List.mem_of_getElem? (i := 364) (by decide +kernel), List.mem_of_getElem? (i := 434) (by decide +kernel), List.mem_of_getElem? (i := 435) (by decide +kernel)⟩
theorem lw_p30 : lw_okq (⟨"BookmarkHeapModel", "choose", "(I)I"⟩, 12) := ⟨⟨by decide +kernel, by decide +kernel⟩, List.mem_of_getElem? (i := 364) (by decide +kernel), List.mem_of_getElem? (i := 438) (by decide +kernel), List.mem_of_getElem? (i := 439) (by decide +kernel)⟩
theorem lw_p31 : lw_okq (⟨"BookmarkHeapModel", "putOut", "(I)V"⟩, 12) := ⟨⟨by decide +kernel, by decide +kernel⟩, List.mem_of_getElem? (i := 364) (by decide +kernel), List.mem_of_getElem? (i := 442) (by decide +kernel), List.mem_of_getElem? (i := 443) (by decide +kernel)⟩
def lw_privs_2 : List (MethodName × Nat) := [(⟨"java/lang/Throwable", "fillInStackTrace", "(I)Ljava/lang/Throwable;"⟩, 6), (⟨"BookmarkHeap", "takePlace", "(Z)I"⟩, 14), (⟨"BookmarkHeap", "freePlaceOnPagesIn", "()I"⟩, 14), (⟨"BookmarkHeap", "placeOnEmptyPage", "()I"⟩, 14), (⟨"BookmarkHeap", "makeRoomForPage", "()V"⟩, 14), (⟨"BookmarkHeap", "occupy", "(I)V"⟩, 14), (⟨"BookmarkHeap", "takePlaceThoroughly", "()I"⟩, 14), (⟨"BookmarkHeap", "checkHolds", "(I)V"⟩, 14), (⟨"BookmarkHeap", "touch", "(I)V"⟩, 14), (⟨"BookmarkHeapModel", "fails", "(I)I"⟩, 12), (⟨"BookmarkHeapModel", "find", "(Z)I"⟩, 12), (⟨"BookmarkHeapModel", "freeOnPagesIn", "()I"⟩, 12), (⟨"BookmarkHeapModel", "pagesIn", "()I"⟩, 12), (⟨"BookmarkHeapModel", "putOutOne", "(I)V"⟩, 12), (⟨"BookmarkHeapModel", "choose", "(I)I"⟩, 12), (⟨"BookmarkHeapModel", "putOut", "(I)V"⟩, 12)]
theorem lw_r2 : ∀ q ∈ lw_privs_2, lw_okq q := List.forall_mem_cons.mpr ⟨lw_p16, List.forall_mem_cons.mpr ⟨lw_p17, List.forall_mem_cons.mpr ⟨lw_p18, List.forall_mem_cons.mpr ⟨lw_p19, List.forall_mem_cons.mpr ⟨lw_p20, List.forall_mem_cons.mpr ⟨lw_p21, List.forall_mem_cons.mpr ⟨lw_p22, List.forall_mem_cons.mpr ⟨lw_p23, List.forall_mem_cons.mpr ⟨lw_p24, List.forall_mem_cons.mpr ⟨lw_p25, List.forall_mem_cons.mpr ⟨lw_p26, List.forall_mem_cons.mpr ⟨lw_p27, List.forall_mem_cons.mpr ⟨lw_p28, List.forall_mem_cons.mpr ⟨lw_p29, List.forall_mem_cons.mpr ⟨lw_p30, List.forall_mem_cons.mpr ⟨lw_p31, fun _ h => absurd h List.not_mem_nil⟩⟩⟩⟩⟩⟩⟩⟩⟩⟩⟩⟩⟩⟩⟩⟩
theorem lw_p32 : lw_okq (⟨"BookmarkHeapModel", "within", "()I"⟩, 12) := ⟨⟨by decide +kernel, by decide +kernel⟩, List.mem_of_getElem? (i := 364) (by decide +kernel), List.mem_of_getElem? (i := 446) (by decide +kernel), List.mem_of_getElem? (i := 447) (by decide +kernel)⟩
theorem lw_p33 : lw_okq (⟨"BookmarkHeapModel", "held", "(I)Z"⟩, 12) := ⟨⟨by decide +kernel, by decide +kernel⟩, List.mem_of_getElem? (i := 364) (by decide +kernel), List.mem_of_getElem? (i := 450) (by decide +kernel), List.mem_of_getElem? (i := 451) (by decide +kernel)⟩
theorem lw_p34 : lw_okq (⟨"BookmarkHeapModel", "all", "()I"⟩, 12) := ⟨⟨by decide +kernel, by decide +kernel⟩, List.mem_of_getElem? (i := 364) (by decide +kernel), List.mem_of_getElem? (i := 454) (by decide +kernel), List.mem_of_getElem? (i := 455) (by decide +kernel)⟩
theorem lw_p35 : lw_okq (⟨"BookmarkHeapModel", "place", "(II)V"⟩, 12) := ⟨⟨by decide +kernel, by decide +kernel⟩, List.mem_of_getElem? (i := 364) (by decide +kernel), List.mem_of_getElem? (i := 458) (by decide +kernel), List.mem_of_getElem? (i := 459) (by decide +kernel)⟩
theorem lw_p36 : lw_okq (⟨"BookmarkHeapModel", "shrink", "(I)I"⟩, 12) := ⟨⟨by decide +kernel, by decide +kernel⟩, List.mem_of_getElem? (i := 364) (by decide +kernel), List.mem_of_getElem? (i := 462) (by decide +kernel), List.mem_of_getElem? (i := 463) (by decide +kernel)⟩
theorem lw_p37 : lw_okq (⟨"BookmarkHeapModel", "touch", "(I)V"⟩, 12) := ⟨⟨by decide +kernel, by decide +kernel⟩, List.mem_of_getElem? (i := 364) (by decide +kernel), List.mem_of_getElem? (i := 470) (by decide +kernel), List.mem_of_getElem? (i := 471) (by decide +kernel)⟩
theorem lw_p38 : lw_okq (⟨"BookmarkHeapModel", "bringIn", "(I)V"⟩, 12) := ⟨⟨by decide +kernel, by decide +kernel⟩, List.mem_of_getElem? (i := 364) (by decide +kernel), List.mem_of_getElem? (i := 474) (by decide +kernel), List.mem_of_getElem? (i := 475) (by decide +kernel)⟩
theorem lw_p39 : lw_okq (⟨"BookmarkHeapModel", "refers", "(II)Z"⟩, 12) := ⟨⟨by decide +kernel, by decide +kernel⟩, List.mem_of_getElem? (i := 364) (by decide +kernel), List.mem_of_getElem? (i := 478) (by decide +kernel), List.mem_of_getElem? (i := 479) (by decide +kernel)⟩
theorem lw_p40 : lw_okq (⟨"BookmarkHeapModel", "counted", "(I)I"⟩, 12) := ⟨⟨by decide +kernel, by decide +kernel⟩, List.mem_of_getElem? (i := 364) (by decide +kernel), List.mem_of_getElem? (i := 482) (by decide +kernel), List.mem_of_getElem? (i := 483) (by decide +kernel)⟩
theorem lw_p41 : lw_okq (⟨"BookmarkHeapModel", "unmark", "(I)V"⟩, 12) := ⟨⟨by decide +kernel, by decide +kernel⟩, List.mem_of_getElem? (i := 364) (by decide +kernel), List.mem_of_getElem? (i := 486) (by decide +kernel), List.mem_of_getElem? (i := 487) (by decide +kernel)⟩
def lw_privs_3 : List (MethodName × Nat) := [(⟨"BookmarkHeapModel", "within", "()I"⟩, 12), (⟨"BookmarkHeapModel", "held", "(I)Z"⟩, 12), (⟨"BookmarkHeapModel", "all", "()I"⟩, 12), (⟨"BookmarkHeapModel", "place", "(II)V"⟩, 12), (⟨"BookmarkHeapModel", "shrink", "(I)I"⟩, 12), (⟨"BookmarkHeapModel", "touch", "(I)V"⟩, 12), (⟨"BookmarkHeapModel", "bringIn", "(I)V"⟩, 12), (⟨"BookmarkHeapModel", "refers", "(II)Z"⟩, 12), (⟨"BookmarkHeapModel", "counted", "(I)I"⟩, 12), (⟨"BookmarkHeapModel", "unmark", "(I)V"⟩, 12)]
theorem lw_r3 : ∀ q ∈ lw_privs_3, lw_okq q := List.forall_mem_cons.mpr ⟨lw_p32, List.forall_mem_cons.mpr ⟨lw_p33, List.forall_mem_cons.mpr ⟨lw_p34, List.forall_mem_cons.mpr ⟨lw_p35, List.forall_mem_cons.mpr ⟨lw_p36, List.forall_mem_cons.mpr ⟨lw_p37, List.forall_mem_cons.mpr ⟨lw_p38, List.forall_mem_cons.mpr ⟨lw_p39, List.forall_mem_cons.mpr ⟨lw_p40, List.forall_mem_cons.mpr ⟨lw_p41, fun _ h => absurd h List.not_mem_nil⟩⟩⟩⟩⟩⟩⟩⟩⟩⟩
def lw_privs : List (MethodName × Nat) := lw_privs_1 ++ (lw_privs_2 ++ (lw_privs_3))
def lw_tbl : List Cond := k2_sels lw_privs ++ tables_1
theorem lw_privs_ok : ∀ q ∈ lw_privs, lw_okq q := by
  show ∀ q ∈ lw_privs_1 ++ (lw_privs_2 ++ (lw_privs_3)), lw_okq q
  exact List.forall_mem_append.mpr ⟨lw_r1, List.forall_mem_append.mpr ⟨lw_r2, lw_r3⟩⟩
end
section
/-! ===== BEGIN words of one list among another's, by their places ===== -/
theorem goodIn_r {big : List Cond} (ws : List Cond) (ps : List Nat) (hp : ws = ps.filterMap (fun i => big[i]?)) (h : ws.all goodWord = true) : GoodIn big ws := by
  intro w hw
  have h1 := List.all_eq_true.mp h w hw
  rw [hp] at hw
  obtain ⟨i, -, hi⟩ := List.mem_filterMap.mp hw
  have hm : w ∈ big := by first | exact List.mem_of_getElem? hi | exact List.getElem?_mem hi
  exact ⟨hm, good_of_word h1⟩
theorem goodIn_app {big a b : List Cond} (ha : GoodIn big a) (hb : GoodIn big b) : GoodIn big (a ++ b) := fun w h => (List.mem_append.mp h).elim (ha w) (hb w)
theorem goodIn_ca {big a b : List Cond} {c : Cond} (ha : GoodIn big (c :: a)) (hb : GoodIn big b) : GoodIn big (c :: (a ++ b)) := fun w h => (List.mem_cons.mp h).elim (fun e => ha w (List.mem_cons.mpr (Or.inl e))) (fun h => (List.mem_append.mp h).elim (fun h => ha w (List.mem_cons.mpr (Or.inr h))) (hb w))
theorem goodIn_sub {big ws : List Cond} (hm : ∀ w ∈ ws, w ∈ big) (h : ws.all goodWord = true) : GoodIn big ws := fun w hw => ⟨hm w hw, good_of_word (List.all_eq_true.mp h w hw)⟩
/-! ===== END ===== -/

/-! ===== BEGIN exceptions that leave a method, and their catching by the caller (launches without stack traces) ===== -/
section VXA
/-! The laws vx_back, vx_callV, vx_callS, vx_callSW, vx_throw0, vx_throwS follow proofs of the library, with one case more: JvmDerived/Free/Laws.lean (Back.of_free), Shelf42/LK1.lean (callV, callS), Shelf/KitTraced.lean (throwNew0V, throwNewS). -/
/-- where a method has thrown q: the class by its name, the cell, what was written, the world -/
def vx_T (XC : String → State → State → Prop) (st : State) (q : Addr) (t : State) (mc ms : Nat) (free : Addr → Prop) : Prop :=
  ∃ (E : String) (ce : Cell) (L : List Loc), XC E st t ∧ t.heap[q]? = some ce ∧ ce.vm = .none ∧ st.vm.findClass E = some ce.cls ∧ st.WarmedH t.vm ∧ st.sameButNew ({ t with vm := st.vm } : State) L mc ms ∧ ∀ z ∈ L, free z.base
def vx_Q (Qc : Array Value → State → Outcome → State → Prop) (XC : String → State → State → Prop) (mc ms : Nat) (free : Addr → Prop) : Array Value → State → Outcome → State → Prop := fun a st o t =>
  (Qc a st o t ∧ ∃ L, FrameEnd st o t L mc ms ∧ ∀ q ∈ L, free q.base) ∨ ∃ q, o = .threw q ∧ vx_T XC st q t mc ms free
/-- a callee that returns or throws -/
def vx_Met (l : Launch) (y : MethodName) (ws : List Cond) (rm : Room) (Pc : Array Value → State → Prop) (Qc : Array Value → State → Outcome → State → Prop) (XC : String → State → State → Prop) (mc ms : Nat) (free : Addr → Prop) : Prop :=
  MetFree l y (headSpec ws rm) Pc (fun _ _ _ _ _ => True) (vx_Q Qc XC mc ms free)
def vx_Post (XC : String → State → State → Prop) (mc ms : Nat) (free : Addr → Prop) : Pt → Array Value → Addr → Pt → Prop := fun A a q B =>
  ∃ (g : JFrame) (mk : MethodId) (t : State) (L : List Loc) (E : String) (ce : Cell), B.U.heap = t.heap ∧ B.U.vm = t.vm ∧ XC E (A.U.calling g mk a) t ∧ t.heap[q]? = some ce ∧ ce.vm = .none ∧ A.U.vm.findClass E = some ce.cls ∧ B.locs = A.locs ++ L ∧ (∀ z ∈ L, free z.base) ∧ B.cells = A.cells + mc ∧ B.slots = A.slots + ms
def vx_Back (l : Launch) (R : Room) (p : Program) (e : Env) (below : List Frame) (s : State) (sargs : Array Value) (y : MethodName) (len W9 : Nat)
    (Pre : Pt → Array Value → Prop) (Post : Pt → Array Value → Option Value → Pt → Prop) (PostX : Pt → Array Value → Addr → Pt → Prop) : Prop :=
  ∀ (m : MethodId) (meth : Method) (c : Code) (A : Pt) (g : JFrame) (ig : Instr) (mk : MethodId) (a : Array Value),
    Stand p l e R s m sargs below meth c A.U A.locs A.cells A.slots → g.method = m → g.locals.size = c.maxLocals → decode c.code g.pc = .ok (ig, len) →
    2 * g.monitorRoom + (g.stack.map fun v => v.category).sum ≤ W9 → A.U.methodNamed? y = some mk → Pre A a →
    (∃ (v : Option Value) (B : Pt), Stand p l e R s m sargs below meth c B.U B.locs B.cells B.slots ∧ Post A a v B ∧
      Steps p.tables e below (doInvoke e (A.U.setTop g) [] mk a).1 (B.U.setTop { g with pc := g.pc + len, stack := v.toList ++ g.stack })) ∨
    (∃ (q : Addr) (B : Pt), Stand p l e R s m sargs below meth c B.U B.locs B.cells B.slots ∧ PostX A a q B ∧
      Steps p.tables e below (doInvoke e (A.U.setTop g) [] mk a).1 ((B.U.setTop g).pushFrame (.throwing q)))
section Payer
variable {l : Launch} {R : Room} {p : Program} {e : Env} {below : List Frame} {s : State} {sargs : Array Value} {y : MethodName} {len W9 : Nat}
theorem vx_back {ws : List Cond} {rm : Room} {Pc : Array Value → State → Prop} {Qc : Array Value → State → Outcome → State → Prop} {XC : String → State → State → Prop} {mc ms : Nat} {free : Addr → Prop} {bytes : ByteArray} {maxL : Nat} {ret : Option FieldType}
    (hM : vx_Met l y ws rm Pc Qc XC mc ms free) (hblind : FrameBlind Pc) (hrc : rm.cells = mc) (hrs : rm.slots = ms)
    (hframes : rm.frames + 1 ≤ R.frames) (hlocals : W9 + (maxL + 11) + rm.locals ≤ R.locals)
    (hws : ∀ w ∈ ws, ∀ a' U, s.WarmedH U.vm → w.before a' U = true) (hcode : Cond.code y bytes maxL ret ∈ ws) (hinit : ∀ a' U, s.WarmedH U.vm → (Cond.initialized y.cls).before a' U = true) :
    vx_Back l R p e below s sargs y len W9 (PreOf R mc ms Pc) (PostOf Qc mc ms free) (vx_Post XC mc ms free) := by
  intro m meth c A g ig mk a X hg hsize hdg hW hn hp
  have h1 : (headSpec ws rm).pre.before a A.U = true := atoms_intro fun w hw => hws w hw _ _ X.warmed
  have h2 : (Cond.code y bytes maxL ret).before a A.U = true := hws _ hcode _ _ X.warmed
  have h3 : (Cond.initialized y.cls).before a A.U = true := hinit _ _ X.warmed
  have h4 : A.cells + (headSpec ws rm).room.cells ≤ R.cells := by rw [show (headSpec ws rm).room.cells = mc from hrc]; exact hp.1
  have h5 : A.slots + (headSpec ws rm).room.slots ≤ R.slots := by rw [show (headSpec ws rm).room.slots = ms from hrs]; exact hp.2.1
  have hPc : Pc a (A.U.calling g mk a) := hblind _ _ _ _ hp.2.2
  obtain ⟨U, Ls, c0, s0⟩ := A
  dsimp only [Pt.U, Pt.locs, Pt.cells, Pt.slots] at h1 h2 h3 h4 h5 X hn hPc ⊢
  obtain ⟨methY, cY, hmY, hcY, -, hlY, -, -, -, -⟩ := Cond.code_spec hn h2
  obtain ⟨kY, hkY, -⟩ := className_of_methodNamed hn
  have hinitY : kY.init = .initialized := Cond.initialized_spec (findClass_of_methodNamed hn) hkY h3
  have h : At U g.method c below := by rw [hg]; exact X.here
  have hlocals9 : W9 + (maxL + 11) + (headSpec ws rm).room.locals ≤ R.locals := hlocals
  have happ : (headSpec ws rm).appliesLoose y e.platform (U.calling g mk a) = true :=
    Spec.appliesLoose_calling (g := g) h hdg hn hkY hinitY
      (X.room_calling (g := g) (R' := (headSpec ws rm).room) hsize hmY hcY hframes (by rw [hlY]; omega) h4 h5) h1
  obtain ⟨mid, hmid⟩ := h.above
  have hfr : (U.setTop g).frames = (.java g :: mid) ++ below := by rw [State.frames_setTop' g h.top, hmid]; rfl
  obtain ⟨o, s₂, hsteps, -, hend, hq⟩ := Steps.callFree hM p X.admits X.cas X.clock (acts := []) hfr happ hPc trivial
  have hq' : vx_Q Qc XC mc ms free a (U.calling g mk a) o s₂ := hq
  rw [State.frames_setTop' g h.top] at hend
  obtain ⟨g₀, hg0⟩ := Option.isSome_iff_exists.mp h.top
  obtain ⟨r, hr⟩ := State.topJava?_eq_some.mp hg0
  have hr' : (({ U with heap := s₂.heap, slotsUsed := s₂.slotsUsed } : State).setVm s₂.vm).frames = .java g₀ :: r := hr
  rcases hq' with ⟨hqc, L, hfe, hL⟩ | ⟨q, rfl, E, ce, L, hx, hce, hcv, hcl, hW₂, hsm, hL⟩
  · obtain ⟨⟨v, rfl⟩, hW₂, e2, q2, q3, q4, q5, q6⟩ := id hfe
    have e3 : s₂ = ({ (U.calling g mk a).setFrames s₂.frames with heap := s₂.heap, slotsUsed := s₂.slotsUsed } : State).setVm s₂.vm := by
      have : s₂ = ({ s₂ with vm := (U.calling g mk a).vm } : State).setVm s₂.vm := rfl
      rw [e2] at this
      exact this
    obtain ⟨c₂, i₂, len₂, hc₂, hd₂, hf₂⟩ := hend
    have hW' : U.WarmedH s₂.vm := hW₂
    have hcc : c₂ = c := by
      have h1 : s₂.code? g.method = U.code? g.method := by
        rw [State.code?_eq, State.code?_eq, hW'.alike.method?]
      exact Option.some.inj (hc₂.symm.trans (h1.trans h.code))
    subst hcc
    have hlen : len₂ = len := by rw [hdg] at hd₂; cases hd₂; rfl
    subst hlen
    have hs₂ : s₂ = (({ U with heap := s₂.heap, slotsUsed := s₂.slotsUsed } : State).setVm s₂.vm).setTop { g with pc := g.pc + len₂, stack := v.toList ++ g.stack } := by
      refine e3.trans ?_
      rw [hf₂, State.calling_eq h.top, State.setFrames_setFrames, State.setTop_of_frames _ hr', hr]
      rfl
    have hsame : U.sameButNew ({ U with heap := s₂.heap, slotsUsed := s₂.slotsUsed } : State) L mc ms := by
      refine ⟨?_, q2, q3, q4, q5, q6⟩
      obtain ⟨t, ht, -⟩ := State.frames_cons hr
      show ({ U with heap := s₂.heap, slotsUsed := s₂.slotsUsed } : State) = { U.setFrames U.frames with heap := s₂.heap, slotsUsed := s₂.slotsUsed }
      rw [State.setFrames_self ht]
    subst hg
    refine Or.inl ⟨v, ⟨(({ U with heap := s₂.heap, slotsUsed := s₂.slotsUsed } : State).setVm s₂.vm), Ls ++ L, c0 + mc, s0 + ms⟩,
      ⟨X.admits, X.cas, X.clock, X.frames, X.room, X.hears, X.method, X.code, (X.here.setHeapUsed s₂.heap s₂.slotsUsed).setVm hW'.alike, X.tail, State.WarmedH.trans X.warmed hW', X.limits, X.bytes, X.same.trans (hsame.setVm s.vm)⟩,
      ⟨g, mk, s₂, L, rfl, rfl, hqc, rfl, hL, rfl, rfl⟩, ?_⟩
    show Steps p.tables e below _ ((({ U with heap := s₂.heap, slotsUsed := s₂.slotsUsed } : State).setVm s₂.vm).setTop { g with pc := g.pc + len₂, stack := v.toList ++ g.stack })
    rw [← hs₂]
    exact hsteps
  · obtain ⟨e2, q2, q3, q4, q5, q6⟩ := id hsm
    have e3 : s₂ = ({ (U.calling g mk a).setFrames s₂.frames with heap := s₂.heap, slotsUsed := s₂.slotsUsed } : State).setVm s₂.vm := by
      have : s₂ = ({ s₂ with vm := (U.calling g mk a).vm } : State).setVm s₂.vm := rfl
      rw [e2] at this
      exact this
    have hf₂ : s₂.frames = .throwing q :: .java g :: U.frames.tail := hend
    have hW' : U.WarmedH s₂.vm := hW₂
    have hs₂ : s₂ = ((({ U with heap := s₂.heap, slotsUsed := s₂.slotsUsed } : State).setVm s₂.vm).setTop g).pushFrame (.throwing q) := by
      refine e3.trans ?_
      rw [hf₂, State.calling_eq h.top, State.setFrames_setFrames, State.pushFrame, State.frames_setTop _ hr', State.setTop_of_frames _ hr', State.setFrames_setFrames, hr]
      rfl
    have hsame : U.sameButNew ({ U with heap := s₂.heap, slotsUsed := s₂.slotsUsed } : State) L mc ms := by
      refine ⟨?_, q2, q3, q4, q5, q6⟩
      obtain ⟨t, ht, -⟩ := State.frames_cons hr
      show ({ U with heap := s₂.heap, slotsUsed := s₂.slotsUsed } : State) = { U.setFrames U.frames with heap := s₂.heap, slotsUsed := s₂.slotsUsed }
      rw [State.setFrames_self ht]
    subst hg
    refine Or.inr ⟨q, ⟨(({ U with heap := s₂.heap, slotsUsed := s₂.slotsUsed } : State).setVm s₂.vm), Ls ++ L, c0 + mc, s0 + ms⟩,
      ⟨X.admits, X.cas, X.clock, X.frames, X.room, X.hears, X.method, X.code, (X.here.setHeapUsed s₂.heap s₂.slotsUsed).setVm hW'.alike, X.tail, State.WarmedH.trans X.warmed hW', X.limits, X.bytes, X.same.trans (hsame.setVm s.vm)⟩,
      ⟨g, mk, s₂, L, E, ce, rfl, rfl, hx, hce, hcv, hcl, rfl, hL, rfl, rfl⟩, ?_⟩
    show Steps p.tables e below _ (((({ U with heap := s₂.heap, slotsUsed := s₂.slotsUsed } : State).setVm s₂.vm).setTop g).pushFrame (.throwing q))
    rw [← hs₂]
    exact hsteps
end Payer
section Calls
variable {p : Program} {l : Launch} {e : Env} {R : Room} {s : State} {m : MethodId} {args : Array Value} {below : List Frame} {meth : Method} {c : Code} {T : State} {locs : List Loc} {cells slots : Nat}
theorem vx_callV (X : Stand p l e R s m args below meth c T locs cells slots) (hexec : p.tables.exec = Jvm.exec) {own C : String} {index : Nat} {y : MethodName} {bytes : ByteArray} {maxL : Nat} {ret : Option FieldType}
    (hown : s.vm.findClass own = some m.cls) (hlink : (Cond.methodLink own index y).before args s = true) (hinst : (Cond.instanceMethod y).before args s = true) (hsel : (Cond.selects C y y).before args s = true)
    (hcode : (Cond.code y bytes maxL ret).before args s = true) (hy : y.cls ≠ "java/lang/invoke/MethodHandle" ∧ y.cls ≠ "java/lang/invoke/VarHandle")
    {W9 : Nat} {Pre : Pt → Array Value → Prop} {Post : Pt → Array Value → Option Value → Pt → Prop} {PostX : Pt → Array Value → Addr → Pt → Prop} (hK : vx_Back l R p e below s args y 3 W9 Pre Post PostX)
    {b : Addr} {cellB : Cell} (hcell : T.heap[b]? = some cellB) (hobj : cellB.vm.isStatics = false) (hcls : s.vm.findClass C = some cellB.cls)
    {g : JFrame} (hg : g.method = m) (hsize : g.locals.size = c.maxLocals) {argsL rest : List Value} (hlen : ∀ sig, parseMethodDescriptor y.desc = some sig → argsL.length = sig.parameters.length)
    (hstack : g.stack = argsL.reverse ++ .ref b :: rest) (hW : 2 * g.monitorRoom + (rest.map fun v => v.category).sum ≤ W9) (hdg : decode c.code g.pc = .ok (.invokevirtual index, 3))
    (hpre : ∀ vm₁, s.WarmedH vm₁ → Pre ⟨T.setVm vm₁, locs, cells, slots⟩ (Value.ref b :: argsL).toArray) :
    (∃ (v : Option Value) (vm₁ : Vm) (B : Pt), s.WarmedH vm₁ ∧ Stand p l e R s m args below meth c B.U B.locs B.cells B.slots ∧ Post ⟨T.setVm vm₁, locs, cells, slots⟩ (Value.ref b :: argsL).toArray v B ∧
      ∀ target, Steps p.tables e below (B.U.setTop { g with pc := g.pc + 3, stack := v.toList ++ rest }) target → Steps p.tables e below (T.setTop g) target) ∨
    (∃ (q : Addr) (vm₁ : Vm) (B : Pt), s.WarmedH vm₁ ∧ Stand p l e R s m args below meth c B.U B.locs B.cells B.slots ∧ PostX ⟨T.setVm vm₁, locs, cells, slots⟩ (Value.ref b :: argsL).toArray q B ∧
      Steps p.tables e below (T.setTop g) ((B.U.setTop { g with stack := rest }).pushFrame (.throwing q))) := by
  obtain ⟨mk, methM, hnamed, hmethM, hstM, habM⟩ := Cond.instanceMethod_spec hinst
  obtain ⟨methM', cM, hmethM', -, -, -, -, -, -, hsigM⟩ := Cond.code_spec hnamed hcode
  cases hmethM.symm.trans hmethM'
  obtain ⟨c2, r2, m2, q1, q2, q3, q4, kP, hkP, hkPi⟩ := Cond.selects_spec hsel
  cases hcls.symm.trans q1
  cases (State.methodFound?_of_named hnamed hy).symm.trans q2
  cases hnamed.symm.trans q3
  have hselP : selectMethod e.platform s.vm cellB.cls mk = .method mk := by rw [Launch.admits_selectMethod X.admits]; exact q4
  obtain ⟨vm₁, X₁, hstep₁⟩ := X.invokevirtual hexec hown hlink hnamed hmethM hstM hkP hkPi hy (a := b) (cell := cellB) hcell
    (fun z h => by rw [h] at hobj; cases hobj) hselP hmethM habM hkP hkPi (g := g) hg (argsL := argsL) (rest := rest) (hlen _ hsigM) hstack hdg
  rcases hK m meth c ⟨T.setVm vm₁, locs, cells, slots⟩ { g with stack := rest } (.invokevirtual index) mk (Value.ref b :: argsL).toArray X₁ hg hsize hdg hW (X₁.named hnamed) (hpre vm₁ X₁.warmed) with ⟨v, B, X', hpost, hsteps⟩ | ⟨q, B, X', hpost, hsteps⟩
  · exact Or.inl ⟨v, vm₁, B, X₁.warmed, X', hpost, fun target h => hstep₁ _ fun acts => by rw [doInvoke_state]; exact hsteps.trans h⟩
  · exact Or.inr ⟨q, vm₁, B, X₁.warmed, X', hpost, hstep₁ _ fun acts => by rw [doInvoke_state]; exact hsteps⟩
theorem vx_callS (X : Stand p l e R s m args below meth c T locs cells slots) (hexec : p.tables.exec = Jvm.exec) {own : String} {index : Nat} {y : MethodName} {bytes : ByteArray} {maxL : Nat} {ret : Option FieldType}
    (hown : s.vm.findClass own = some m.cls) (hlink : (Cond.methodLink own index y).before args s = true) (hstat : (Cond.static y).before args s = true) (hinit : (Cond.initialized y.cls).before args s = true)
    (hcode : (Cond.code y bytes maxL ret).before args s = true) (hy : y.cls ≠ "java/lang/invoke/MethodHandle" ∧ y.cls ≠ "java/lang/invoke/VarHandle")
    {W9 : Nat} {Pre : Pt → Array Value → Prop} {Post : Pt → Array Value → Option Value → Pt → Prop} {PostX : Pt → Array Value → Addr → Pt → Prop} (hK : vx_Back l R p e below s args y 3 W9 Pre Post PostX)
    {g : JFrame} (hg : g.method = m) (hsize : g.locals.size = c.maxLocals) {argsL rest : List Value} (hlen : ∀ sig, parseMethodDescriptor y.desc = some sig → argsL.length = sig.parameters.length)
    (hstack : g.stack = argsL.reverse ++ rest) (hW : 2 * g.monitorRoom + (rest.map fun v => v.category).sum ≤ W9) (hdg : decode c.code g.pc = .ok (.invokestatic index, 3))
    (hpre : ∀ vm₁, s.WarmedH vm₁ → Pre ⟨T.setVm vm₁, locs, cells, slots⟩ argsL.toArray) :
    (∃ (v : Option Value) (vm₁ : Vm) (B : Pt), s.WarmedH vm₁ ∧ Stand p l e R s m args below meth c B.U B.locs B.cells B.slots ∧ Post ⟨T.setVm vm₁, locs, cells, slots⟩ argsL.toArray v B ∧
      ∀ target, Steps p.tables e below (B.U.setTop { g with pc := g.pc + 3, stack := v.toList ++ rest }) target → Steps p.tables e below (T.setTop g) target) ∨
    (∃ (q : Addr) (vm₁ : Vm) (B : Pt), s.WarmedH vm₁ ∧ Stand p l e R s m args below meth c B.U B.locs B.cells B.slots ∧ PostX ⟨T.setVm vm₁, locs, cells, slots⟩ argsL.toArray q B ∧
      Steps p.tables e below (T.setTop g) ((B.U.setTop { g with stack := rest }).pushFrame (.throwing q))) := by
  obtain ⟨mk, hnamed⟩ := Cond.code_named hcode
  obtain ⟨methM, cM, hmethM, -, -, -, -, -, -, hsigM⟩ := Cond.code_spec hnamed hcode
  have hstatic : methM.isStatic = true := Cond.static_spec hnamed hmethM hstat
  obtain ⟨kP, hkP, -⟩ := className_of_methodNamed hnamed
  have hinitP : kP.init = .initialized := Cond.initialized_spec (findClass_of_methodNamed hnamed) hkP hinit
  obtain ⟨vm₁, X₁, hstep₁⟩ := X.invokestatic hexec hown hlink hnamed hmethM hstatic hkP hinitP hy (g := g) hg (argsL := argsL) (rest := rest) (hlen _ hsigM) hstack hdg
  rcases hK m meth c ⟨T.setVm vm₁, locs, cells, slots⟩ { g with stack := rest } (.invokestatic index) mk argsL.toArray X₁ hg hsize hdg hW (X₁.named hnamed) (hpre vm₁ X₁.warmed) with ⟨v, B, X', hpost, hsteps⟩ | ⟨q, B, X', hpost, hsteps⟩
  · exact Or.inl ⟨v, vm₁, B, X₁.warmed, X', hpost, fun target h => hstep₁ _ fun acts => by rw [doInvoke_state]; exact hsteps.trans h⟩
  · exact Or.inr ⟨q, vm₁, B, X₁.warmed, X', hpost, hstep₁ _ fun acts => by rw [doInvoke_state]; exact hsteps⟩
end Calls
theorem vx_cls {s : State} {T : State} {vm₁ : Vm} {E : String} {k : ClassId} (hW : s.WarmedH vm₁) (h : (T.setVm vm₁).vm.findClass E = some k) : s.vm.findClass E = some k := by
  have h1 : vm₁.findClass E = some k := h
  rw [hW.alike.findClass] at h1
  exact h1
/-- the method's frame g, with q thrown over it -/
def vx_W (p : Program) (l : Launch) (e : Env) (R : Room) (s : State) (m : MethodId) (args : Array Value) (below : List Frame) (meth : Method) (c : Code) (H : Heap) (locs : List Loc) (cells slots : Nat) (Q : State → Prop) (g : JFrame) (q : Addr) : Prop :=
  ∀ T : State, T.heap = H → Stand p l e R s m args below meth c T locs cells slots → ∃ t, Steps p.tables e below ((T.setTop g).pushFrame (.throwing q)) t ∧ Q t
def vx_Run (p : Program) (l : Launch) (e : Env) (R : Room) (s : State) (m : MethodId) (args : Array Value) (below : List Frame) (meth : Method) (c : Code) (H : Heap) (locs : List Loc) (cells slots mc ms : Nat) (g : JFrame) (rest : List Value) (Qa : State → Outcome → State → Prop) (XC : String → State → State → Prop) (free : Addr → Prop) : Prop :=
  ∀ T : State, T.heap = H → Stand p l e R s m args below meth c T locs cells slots →
    (∃ (v : Option Value) (st₀ t T' : State) (L : List Loc), st₀.heap = H ∧ Stand p l e R s m args below meth c T' (locs ++ L) (cells + mc) (slots + ms) ∧ (∀ q ∈ L, free q.base) ∧ T'.heap = t.heap ∧ T'.vm = t.vm ∧ Qa st₀ (.returned v) t ∧
      Goes p e below T g T' { g with pc := g.pc + 3, stack := v.toList ++ rest }) ∨
    (∃ (q : Addr) (st₀ t T' : State) (L : List Loc) (E : String) (ce : Cell), st₀.heap = H ∧ Stand p l e R s m args below meth c T' (locs ++ L) (cells + mc) (slots + ms) ∧ (∀ z ∈ L, free z.base) ∧ T'.heap = t.heap ∧ T'.vm = t.vm ∧ XC E st₀ t ∧ t.heap[q]? = some ce ∧ ce.vm = .none ∧ s.vm.findClass E = some ce.cls ∧
      Steps p.tables e below (T.setTop g) ((T'.setTop { g with stack := rest }).pushFrame (.throwing q)))
def vx_X {S : Type} (px : S → Prop) (B : String → S → State → Prop) (A : Nat → Prop) : String → State → State → Prop := fun E st t => ∃ u : S, px u ∧ B E u t ∧ va_F A st t
section Runs
variable {p : Program} {l : Launch} {e : Env} {R : Room} {s : State} {m : MethodId} {args : Array Value} {below : List Frame} {meth : Method} {c : Code} {H : Heap} {locs : List Loc} {cells slots : Nat}
variable {y : MethodName} {bytes cc : ByteArray} {maxL nL mc ms n index : Nat} {ret : Option FieldType} {ws : List Cond} {rm : Room} {Pc : Array Value → State → Prop} {Qc : Array Value → State → Outcome → State → Prop} {XC : String → State → State → Prop} {free : Addr → Prop} {Ts : List Cond} {own C : String} {b : Addr} {As rest : List Value} {g : JFrame}
theorem vx_callBack (cb : CallB R s args own index y bytes maxL ret ws rm mc ms n) (hM : vx_Met l y ws rm Pc Qc XC mc ms free) (hbl : FrameBlind Pc) : vx_Back l R p e below s args y 3 8 (PreOf R mc ms Pc) (PostOf Qc mc ms free) (vx_Post XC mc ms free) := by
  obtain ⟨hrc, hrs, hfr, hlo, hws, hcw, -, hini, -⟩ := cb
  exact vx_back (bytes := bytes) (maxL := maxL) (ret := ret) hM hbl hrc hrs hfr hlo hws hcw (fun a' U hW => word_at hW (Or.inl (by first | rfl | simp [Cond.onTables, Cond.keeps, Cond.steady])) hini)
theorem vx_runV (S : CallFix p m c cc nL s args Ts own) (hM : vx_Met l y ws rm Pc Qc XC mc ms free) (cw : CallW R s args own C index y bytes maxL ret ws rm mc ms n) (hp : PreV s H C b Pc As)
    (hg : g.method = m) (hn : As.length = n) (hsize : g.locals.size = nL) (hstack : g.stack = As.reverse ++ .ref b :: rest) (hW : 2 * g.monitorRoom + (rest.map fun v => v.category).sum ≤ 8) (hdg : decode cc g.pc = .ok (.invokevirtual index, 3)) (hf : cells + mc ≤ R.cells ∧ slots + ms ≤ R.slots) :
    vx_Run p l e R s m args below meth c H locs cells slots mc ms g rest (Qc (Value.ref b :: As).toArray) XC free := by
  have hK : vx_Back l R p e below s args y 3 8 (PreOf R mc ms Pc) (PostOf Qc mc ms free) (vx_Post XC mc ms free) := vx_callBack cw.1 hM hp.1
  obtain ⟨⟨-, -, -, -, -, -, hcode, -, hy, hlen, hl⟩, hin, hse⟩ := cw
  obtain ⟨hx, hb, hml, ho, -⟩ := S
  obtain ⟨-, ⟨cellB, hcB, hoB, hclB⟩, hPc⟩ := hp
  intro T hT X
  rcases vx_callV X hx (C := C) (bytes := bytes) (maxL := maxL) (ret := ret) ho hl hin hse hcode hy hK (by rw [hT]; exact hcB) hoB hclB hg (hsize.trans hml.symm) (argsL := As) (rest := rest) (fun sig h => hn.trans (hlen sig h)) hstack hW (by rw [hb]; exact hdg)
    (fun vm₁ hW₁ => ⟨hf.1, hf.2, hPc (T.setVm vm₁) hT hW₁⟩) with ⟨v, vm₁, ⟨U', l2, c2, s2⟩, hW₁, X', ⟨g', mk, t, L, e1, e2, hq, h1, hL, h2, h3⟩, st⟩ | ⟨q, vm₁, ⟨U', l2, c2, s2⟩, hW₁, X', ⟨g', mk, t, L, E, ce, e1, e2, hq, hce, hcv, hcl, h1, hL, h2, h3⟩, st⟩
  · dsimp only [Pt.U, Pt.locs, Pt.cells, Pt.slots] at X' e1 e2 h1 h2 h3 st
    subst h1; subst h2; subst h3
    exact Or.inl ⟨v, (T.setVm vm₁).calling g' mk (Value.ref b :: As).toArray, t, U', L, hT, X', hL, e1, e2, hq, st⟩
  · dsimp only [Pt.U, Pt.locs, Pt.cells, Pt.slots] at X' e1 e2 h1 h2 h3 st hcl
    subst h1; subst h2; subst h3
    exact Or.inr ⟨q, (T.setVm vm₁).calling g' mk (Value.ref b :: As).toArray, t, U', L, E, ce, hT, X', hL, e1, e2, hq, hce, hcv, vx_cls hW₁ hcl, st⟩
theorem vx_runS (S : CallFix p m c cc nL s args Ts own) (hM : vx_Met l y ws rm Pc Qc XC mc ms free) (cw : CallB R s args own index y bytes maxL ret ws rm mc ms n ∧ (Cond.static y).before args s = true) (hp : PreS s H Pc As)
    (hg : g.method = m) (hn : As.length = n) (hsize : g.locals.size = nL) (hstack : g.stack = As.reverse ++ rest) (hW : 2 * g.monitorRoom + (rest.map fun v => v.category).sum ≤ 8) (hdg : decode cc g.pc = .ok (.invokestatic index, 3)) (hf : cells + mc ≤ R.cells ∧ slots + ms ≤ R.slots) :
    vx_Run p l e R s m args below meth c H locs cells slots mc ms g rest (Qc As.toArray) XC free := by
  have hK : vx_Back l R p e below s args y 3 8 (PreOf R mc ms Pc) (PostOf Qc mc ms free) (vx_Post XC mc ms free) := vx_callBack cw.1 hM hp.1
  obtain ⟨⟨-, -, -, -, -, -, hcode, hini, hy, hlen, hl⟩, hstt⟩ := cw
  obtain ⟨hx, hb, hml, ho, -⟩ := S
  intro T hT X
  rcases vx_callS X hx (bytes := bytes) (maxL := maxL) (ret := ret) ho hl hstt hini hcode hy hK hg (hsize.trans hml.symm) (argsL := As) (rest := rest) (fun sig h => hn.trans (hlen sig h)) hstack hW (by rw [hb]; exact hdg)
    (fun vm₁ hW₁ => ⟨hf.1, hf.2, hp.2 (T.setVm vm₁) hT hW₁⟩) with ⟨v, vm₁, ⟨U', l2, c2, s2⟩, hW₁, X', ⟨g', mk, t, L, e1, e2, hq, h1, hL, h2, h3⟩, st⟩ | ⟨q, vm₁, ⟨U', l2, c2, s2⟩, hW₁, X', ⟨g', mk, t, L, E, ce, e1, e2, hq, hce, hcv, hcl, h1, hL, h2, h3⟩, st⟩
  · dsimp only [Pt.U, Pt.locs, Pt.cells, Pt.slots] at X' e1 e2 h1 h2 h3 st
    subst h1; subst h2; subst h3
    exact Or.inl ⟨v, (T.setVm vm₁).calling g' mk As.toArray, t, U', L, hT, X', hL, e1, e2, hq, st⟩
  · dsimp only [Pt.U, Pt.locs, Pt.cells, Pt.slots] at X' e1 e2 h1 h2 h3 st hcl
    subst h1; subst h2; subst h3
    exact Or.inr ⟨q, (T.setVm vm₁).calling g' mk As.toArray, t, U', L, E, ce, hT, X', hL, e1, e2, hq, hce, hcv, vx_cls hW₁ hcl, st⟩
end Runs
section Rows
variable {p : Program} {l : Launch} {e : Env} {R : Room} {s : State} {m : MethodId} {args : Array Value} {below : List Frame} {meth : Method} {c : Code} {H : Heap} {locs : List Loc} {cells slots : Nat} {Q : State → Prop}
variable {mc ms : Nat} {free : Addr → Prop} {A0 A1 : Nat → Prop} {H0 : Heap} {a : Array Value} {pc : Nat} {ls : Array Slot} {st0 rest : List Value}
theorem vx_keep {st₀ t T' : State} {L : List Loc} (h0 : st₀.heap = H) (e1 : T'.heap = t.heap) (hS : va_S A0 H0 H locs) (hA : ∀ q, q < H.size → A1 q → A0 q) (hf : ∀ q, free q → A0 q) (hL : ∀ q ∈ L, free q.base) (hF : va_F A1 st₀ t) :
    H.size ≤ T'.heap.size ∧ (∀ q : Nat, q < H.size → ¬ A1 q → T'.heap[q]? = H[q]?) ∧ va_S A0 H0 T'.heap (locs ++ L) := by
  obtain ⟨hz, hk⟩ := hF
  rw [h0] at hz hk
  exact ⟨by rw [e1]; exact hz, fun q h1 h2 => by rw [e1]; exact hk q h1 h2,
    ⟨Nat.le_trans hS.1 (by rw [e1]; exact hz), fun q h1 h2 => by rw [e1, hk q (Nat.lt_of_lt_of_le h1 hS.1) (fun z => h2 (hA q (Nat.lt_of_lt_of_le h1 hS.1) z))]; exact hS.2.1 q h1 h2, fun q hq => by
      rcases List.mem_append.mp hq with h | h
      · exact hS.2.2 q h
      · exact hf _ (hL q h)⟩⟩
theorem vx_calli {S SX : Type} {post : Int32 → S → Prop} {px : SX → Prop} {B : S → State → Prop} {BX : String → SX → State → Prop} {AX : Nat → Prop} (hr : vx_Run p l e R s m args below meth c H locs cells slots mc ms (F0 m pc ls st0) rest (va_Qi post B A1 a) (vx_X px BX AX) free) (hS : va_S A0 H0 H locs) (hA : ∀ q, q < H.size → A1 q → A0 q) (hf : ∀ q, free q → A0 q) (hAX : ∀ q, q < H.size → AX q → A0 q)
    (kx : ∀ (E : String) (ce : Cell) (q9 : Addr) (u : SX) (t : State) (H1 : Heap) (locs1 : List Loc), t.heap = H1 → s.vm.Alike t.vm → px u → BX E u t → H.size ≤ H1.size → (∀ q : Nat, q < H.size → ¬ AX q → H1[q]? = H[q]?) → va_S A0 H0 H1 locs1 → H1[q9]? = some ce → ce.vm = .none → s.vm.findClass E = some ce.cls → vx_W p l e R s m args below meth c H1 locs1 (cells + mc) (slots + ms) Q (F0 m pc ls rest) q9)
    (kk : ∀ (r : Int32) (u : S) (t : State) (H1 : Heap) (locs1 : List Loc), t.heap = H1 → s.vm.Alike t.vm → post r u → B u t → H.size ≤ H1.size → (∀ q : Nat, q < H.size → ¬ A1 q → H1[q]? = H[q]?) → va_S A0 H0 H1 locs1 → W p l e R s m args below meth c H1 locs1 (cells + mc) (slots + ms) Q (F0 m (pc + 3) ls (.int r :: rest))) : W p l e R s m args below meth c H locs cells slots Q (F0 m pc ls st0) := by
  intro T hT X
  rcases hr T hT X with ⟨v, st₀, t, T', L, h0, X', hL, e1, e2, ⟨⟨r, u, hv, hp, hb⟩, hF⟩, st⟩ | ⟨q, st₀, t, T', L, E, ce, h0, X', hL, e1, e2, ⟨u, hp, hb, hF⟩, hce, hcv, hcl, st⟩
  · cases hv
    obtain ⟨k1, k2, k3⟩ := vx_keep h0 e1 hS hA hf hL hF
    obtain ⟨t2, a1, b1⟩ := kk r u t T'.heap (locs ++ L) e1.symm (by rw [← e2]; exact X'.warmed.alike) hp hb k1 k2 k3 T' rfl X'
    exact ⟨t2, st t2 a1, b1⟩
  · obtain ⟨k1, k2, k3⟩ := vx_keep h0 e1 hS hAX hf hL hF
    obtain ⟨t2, a1, b1⟩ := kx E ce q u t T'.heap (locs ++ L) e1.symm (by rw [← e2]; exact X'.warmed.alike) hp hb k1 k2 k3 (by rw [e1]; exact hce) hcv hcl T' rfl X'
    exact ⟨t2, st.trans a1, b1⟩
theorem vx_calll {S SX : Type} {post : Int64 → S → Prop} {px : SX → Prop} {B : S → State → Prop} {BX : String → SX → State → Prop} {AX : Nat → Prop} (hr : vx_Run p l e R s m args below meth c H locs cells slots mc ms (F0 m pc ls st0) rest (va_Ql post B A1 a) (vx_X px BX AX) free) (hS : va_S A0 H0 H locs) (hA : ∀ q, q < H.size → A1 q → A0 q) (hf : ∀ q, free q → A0 q) (hAX : ∀ q, q < H.size → AX q → A0 q)
    (kx : ∀ (E : String) (ce : Cell) (q9 : Addr) (u : SX) (t : State) (H1 : Heap) (locs1 : List Loc), t.heap = H1 → s.vm.Alike t.vm → px u → BX E u t → H.size ≤ H1.size → (∀ q : Nat, q < H.size → ¬ AX q → H1[q]? = H[q]?) → va_S A0 H0 H1 locs1 → H1[q9]? = some ce → ce.vm = .none → s.vm.findClass E = some ce.cls → vx_W p l e R s m args below meth c H1 locs1 (cells + mc) (slots + ms) Q (F0 m pc ls rest) q9)
    (kk : ∀ (r : Int64) (u : S) (t : State) (H1 : Heap) (locs1 : List Loc), t.heap = H1 → s.vm.Alike t.vm → post r u → B u t → H.size ≤ H1.size → (∀ q : Nat, q < H.size → ¬ A1 q → H1[q]? = H[q]?) → va_S A0 H0 H1 locs1 → W p l e R s m args below meth c H1 locs1 (cells + mc) (slots + ms) Q (F0 m (pc + 3) ls (.long r :: rest))) : W p l e R s m args below meth c H locs cells slots Q (F0 m pc ls st0) := by
  intro T hT X
  rcases hr T hT X with ⟨v, st₀, t, T', L, h0, X', hL, e1, e2, ⟨⟨r, u, hv, hp, hb⟩, hF⟩, st⟩ | ⟨q, st₀, t, T', L, E, ce, h0, X', hL, e1, e2, ⟨u, hp, hb, hF⟩, hce, hcv, hcl, st⟩
  · cases hv
    obtain ⟨k1, k2, k3⟩ := vx_keep h0 e1 hS hA hf hL hF
    obtain ⟨t2, a1, b1⟩ := kk r u t T'.heap (locs ++ L) e1.symm (by rw [← e2]; exact X'.warmed.alike) hp hb k1 k2 k3 T' rfl X'
    exact ⟨t2, st t2 a1, b1⟩
  · obtain ⟨k1, k2, k3⟩ := vx_keep h0 e1 hS hAX hf hL hF
    obtain ⟨t2, a1, b1⟩ := kx E ce q u t T'.heap (locs ++ L) e1.symm (by rw [← e2]; exact X'.warmed.alike) hp hb k1 k2 k3 (by rw [e1]; exact hce) hcv hcl T' rfl X'
    exact ⟨t2, st.trans a1, b1⟩
theorem vx_callf {S SX : Type} {post : UInt32 → S → Prop} {px : SX → Prop} {B : S → State → Prop} {BX : String → SX → State → Prop} {AX : Nat → Prop} (hr : vx_Run p l e R s m args below meth c H locs cells slots mc ms (F0 m pc ls st0) rest (va_Qf post B A1 a) (vx_X px BX AX) free) (hS : va_S A0 H0 H locs) (hA : ∀ q, q < H.size → A1 q → A0 q) (hf : ∀ q, free q → A0 q) (hAX : ∀ q, q < H.size → AX q → A0 q)
    (kx : ∀ (E : String) (ce : Cell) (q9 : Addr) (u : SX) (t : State) (H1 : Heap) (locs1 : List Loc), t.heap = H1 → s.vm.Alike t.vm → px u → BX E u t → H.size ≤ H1.size → (∀ q : Nat, q < H.size → ¬ AX q → H1[q]? = H[q]?) → va_S A0 H0 H1 locs1 → H1[q9]? = some ce → ce.vm = .none → s.vm.findClass E = some ce.cls → vx_W p l e R s m args below meth c H1 locs1 (cells + mc) (slots + ms) Q (F0 m pc ls rest) q9)
    (kk : ∀ (r : UInt32) (u : S) (t : State) (H1 : Heap) (locs1 : List Loc), t.heap = H1 → s.vm.Alike t.vm → post r u → B u t → H.size ≤ H1.size → (∀ q : Nat, q < H.size → ¬ A1 q → H1[q]? = H[q]?) → va_S A0 H0 H1 locs1 → W p l e R s m args below meth c H1 locs1 (cells + mc) (slots + ms) Q (F0 m (pc + 3) ls (.float r :: rest))) : W p l e R s m args below meth c H locs cells slots Q (F0 m pc ls st0) := by
  intro T hT X
  rcases hr T hT X with ⟨v, st₀, t, T', L, h0, X', hL, e1, e2, ⟨⟨r, u, hv, hp, hb⟩, hF⟩, st⟩ | ⟨q, st₀, t, T', L, E, ce, h0, X', hL, e1, e2, ⟨u, hp, hb, hF⟩, hce, hcv, hcl, st⟩
  · cases hv
    obtain ⟨k1, k2, k3⟩ := vx_keep h0 e1 hS hA hf hL hF
    obtain ⟨t2, a1, b1⟩ := kk r u t T'.heap (locs ++ L) e1.symm (by rw [← e2]; exact X'.warmed.alike) hp hb k1 k2 k3 T' rfl X'
    exact ⟨t2, st t2 a1, b1⟩
  · obtain ⟨k1, k2, k3⟩ := vx_keep h0 e1 hS hAX hf hL hF
    obtain ⟨t2, a1, b1⟩ := kx E ce q u t T'.heap (locs ++ L) e1.symm (by rw [← e2]; exact X'.warmed.alike) hp hb k1 k2 k3 (by rw [e1]; exact hce) hcv hcl T' rfl X'
    exact ⟨t2, st.trans a1, b1⟩
theorem vx_calld {S SX : Type} {post : UInt64 → S → Prop} {px : SX → Prop} {B : S → State → Prop} {BX : String → SX → State → Prop} {AX : Nat → Prop} (hr : vx_Run p l e R s m args below meth c H locs cells slots mc ms (F0 m pc ls st0) rest (va_Qd post B A1 a) (vx_X px BX AX) free) (hS : va_S A0 H0 H locs) (hA : ∀ q, q < H.size → A1 q → A0 q) (hf : ∀ q, free q → A0 q) (hAX : ∀ q, q < H.size → AX q → A0 q)
    (kx : ∀ (E : String) (ce : Cell) (q9 : Addr) (u : SX) (t : State) (H1 : Heap) (locs1 : List Loc), t.heap = H1 → s.vm.Alike t.vm → px u → BX E u t → H.size ≤ H1.size → (∀ q : Nat, q < H.size → ¬ AX q → H1[q]? = H[q]?) → va_S A0 H0 H1 locs1 → H1[q9]? = some ce → ce.vm = .none → s.vm.findClass E = some ce.cls → vx_W p l e R s m args below meth c H1 locs1 (cells + mc) (slots + ms) Q (F0 m pc ls rest) q9)
    (kk : ∀ (r : UInt64) (u : S) (t : State) (H1 : Heap) (locs1 : List Loc), t.heap = H1 → s.vm.Alike t.vm → post r u → B u t → H.size ≤ H1.size → (∀ q : Nat, q < H.size → ¬ A1 q → H1[q]? = H[q]?) → va_S A0 H0 H1 locs1 → W p l e R s m args below meth c H1 locs1 (cells + mc) (slots + ms) Q (F0 m (pc + 3) ls (.double r :: rest))) : W p l e R s m args below meth c H locs cells slots Q (F0 m pc ls st0) := by
  intro T hT X
  rcases hr T hT X with ⟨v, st₀, t, T', L, h0, X', hL, e1, e2, ⟨⟨r, u, hv, hp, hb⟩, hF⟩, st⟩ | ⟨q, st₀, t, T', L, E, ce, h0, X', hL, e1, e2, ⟨u, hp, hb, hF⟩, hce, hcv, hcl, st⟩
  · cases hv
    obtain ⟨k1, k2, k3⟩ := vx_keep h0 e1 hS hA hf hL hF
    obtain ⟨t2, a1, b1⟩ := kk r u t T'.heap (locs ++ L) e1.symm (by rw [← e2]; exact X'.warmed.alike) hp hb k1 k2 k3 T' rfl X'
    exact ⟨t2, st t2 a1, b1⟩
  · obtain ⟨k1, k2, k3⟩ := vx_keep h0 e1 hS hAX hf hL hF
    obtain ⟨t2, a1, b1⟩ := kx E ce q u t T'.heap (locs ++ L) e1.symm (by rw [← e2]; exact X'.warmed.alike) hp hb k1 k2 k3 (by rw [e1]; exact hce) hcv hcl T' rfl X'
    exact ⟨t2, st.trans a1, b1⟩
theorem vx_callv {S SX : Type} {post : S → Prop} {px : SX → Prop} {B : S → State → Prop} {BX : String → SX → State → Prop} {AX : Nat → Prop} (hr : vx_Run p l e R s m args below meth c H locs cells slots mc ms (F0 m pc ls st0) rest (va_Qv post B A1 a) (vx_X px BX AX) free) (hS : va_S A0 H0 H locs) (hA : ∀ q, q < H.size → A1 q → A0 q) (hf : ∀ q, free q → A0 q) (hAX : ∀ q, q < H.size → AX q → A0 q)
    (kx : ∀ (E : String) (ce : Cell) (q9 : Addr) (u : SX) (t : State) (H1 : Heap) (locs1 : List Loc), t.heap = H1 → s.vm.Alike t.vm → px u → BX E u t → H.size ≤ H1.size → (∀ q : Nat, q < H.size → ¬ AX q → H1[q]? = H[q]?) → va_S A0 H0 H1 locs1 → H1[q9]? = some ce → ce.vm = .none → s.vm.findClass E = some ce.cls → vx_W p l e R s m args below meth c H1 locs1 (cells + mc) (slots + ms) Q (F0 m pc ls rest) q9)
    (kk : ∀ (u : S) (t : State) (H1 : Heap) (locs1 : List Loc), t.heap = H1 → s.vm.Alike t.vm → post u → B u t → H.size ≤ H1.size → (∀ q : Nat, q < H.size → ¬ A1 q → H1[q]? = H[q]?) → va_S A0 H0 H1 locs1 → W p l e R s m args below meth c H1 locs1 (cells + mc) (slots + ms) Q (F0 m (pc + 3) ls (rest))) : W p l e R s m args below meth c H locs cells slots Q (F0 m pc ls st0) := by
  intro T hT X
  rcases hr T hT X with ⟨v, st₀, t, T', L, h0, X', hL, e1, e2, ⟨⟨u, hv, hp, hb⟩, hF⟩, st⟩ | ⟨q, st₀, t, T', L, E, ce, h0, X', hL, e1, e2, ⟨u, hp, hb, hF⟩, hce, hcv, hcl, st⟩
  · cases hv
    obtain ⟨k1, k2, k3⟩ := vx_keep h0 e1 hS hA hf hL hF
    obtain ⟨t2, a1, b1⟩ := kk u t T'.heap (locs ++ L) e1.symm (by rw [← e2]; exact X'.warmed.alike) hp hb k1 k2 k3 T' rfl X'
    exact ⟨t2, st t2 a1, b1⟩
  · obtain ⟨k1, k2, k3⟩ := vx_keep h0 e1 hS hAX hf hL hF
    obtain ⟨t2, a1, b1⟩ := kx E ce q u t T'.heap (locs ++ L) e1.symm (by rw [← e2]; exact X'.warmed.alike) hp hb k1 k2 k3 (by rw [e1]; exact hce) hcv hcl T' rfl X'
    exact ⟨t2, st.trans a1, b1⟩
/-- caught by the row x of this method's table; the rows ahead don't take it -/
theorem vx_catch {own name : String} {E : String} {ce : Cell} {q : Addr} (hown : s.vm.findClass own = some m.cls) (pre : List ExceptionTableEntry) (x : ExceptionTableEntry) (suf : List ExceptionTableEntry) (hsplit : c.exceptionTable.toList = pre ++ x :: suf)
    (hpass : ∀ z ∈ pre, covers z pc = false ∨ (z.catchType ≠ 0 ∧ ∃ nm : String, (Cond.classLink own z.catchType nm).before args s = true ∧ va_Nc E nm s)) (hx : covers x pc = true) (h0 : x.catchType ≠ 0)
    (hlink : (Cond.classLink own x.catchType name).before args s = true) (hcast : (Cond.castable E name).before args s = true) (hcell : H[q]? = some ce) (hv : ce.vm = .none) (hcl : s.vm.findClass E = some ce.cls)
    (kk : W p l e R s m args below meth c H locs cells slots Q (F0 m x.handlerPc ls [.ref q])) : vx_W p l e R s m args below meth c H locs cells slots Q (F0 m pc ls rest) q := by
  intro T hT X
  have hpl : e.platform.magicAccessors = ({} : Platform).magicAccessors := by rw [X.admits.platform]
  obtain ⟨c3, c4, hc3, hc4, hasg⟩ := Cond.castable_spec hcast
  cases Option.some.inj (hc3.symm.trans hcl)
  obtain ⟨c5, hc5, hcl5⟩ := Cond.classLink_spec hown hlink e.platform hpl
  cases Option.some.inj (hc4.symm.trans hc5)
  obtain ⟨vm', X', st⟩ := X.thenCaughtThrough q (g := F0 m pc ls rest) rfl (Steps.refl _) (by rw [hT]; exact hcell) (by rw [hv]; rfl) (by obtain ⟨k9, h9, -⟩ := Vm.findClass_spec hcl; exact ⟨k9, h9⟩) pre x suf hsplit
    (fun z hz => by
      rcases hpass z hz with h | ⟨hz0, nm, hl1, hn1⟩
      · exact Or.inl h
      · obtain ⟨c6, hc6, hcl6⟩ := Cond.classLink_spec hown hl1 e.platform hpl
        obtain ⟨a8, b8, h1, h2, h3⟩ := hn1
        cases Option.some.inj (h1.symm.trans hcl)
        cases Option.some.inj (h2.symm.trans hc6)
        exact Or.inr ⟨hz0, _, hcl6, h3⟩) hx (Or.inr ⟨h0, c4, hcl5, hasg⟩)
  obtain ⟨t, a1, b1⟩ := kk (T.setVm vm') hT X'
  exact ⟨t, st.trans a1, b1⟩
end Rows
section Ends
variable {p : Program} {l : Launch} {e : Env} {R : Room} {s : State} {m : MethodId} {args : Array Value} {below : List Frame} {meth : Method} {c : Code} {H : Heap} {locs : List Loc} {cells slots : Nat} {Q : State → Prop}
variable {mc ms : Nat} {free : Addr → Prop} {A0 A1 : Nat → Prop} {H0 : Heap} {a : Array Value} {ls : Array Slot} {st0 rest : List Value}
variable {Qc : Array Value → State → Outcome → State → Prop} {XC : String → State → State → Prop}
/-- what a body that may throw owes at its end -/
def vx_MQ (below : List Frame) (Qc : Array Value → State → Outcome → State → Prop) (XC : String → State → State → Prop) (a : Array Value) (s : State) (mc ms : Nat) (free : Addr → Prop) : State → Prop := fun t =>
  ∃ o, t.status = .running ∧ Ended t below o ∧ vx_Q Qc XC mc ms free a s o t
theorem vx_ret {g : JFrame} {mc ms : Nat} (k : W p l e R s m args below meth c H locs cells slots (MQ below Qc args s mc ms free) g) : W p l e R s m args below meth c H locs cells slots (vx_MQ below Qc XC args s mc ms free) g := by
  intro T hT X
  obtain ⟨t, a1, o, b1, b2, b3, b4⟩ := k T hT X
  exact ⟨t, a1, o, b1, b2, Or.inl ⟨b3, b4⟩⟩
/-- not caught here: it goes on to the caller -/
theorem vx_widen {g : JFrame} {q : Addr} {k n : Nat} (h1 : cells ≤ k) (h2 : slots ≤ n) (kk : vx_W p l e R s m args below meth c H locs k n Q g q) : vx_W p l e R s m args below meth c H locs cells slots Q g q := fun T hT X => kk T hT (stand_widen X h1 h2)
theorem vx_out {pc : Nat} {E : String} {ce : Cell} {q : Addr} {mc ms : Nat} (hout : ∀ x ∈ c.exceptionTable.toList, covers x pc = false) (hlocks : meth.locks = false) (hcell : H[q]? = some ce) (hv : ce.vm = .none) (hcl : s.vm.findClass E = some ce.cls)
    (hx : ∀ t : State, t.heap = H → s.vm.Alike t.vm → XC E s t) (hf : ∀ z ∈ locs, free z.base) (hc : cells ≤ mc) (hs : slots ≤ ms) :
    vx_W p l e R s m args below meth c H locs cells slots (vx_MQ below Qc XC args s mc ms free) (F0 m pc ls rest) q := by
  intro T hT X
  obtain ⟨st1, hrun, hend, hW, hsm⟩ := X.leaveThrown q (g := F0 m pc ls rest) rfl rfl rfl hout hlocks
  have hcell9 : (T.setFrames (.throwing q :: below)).heap[q]? = some ce := by
    show T.heap[q]? = some ce
    rw [hT]; exact hcell
  exact ⟨_, st1, .threw q, hrun, hend, Or.inr ⟨q, rfl, E, ce, locs, hx _ hT hW.alike, hcell9, hv, hcl, hW, hsm.mono hc hs, hf⟩⟩
theorem vx_frame {U : State} {k n : Nat} (h : s.sameButNew ({ U with vm := s.vm } : State) locs k n) : s.heap.size ≤ U.heap.size ∧ ∀ q : Nat, q < s.heap.size → (∀ z ∈ locs, z.base ≠ q) → U.heap[q]? = s.heap[q]? := by
  obtain ⟨-, h2, -, -, -, h6⟩ := h
  refine ⟨h2, fun q hq hz => ?_⟩
  obtain ⟨c9, e1, e2, e3, e4⟩ := h6 q _ (Array.getElem?_eq_getElem hq)
  have hs : c9.slots = (s.heap[q]).slots := Array.ext_getElem? fun i => e4 i fun hm => hz _ hm rfl
  have h9 : c9 = s.heap[q] := by
    rw [hs] at e2
    exact e2
  have e5 : U.heap[q]? = some c9 := e1
  rw [e5, h9, Array.getElem?_eq_getElem hq]
/-- the words of a throw but the four that speak of the heap -/
def vx_no (w : Cond) : Bool := decide (w ≠ .isRef (.static Bundle.tN "UNASSIGNED_STACK" Bundle.steD)) && decide (w ≠ .isRef (.static Bundle.tN "SUPPRESSED_SENTINEL" Bundle.listD)) && decide (w ≠ .laysStatic Bundle.tN "UNASSIGNED_STACK" Bundle.steD) && decide (w ≠ .laysStatic Bundle.tN "SUPPRESSED_SENTINEL" Bundle.listD)
def vx_at0 (own : String) (ic : Nat) (X : String) (names : List String) : List Cond := (Bundle.ownAtoms0 own ic X names).filter vx_no
def vx_atS (own : String) (ic : Nat) (X : String) (names : List String) : List Cond := (Bundle.ownAtoms own ic X names).filter vx_no
/-- a word that the tables alone decide, or a good one -/
def vx_ot (w : Cond) : Bool := w.onTables || goodWord w
theorem vx_ot_at {args a' : Array Value} {s U : State} {w : Cond} (hW : s.WarmedH U.vm) (hvm : s.vm = U.vm) (hg : vx_ot w = true) (h : w.before args s = true) : w.before a' U = true := by
  simp only [vx_ot, Bool.or_eq_true] at hg
  rcases hg with hg | hg
  · exact va_tabs hg hvm h
  · exact word_at hW (good_of_word hg) h
/-- a list's words: the good ones out of the method's own list, the others by premises of their own -/
theorem vx_hat {args : Array Value} {s : State} {L B : List Cond} (h1 : ∀ w ∈ L.filter goodWord, w.before args s = true) (h2 : ∀ w ∈ L.filter (fun w => !goodWord w), w ∈ B) (h3 : ∀ w ∈ B, w.before args s = true) : ∀ w ∈ L, w.before args s = true := by
  intro w hw
  by_cases g : goodWord w = true
  · exact h1 w (List.mem_filter.mpr ⟨hw, g⟩)
  · refine h3 w (h2 w (List.mem_filter.mpr ⟨hw, ?_⟩))
    show (!goodWord w) = true
    cases hgw : goodWord w
    · rfl
    · exact absurd hgw g
theorem vx_c {args : Array Value} {s : State} {w : Cond} {B : List Cond} (h : w.before args s = true) (t : ∀ w ∈ B, w.before args s = true) : ∀ w' ∈ w :: B, w'.before args s = true := fun w' h' => (List.mem_cons.mp h').elim (fun e => by rw [e]; exact h) (t w')
theorem vx_n {args : Array Value} {s : State} : ∀ w ∈ ([] : List Cond), w.before args s = true := fun _ h => nomatch h
theorem vx_own {args : Array Value} {s : State} {L : List Cond} (h1 : ∀ w ∈ L.filter vx_no, w.before args s = true)
    (hU : (Cond.isRef (.static Bundle.tN "UNASSIGNED_STACK" Bundle.steD)).before args s = true) (hN : (Cond.isRef (.static Bundle.tN "SUPPRESSED_SENTINEL" Bundle.listD)).before args s = true)
    (lU : (Cond.laysStatic Bundle.tN "UNASSIGNED_STACK" Bundle.steD).before args s = true) (lN : (Cond.laysStatic Bundle.tN "SUPPRESSED_SENTINEL" Bundle.listD).before args s = true) : ∀ w ∈ L, w.before args s = true := by
  intro w hw
  by_cases e1 : w = .isRef (.static Bundle.tN "UNASSIGNED_STACK" Bundle.steD)
  · rw [e1]; exact hU
  · by_cases e2 : w = .isRef (.static Bundle.tN "SUPPRESSED_SENTINEL" Bundle.listD)
    · rw [e2]; exact hN
    · by_cases e3 : w = .laysStatic Bundle.tN "UNASSIGNED_STACK" Bundle.steD
      · rw [e3]; exact lU
      · by_cases e4 : w = .laysStatic Bundle.tN "SUPPRESSED_SENTINEL" Bundle.listD
        · rw [e4]; exact lN
        · exact h1 w (List.mem_filter.mpr ⟨hw, by unfold vx_no; rw [decide_eq_true e1, decide_eq_true e2, decide_eq_true e3, decide_eq_true e4]; rfl⟩)
/-- where a static field lies, its class's statics cell in H -/
def vx_L (C n d : String) (A : Nat → Prop) (U : State) (H : Heap) : Prop := ∃ (c : ClassId) (k : Class) (i : Nat) (f : Field) (a : Nat) (cell : Cell), U.vm.findClass C = some c ∧ U.fieldFound? C n d = some (c, k, i, f) ∧ f.isStatic = true ∧ k.statics = some a ∧ H[a]? = some cell ∧ cell.vm.isStatics = true ∧ cell.cls = c ∧ f.slot < cell.slots.size ∧ k.staticTypes[f.slot]? = some f.type ∧ ¬ A a
theorem vx_L.moved {C n d : String} {A : Nat → Prop} {u U : State} {H : Heap} (hvm : u.vm.Alike U.vm) (h : vx_L C n d A u H) : vx_L C n d A U H := by
  obtain ⟨c, k, i, f, a, cell, h1, h2, h3, h4, h5, h6, h7, h8, h9, h10⟩ := h
  obtain ⟨k', hi', he⟩ := State.fieldFound?_setVm hvm h2
  exact ⟨c, k', i, f, a, cell, by rw [hvm.findClass]; exact h1, hi', h3, by rw [he]; exact h4, h5, h6, h7, h8, by rw [he]; exact h9, h10⟩
theorem vx_L.kept {C n d : String} {A : Nat → Prop} {U : State} {H H1 : Heap} (h : vx_L C n d A U H) (hq : ∀ a : Nat, a < H.size → ¬ A a → H1[a]? = H[a]?) : vx_L C n d A U H1 := by
  obtain ⟨c, k, i, f, a, cell, h1, h2, h3, h4, h5, h6, h7, h8, h9, h10⟩ := h
  exact ⟨c, k, i, f, a, cell, h1, h2, h3, h4, by rw [hq a (Array.getElem?_eq_some_iff.mp h5).1 h10]; exact h5, h6, h7, h8, h9, h10⟩
theorem vx_L.narrow {C n d : String} {A B : Nat → Prop} {U : State} {H : Heap} (h : vx_L C n d A U H) (hAB : ∀ q, B q → A q) : vx_L C n d B U H := by
  obtain ⟨c, k, i, f, a, cell, h1, h2, h3, h4, h5, h6, h7, h8, h9, h10⟩ := h
  exact ⟨c, k, i, f, a, cell, h1, h2, h3, h4, h5, h6, h7, h8, h9, fun z => h10 (hAB _ z)⟩
theorem vx_L.word {C n d : String} {A : Nat → Prop} {s : State} {args : Array Value} (h : vx_L C n d A s s.heap) : (Cond.laysStatic C n d).before args s = true := by
  obtain ⟨c, k, i, f, a, cell, h1, h2, h3, h4, h5, h6, h7, h8, h9, -⟩ := h
  show (Cond.laysStatic C n d).holds args s none s [] = true
  exact Cond.laysStatic_of h1 h2 h3 h4 h5 h6 h7 h8 h9
/-- .. and what it holds: null or some reference -/
def vx_Zq (C n d : String) (A : Nat → Prop) (U : State) (H : Heap) : Prop := va_Zq C n d A U H ∧ vx_L C n d A U H
theorem vx_Zq.moved {C n d : String} {A : Nat → Prop} {u U : State} {H : Heap} (hvm : u.vm.Alike U.vm) (h : vx_Zq C n d A u H) : vx_Zq C n d A U H := ⟨va_Zq.moved hvm h.1, vx_L.moved hvm h.2⟩
theorem vx_Zq.kept {C n d : String} {A : Nat → Prop} {U : State} {H H1 : Heap} (h : vx_Zq C n d A U H) (hq : ∀ a : Nat, a < H.size → ¬ A a → H1[a]? = H[a]?) : vx_Zq C n d A U H1 := ⟨va_Zq.kept h.1 hq, vx_L.kept h.2 hq⟩
theorem vx_Zq.narrow {C n d : String} {A B : Nat → Prop} {U : State} {H : Heap} (h : vx_Zq C n d A U H) (hAB : ∀ q, B q → A q) : vx_Zq C n d B U H := ⟨va_Zq.narrow h.1 hAB, vx_L.narrow h.2 hAB⟩
theorem vx_Zqof {args : Array Value} {s : State} {C n d : String} {A : Nat → Prop} (hl : (Cond.laysStatic C n d).before args s = true) (hini : (Cond.initialized C).before args s = true) (h : (Cond.isRef (.static C n d)).before args s = true) (hA : ∀ a : Nat, a < s.heap.size → ¬ A a) : vx_Zq C n d A s s.heap := by
  refine ⟨va_Zqof hl hini h hA, ?_⟩
  obtain ⟨c, k, i, f, a, cell, h1, h2, h3, h4, h5, h6, h7, h8, h9⟩ := Cond.laysStatic_spec hl
  exact ⟨c, k, i, f, a, cell, h1, h2, h3, h4, h5, h6, h7, h8, h9, hA a (Array.getElem?_eq_some_iff.mp h5).1⟩
theorem vx_isRef {C n d : String} {v : Value} {A : Nat → Prop} {s : State} {args : Array Value} (h : va_Z C n d v A s s.heap) (hv : v.isRef = true) : (Cond.isRef (.static C n d)).before args s = true := by
  obtain ⟨cf, kf, fi, f, a, cell, h1, h2, h3, h4, h5, h6, h7, -⟩ := h
  have he : (Term.static C n d).eval args s none [] s = some v := by
    simp [Term.eval, State.fieldNamed?, h1, h2, h4, h5, h6, h7]
  simp only [Cond.before, Cond.holds, Cond.value, he]
  cases v <;> simp_all [Value.isRef]
theorem vx_isRefq {C n d : String} {A : Nat → Prop} {s : State} {args : Array Value} (h : va_Zq C n d A s s.heap) : (Cond.isRef (.static C n d)).before args s = true := by
  rcases h with h | ⟨t, h⟩
  · exact vx_isRef h rfl
  · exact vx_isRef h rfl
/-- the same frame, seen from here: as if the method were called anew in this heap -/
theorem vx_rebase {T : State} (X : Stand p l e R s m args below meth c T locs cells slots) {R' : Room} (hf : R'.frames ≤ R.frames) (hl : R'.locals ≤ R.locals) (hc : cells + R'.cells ≤ R.cells) (hs : slots + R'.slots ≤ R.slots) :
    Stand p l e R' ((T.setVm s.vm).setFrames (.invoking m args :: below)) m args below meth c T [] 0 0 := by
  have htop : (T.setVm s.vm).topJava?.isSome := X.here.top
  have hF : ((T.setVm s.vm).setFrames (.invoking m args :: below)).frames = .invoking m args :: below := State.frames_setFrames _ (State.cur_lt_of_top htop)
  obtain ⟨g₀, hg0⟩ := Option.isSome_iff_exists.mp htop
  obtain ⟨r, hr⟩ := State.topJava?_eq_some.mp hg0
  have hl9 : e.platform.stackLimits (T.setVm s.vm).me = e.platform.stackLimits s.me := X.limits
  have hb9 : (T.setVm s.vm).me.stackBytes = s.me.stackBytes := X.bytes
  refine ⟨X.admits, X.cas, X.clock, hF, ?_, X.hears, X.method, X.code, X.here, X.tail, X.warmed, ?_, ?_, ?_⟩
  · have h := X.room
    have hU : ((T.setVm s.vm).setFrames (.invoking m args :: below)).localsInUse = s.localsInUse := by
      rw [State.localsInUse_invoking hF (meth := meth) (c := c) X.method X.code, State.localsInUse_invoking X.frames X.method X.code]
    simp only [State.hasRoom, Bool.and_eq_true, decide_eq_true_eq] at h ⊢
    obtain ⟨⟨⟨⟨h1, h2, h3, h4, h5, h6⟩, h7⟩, h8⟩, h9⟩ := h
    rw [X.frames, List.length_cons] at h2 h3
    have q1 := X.heapSize
    have q2 := X.used
    simp only [hF, hU, List.length_cons, State.stackLimits_setFrames, State.stackBytes_setFrames, hl9, hb9]
    refine ⟨⟨⟨⟨by omega, by omega, by omega, by omega, by omega, h6⟩, ?_⟩, ?_⟩, X.book⟩
    · show T.heap.size + R'.cells ≤ e.platform.maxCells
      omega
    · show T.slotsUsed + R'.slots ≤ e.platform.maxSlots
      omega
  · rw [State.stackLimits_setFrames]; rfl
  · rw [State.stackBytes_setFrames]; rfl
  · refine ⟨?_, Nat.le_refl _, Nat.le_refl _, ?_, ?_, fun a c9 h9 => ⟨c9, h9, rfl, rfl, fun _ _ => rfl⟩⟩
    · obtain ⟨t, ht, -⟩ := State.frames_cons hr
      show T.setVm s.vm = { ((T.setVm s.vm).setFrames (.invoking m args :: below)).setFrames (T.setVm s.vm).frames with heap := T.heap, slotsUsed := T.slotsUsed }
      rw [State.setFrames_setFrames, State.setFrames_self ht]
      rfl
    · show T.slotsUsed = T.slotsUsed + ((T.heap.toList.drop T.heap.size).map (·.slots.size)).sum
      rw [List.drop_eq_nil_of_le (Nat.le_of_eq Array.length_toList)]
      rfl
    · show ((T.heap.toList.drop T.heap.size).map (·.slots.size)).sum ≤ 0
      rw [List.drop_eq_nil_of_le (Nat.le_of_eq Array.length_toList)]
      exact Nat.le_refl _
/-- 'throw new E()': new; dup; invokespecial; athrow -/
theorem vx_throw0 {cc : ByteArray} {pc : Nat} (hexec : p.tables.exec = Jvm.exec) (hb : c.code = cc) (hl : l.stackTraces = false) {own cls : String} {names : List String} {ik ic mc ms : Nat} {A : Nat → Prop}
    (hown : s.vm.findClass own = some m.cls) (hcls : Bundle.fit cls = true) (hnames : ∀ n ∈ names, Bundle.fit n = true)
    (hk : (Cond.classLink own ik cls).before args s = true) (hini : (Cond.initialized cls).before args s = true) (hat : ∀ w ∈ vx_at0 own ic cls names, w.before args s = true)
    (hgood : ∀ w ∈ Cond.classLink own ik cls :: Cond.initialized cls :: vx_at0 own ic cls names, vx_ot w = true)
    (hU : vx_Zq Bundle.tN "UNASSIGNED_STACK" Bundle.steD A s s.heap) (hN : vx_Zq Bundle.tN "SUPPRESSED_SENTINEL" Bundle.listD A s s.heap) (hS : va_S A s.heap H locs) (hsize : ls.size = c.maxLocals)
    (d0 : decode cc pc = .ok (.new ik, 3)) (d3 : decode cc (pc + 3) = .ok (.dup, 1)) (d4 : decode cc (pc + 4) = .ok (.invokespecial ic, 3)) (d7 : decode cc (pc + 7) = .ok (.athrow, 1))
    (hout : ∀ x ∈ c.exceptionTable.toList, covers x (pc + 7) = false)
    (hRframes : names.length + 3 < R.frames) (hRlocals : (rest.map fun v => v.category).sum + (13 * (names.length + 1) + 42) ≤ R.locals) (hRcells : cells + 1 ≤ R.cells) (hRslots : slots + 6 ≤ R.slots) (hlocks : meth.locks = false)
    (hx : ∀ t : State, s.vm.Alike t.vm → H.size ≤ t.heap.size → (∀ q : Nat, q < H.size → t.heap[q]? = H[q]?) → XC cls s t)
    (hf : ∀ z ∈ locs, free z.base) (hc : cells + 1 ≤ mc) (hs : slots + 6 ≤ ms) :
    W p l e R s m args below meth c H locs cells slots (vx_MQ below Qc XC args s mc ms free) (F0 m pc ls rest) := by
  intro T hT X
  have htr : e.platform.stackTraces = false := (show e.platform.stackTraces = l.stackTraces by rw [X.admits.platform]).trans hl
  have Y := vx_rebase X (R' := { frames := R.frames, locals := R.locals, cells := 1, slots := 6 }) (Nat.le_refl _) (Nat.le_refl _) hRcells hRslots
  obtain ⟨s', hA⟩ : ∃ z, z = (T.setVm s.vm).setFrames (.invoking m args :: below) := ⟨_, rfl⟩
  rw [← hA] at Y
  have hvm : s'.vm = s.vm := by rw [hA]; rfl
  have hhp : s'.heap = H := by rw [hA]; exact hT
  have hW0 : s.WarmedH s'.vm := by rw [hvm]; exact State.WarmedH.refl s
  have hat' : ∀ w ∈ vx_at0 own ic cls names, w.before args s' = true := fun w hw => vx_ot_at hW0 hvm.symm (hgood w (List.mem_cons_of_mem _ (List.mem_cons_of_mem _ hw))) (hat w hw)
  have hk' : (Cond.classLink own ik cls).before args s' = true := vx_ot_at hW0 hvm.symm (hgood _ List.mem_cons_self) hk
  have hini' : (Cond.initialized cls).before args s' = true := vx_ot_at hW0 hvm.symm (hgood _ (List.mem_cons_of_mem _ List.mem_cons_self)) hini
  have hU' : vx_Zq Bundle.tN "UNASSIGNED_STACK" Bundle.steD A s' s'.heap := by rw [hhp]; exact vx_Zq.moved hW0.alike (hU.kept hS.2.1)
  have hN' : vx_Zq Bundle.tN "SUPPRESSED_SENTINEL" Bundle.listD A s' s'.heap := by rw [hhp]; exact vx_Zq.moved hW0.alike (hN.kept hS.2.1)
  have h : ∀ w ∈ Bundle.ownAtoms0 own ic cls names, w.before args s' = true := vx_own hat' (vx_isRefq hU'.1) (vx_isRefq hN'.1) hU'.2.word hN'.2.word
  have hown' : s'.vm.findClass own = some m.cls := by rw [hvm]; exact hown
  have hins : (Cond.instantiable cls 6).before args s' = true := h _ (by simp [Bundle.ownAtoms0])
  obtain ⟨vm₁, cX, kX, hfX, hkX, -, -, X₁, st1⟩ := Y.newCold hexec (own := own) (C := cls) (index := ik) (n := 6) hown' hk' hins hini'
    (g := F0 m pc ls rest) rfl (by rw [hb]; exact d0) (Nat.le_refl _) (Nat.le_refl _)
  generalize hT1 : (T.setVm vm₁).pushCell { cls := cX, slots := kX.instanceTypes.map defaultValue, vm := .none } = T1 at X₁ st1
  have hcat : (Value.ref T.heap.size).category = 1 := rfl
  have hcellA : T1.heap[T.heap.size]? = some (freshCell cX kX) := by rw [← hT1]; exact State.heap_pushCell_size _ _
  have d3' : decode c.code (pc + 3) = .ok (.dup, 1) := by rw [hb]; exact d3
  obtain ⟨U, hsteps, hrun, hend, hW, hsame, ce, hce, hO⟩ := X₁.ctorThrow0 hexec htr (own := own) (cls := cls) (names := names) (ic := ic) hown' hcls hnames h (fun x hx => nomatch hx) hfX hkX hcellA (by rw [hhp, hT]; exact Nat.le_refl _)
    (g := { method := m, pc := pc + 4, locals := ls, stack := .ref T.heap.size :: .ref T.heap.size :: rest, locked := none }) rfl hsize rfl rfl (rest := rest) rfl
    (by rw [hb]; exact d4) (by rw [hb]; exact d7) hout hRframes (by simp only [List.map_cons, List.sum_cons, hcat]; omega) hlocks
  obtain ⟨f1, f2⟩ := vx_frame hsame
  rw [hhp] at f1 f2
  have hWs : s.WarmedH U.vm := State.WarmedH.trans hW0 hW
  have hcl : s.vm.findClass cls = some ce.cls := by
    have h9 := hO.cls
    rw [hvm] at h9
    exact h9
  have hall : s.sameButNew ({ U with vm := s.vm } : State) locs mc ms := by
    subst hA
    obtain ⟨e1, e2⟩ := hsame
    rw [State.setFrames_setFrames] at e1
    have h2 : (T.setVm s.vm).sameButNew ({ U with vm := s.vm } : State) [] (0 + 1) (0 + 6) := ⟨e1, e2⟩
    have h3 := X.same.trans h2
    rw [List.append_nil] at h3
    exact h3.mono hc hs
  refine ⟨U, ?_, .threw T.heap.size, hrun, hend, Or.inr ⟨T.heap.size, rfl, cls, ce, locs, hx U hWs.alike f1 (fun q hq => f2 q hq (fun z hz => nomatch hz)), hce, hO.vm, hcl, hWs, hall, hf⟩⟩
  refine st1 _ ?_
  show Steps p.tables e below (T1.setTop { method := m, pc := pc + 3, locals := ls, stack := .ref T.heap.size :: rest, locked := none }) _
  jvm_step X₁.here [X₁.here.top, hexec, d3', Value.category]
  exact hsteps
/-- 'throw new E("text")': new; dup; ldc; invokespecial; athrow -/
theorem vx_throwS {cc : ByteArray} {pc : Nat} (hexec : p.tables.exec = Jvm.exec) (hb : c.code = cc) (hl : l.stackTraces = false) {own cls text : String} {names : List String} {ik is ic mc ms sa : Nat} {A : Nat → Prop}
    (hown : s.vm.findClass own = some m.cls) (hcls : Bundle.fit cls = true) (hnames : ∀ n ∈ names, Bundle.fit n = true)
    (hk : (Cond.classLink own ik cls).before args s = true) (hini : (Cond.initialized cls).before args s = true) (hstr : vk_R own is text sa s) (hat : ∀ w ∈ vx_atS own ic cls names, w.before args s = true)
    (hgood : ∀ w ∈ Cond.classLink own ik cls :: Cond.initialized cls :: vx_atS own ic cls names, vx_ot w = true)
    (hU : vx_Zq Bundle.tN "UNASSIGNED_STACK" Bundle.steD A s s.heap) (hN : vx_Zq Bundle.tN "SUPPRESSED_SENTINEL" Bundle.listD A s s.heap) (hS : va_S A s.heap H locs) (hsize : ls.size = c.maxLocals)
    (d0 : decode cc pc = .ok (.new ik, 3)) (d3 : decode cc (pc + 3) = .ok (.dup, 1)) (d4 : decode cc (pc + 4) = .ok (.ldc is, 2)) (d6 : decode cc (pc + 6) = .ok (.invokespecial ic, 3)) (d9 : decode cc (pc + 9) = .ok (.athrow, 1))
    (hout : ∀ x ∈ c.exceptionTable.toList, covers x (pc + 9) = false)
    (hRframes : names.length + 3 < R.frames) (hRlocals : (rest.map fun v => v.category).sum + (13 * (names.length + 1) + 43) ≤ R.locals) (hRcells : cells + 1 ≤ R.cells) (hRslots : slots + 6 ≤ R.slots) (hlocks : meth.locks = false)
    (hx : ∀ t : State, s.vm.Alike t.vm → H.size ≤ t.heap.size → (∀ q : Nat, q < H.size → t.heap[q]? = H[q]?) → XC cls s t)
    (hf : ∀ z ∈ locs, free z.base) (hc : cells + 1 ≤ mc) (hs : slots + 6 ≤ ms) :
    W p l e R s m args below meth c H locs cells slots (vx_MQ below Qc XC args s mc ms free) (F0 m pc ls rest) := by
  intro T hT X
  have htr : e.platform.stackTraces = false := (show e.platform.stackTraces = l.stackTraces by rw [X.admits.platform]).trans hl
  have Y := vx_rebase X (R' := { frames := R.frames, locals := R.locals, cells := 1, slots := 6 }) (Nat.le_refl _) (Nat.le_refl _) hRcells hRslots
  obtain ⟨s', hA⟩ : ∃ z, z = (T.setVm s.vm).setFrames (.invoking m args :: below) := ⟨_, rfl⟩
  rw [← hA] at Y
  have hvm : s'.vm = s.vm := by rw [hA]; rfl
  have hhp : s'.heap = H := by rw [hA]; exact hT
  have hW0 : s.WarmedH s'.vm := by rw [hvm]; exact State.WarmedH.refl s
  have hat' : ∀ w ∈ vx_atS own ic cls names, w.before args s' = true := fun w hw => vx_ot_at hW0 hvm.symm (hgood w (List.mem_cons_of_mem _ (List.mem_cons_of_mem _ hw))) (hat w hw)
  have hk' : (Cond.classLink own ik cls).before args s' = true := vx_ot_at hW0 hvm.symm (hgood _ List.mem_cons_self) hk
  have hini' : (Cond.initialized cls).before args s' = true := vx_ot_at hW0 hvm.symm (hgood _ (List.mem_cons_of_mem _ List.mem_cons_self)) hini
  have hU' : vx_Zq Bundle.tN "UNASSIGNED_STACK" Bundle.steD A s' s'.heap := by rw [hhp]; exact vx_Zq.moved hW0.alike (hU.kept hS.2.1)
  have hN' : vx_Zq Bundle.tN "SUPPRESSED_SENTINEL" Bundle.listD A s' s'.heap := by rw [hhp]; exact vx_Zq.moved hW0.alike (hN.kept hS.2.1)
  have h : ∀ w ∈ Bundle.ownAtoms own ic cls names, w.before args s' = true := vx_own hat' (vx_isRefq hU'.1) (vx_isRefq hN'.1) hU'.2.word hN'.2.word
  have hown' : s'.vm.findClass own = some m.cls := by rw [hvm]; exact hown
  have hins : (Cond.instantiable cls 6).before args s' = true := h _ (by simp [Bundle.ownAtoms])
  obtain ⟨vm₁, cX, kX, hfX, hkX, -, -, X₁, st1⟩ := Y.newCold hexec (own := own) (C := cls) (index := ik) (n := 6) hown' hk' hins hini'
    (g := F0 m pc ls rest) rfl (by rw [hb]; exact d0) (Nat.le_refl _) (Nat.le_refl _)
  generalize hT1 : (T.setVm vm₁).pushCell { cls := cX, slots := kX.instanceTypes.map defaultValue, vm := .none } = T1 at X₁ st1
  have hcat : (Value.ref T.heap.size).category = 1 := rfl
  have hcellA : T1.heap[T.heap.size]? = some (freshCell cX kX) := by rw [← hT1]; exact State.heap_pushCell_size _ _
  have d3' : decode c.code (pc + 3) = .ok (.dup, 1) := by rw [hb]; exact d3
  have d4' : decode c.code (pc + 4) = .ok (.ldc is, 2) := by rw [hb]; exact d4
  have hstr' : vk_R own is text sa s' := vk_R.warm hW0 hstr
  obtain ⟨U, hsteps, hrun, hend, hW, hsame, ce, hce, hO⟩ := X₁.ctorThrowS hexec htr (own := own) (cls := cls) (names := names) (ic := ic) hown' hcls hnames h (fun x hx => nomatch hx) hfX hkX hcellA (by rw [hhp, hT]; exact Nat.le_refl _) (msg := .ref sa) rfl
    (g := { method := m, pc := pc + 6, locals := ls, stack := .ref sa :: .ref T.heap.size :: .ref T.heap.size :: rest, locked := none }) rfl hsize rfl rfl (rest := rest) rfl
    (by rw [hb]; exact d6) (by rw [hb]; exact d9) hout hRframes (by simp only [List.map_cons, List.sum_cons, hcat]; omega) hlocks
  obtain ⟨f1, f2⟩ := vx_frame hsame
  rw [hhp] at f1 f2
  have hWs : s.WarmedH U.vm := State.WarmedH.trans hW0 hW
  have hcl : s.vm.findClass cls = some ce.cls := by
    have h9 := hO.cls
    rw [hvm] at h9
    exact h9
  have hall : s.sameButNew ({ U with vm := s.vm } : State) locs mc ms := by
    subst hA
    obtain ⟨e1, e2⟩ := hsame
    rw [State.setFrames_setFrames] at e1
    have h2 : (T.setVm s.vm).sameButNew ({ U with vm := s.vm } : State) [] (0 + 1) (0 + 6) := ⟨e1, e2⟩
    have h3 := X.same.trans h2
    rw [List.append_nil] at h3
    exact h3.mono hc hs
  refine ⟨U, ?_, .threw T.heap.size, hrun, hend, Or.inr ⟨T.heap.size, rfl, cls, ce, locs, hx U hWs.alike f1 (fun q hq => f2 q hq (fun z hz => nomatch hz)), hce, hO.vm, hcl, hWs, hall, hf⟩⟩
  refine st1 _ ?_
  show Steps p.tables e below (T1.setTop { method := m, pc := pc + 3, locals := ls, stack := .ref T.heap.size :: rest, locked := none }) _
  jvm_step X₁.here [X₁.here.top, hexec, d3', Value.category]
  exact X₁.ldcString hexec (own := own) (text := text) (index := is) (a := sa) hown' hstr'.1 hstr'.2
    (g := { method := m, pc := pc + 4, locals := ls, stack := .ref T.heap.size :: .ref T.heap.size :: rest, locked := none }) rfl d4' _ hsteps
/-- 'throw new E("text")', the text by a wide index -/
theorem vx_throwSW {cc : ByteArray} {pc : Nat} (hexec : p.tables.exec = Jvm.exec) (hb : c.code = cc) (hl : l.stackTraces = false) {own cls text : String} {names : List String} {ik is ic mc ms sa : Nat} {A : Nat → Prop}
    (hown : s.vm.findClass own = some m.cls) (hcls : Bundle.fit cls = true) (hnames : ∀ n ∈ names, Bundle.fit n = true)
    (hk : (Cond.classLink own ik cls).before args s = true) (hini : (Cond.initialized cls).before args s = true) (hstr : vk_R own is text sa s) (hat : ∀ w ∈ vx_atS own ic cls names, w.before args s = true)
    (hgood : ∀ w ∈ Cond.classLink own ik cls :: Cond.initialized cls :: vx_atS own ic cls names, vx_ot w = true)
    (hU : vx_Zq Bundle.tN "UNASSIGNED_STACK" Bundle.steD A s s.heap) (hN : vx_Zq Bundle.tN "SUPPRESSED_SENTINEL" Bundle.listD A s s.heap) (hS : va_S A s.heap H locs) (hsize : ls.size = c.maxLocals)
    (d0 : decode cc pc = .ok (.new ik, 3)) (d3 : decode cc (pc + 3) = .ok (.dup, 1)) (d4 : decode cc (pc + 4) = .ok (.ldc_w is, 3)) (d7 : decode cc (pc + 7) = .ok (.invokespecial ic, 3)) (d10 : decode cc (pc + 10) = .ok (.athrow, 1))
    (hout : ∀ x ∈ c.exceptionTable.toList, covers x (pc + 10) = false)
    (hRframes : names.length + 3 < R.frames) (hRlocals : (rest.map fun v => v.category).sum + (13 * (names.length + 1) + 43) ≤ R.locals) (hRcells : cells + 1 ≤ R.cells) (hRslots : slots + 6 ≤ R.slots) (hlocks : meth.locks = false)
    (hx : ∀ t : State, s.vm.Alike t.vm → H.size ≤ t.heap.size → (∀ q : Nat, q < H.size → t.heap[q]? = H[q]?) → XC cls s t)
    (hf : ∀ z ∈ locs, free z.base) (hc : cells + 1 ≤ mc) (hs : slots + 6 ≤ ms) :
    W p l e R s m args below meth c H locs cells slots (vx_MQ below Qc XC args s mc ms free) (F0 m pc ls rest) := by
  intro T hT X
  have htr : e.platform.stackTraces = false := (show e.platform.stackTraces = l.stackTraces by rw [X.admits.platform]).trans hl
  have Y := vx_rebase X (R' := { frames := R.frames, locals := R.locals, cells := 1, slots := 6 }) (Nat.le_refl _) (Nat.le_refl _) hRcells hRslots
  obtain ⟨s', hA⟩ : ∃ z, z = (T.setVm s.vm).setFrames (.invoking m args :: below) := ⟨_, rfl⟩
  rw [← hA] at Y
  have hvm : s'.vm = s.vm := by rw [hA]; rfl
  have hhp : s'.heap = H := by rw [hA]; exact hT
  have hW0 : s.WarmedH s'.vm := by rw [hvm]; exact State.WarmedH.refl s
  have hat' : ∀ w ∈ vx_atS own ic cls names, w.before args s' = true := fun w hw => vx_ot_at hW0 hvm.symm (hgood w (List.mem_cons_of_mem _ (List.mem_cons_of_mem _ hw))) (hat w hw)
  have hk' : (Cond.classLink own ik cls).before args s' = true := vx_ot_at hW0 hvm.symm (hgood _ List.mem_cons_self) hk
  have hini' : (Cond.initialized cls).before args s' = true := vx_ot_at hW0 hvm.symm (hgood _ (List.mem_cons_of_mem _ List.mem_cons_self)) hini
  have hU' : vx_Zq Bundle.tN "UNASSIGNED_STACK" Bundle.steD A s' s'.heap := by rw [hhp]; exact vx_Zq.moved hW0.alike (hU.kept hS.2.1)
  have hN' : vx_Zq Bundle.tN "SUPPRESSED_SENTINEL" Bundle.listD A s' s'.heap := by rw [hhp]; exact vx_Zq.moved hW0.alike (hN.kept hS.2.1)
  have h : ∀ w ∈ Bundle.ownAtoms own ic cls names, w.before args s' = true := vx_own hat' (vx_isRefq hU'.1) (vx_isRefq hN'.1) hU'.2.word hN'.2.word
  have hown' : s'.vm.findClass own = some m.cls := by rw [hvm]; exact hown
  have hins : (Cond.instantiable cls 6).before args s' = true := h _ (by simp [Bundle.ownAtoms])
  obtain ⟨vm₁, cX, kX, hfX, hkX, -, -, X₁, st1⟩ := Y.newCold hexec (own := own) (C := cls) (index := ik) (n := 6) hown' hk' hins hini'
    (g := F0 m pc ls rest) rfl (by rw [hb]; exact d0) (Nat.le_refl _) (Nat.le_refl _)
  generalize hT1 : (T.setVm vm₁).pushCell { cls := cX, slots := kX.instanceTypes.map defaultValue, vm := .none } = T1 at X₁ st1
  have hcat : (Value.ref T.heap.size).category = 1 := rfl
  have hcellA : T1.heap[T.heap.size]? = some (freshCell cX kX) := by rw [← hT1]; exact State.heap_pushCell_size _ _
  have d3' : decode c.code (pc + 3) = .ok (.dup, 1) := by rw [hb]; exact d3
  have d4' : decode c.code (pc + 4) = .ok (.ldc_w is, 3) := by rw [hb]; exact d4
  have hstr' : vk_R own is text sa s' := vk_R.warm hW0 hstr
  obtain ⟨U, hsteps, hrun, hend, hW, hsame, ce, hce, hO⟩ := X₁.ctorThrowS hexec htr (own := own) (cls := cls) (names := names) (ic := ic) hown' hcls hnames h (fun x hx => nomatch hx) hfX hkX hcellA (by rw [hhp, hT]; exact Nat.le_refl _) (msg := .ref sa) rfl
    (g := { method := m, pc := pc + 7, locals := ls, stack := .ref sa :: .ref T.heap.size :: .ref T.heap.size :: rest, locked := none }) rfl hsize rfl rfl (rest := rest) rfl
    (by rw [hb]; exact d7) (by rw [hb]; exact d10) hout hRframes (by simp only [List.map_cons, List.sum_cons, hcat]; omega) hlocks
  obtain ⟨f1, f2⟩ := vx_frame hsame
  rw [hhp] at f1 f2
  have hWs : s.WarmedH U.vm := State.WarmedH.trans hW0 hW
  have hcl : s.vm.findClass cls = some ce.cls := by
    have h9 := hO.cls
    rw [hvm] at h9
    exact h9
  have hall : s.sameButNew ({ U with vm := s.vm } : State) locs mc ms := by
    subst hA
    obtain ⟨e1, e2⟩ := hsame
    rw [State.setFrames_setFrames] at e1
    have h2 : (T.setVm s.vm).sameButNew ({ U with vm := s.vm } : State) [] (0 + 1) (0 + 6) := ⟨e1, e2⟩
    have h3 := X.same.trans h2
    rw [List.append_nil] at h3
    exact h3.mono hc hs
  refine ⟨U, ?_, .threw T.heap.size, hrun, hend, Or.inr ⟨T.heap.size, rfl, cls, ce, locs, hx U hWs.alike f1 (fun q hq => f2 q hq (fun z hz => nomatch hz)), hce, hO.vm, hcl, hWs, hall, hf⟩⟩
  refine st1 _ ?_
  show Steps p.tables e below (T1.setTop { method := m, pc := pc + 3, locals := ls, stack := .ref T.heap.size :: rest, locked := none }) _
  jvm_step X₁.here [X₁.here.top, hexec, d3', Value.category]
  exact X₁.ldcStringW hexec (own := own) (text := text) (index := is) (a := sa) hown' hstr'.1 hstr'.2
    (g := { method := m, pc := pc + 4, locals := ls, stack := .ref T.heap.size :: .ref T.heap.size :: rest, locked := none }) rfl d4' _ hsteps
end Ends
section Bodies
variable {l : Launch}
theorem vx_ofW {y : MethodName} {ws ws' : List Cond} {rm : Room} {Pc : Array Value → State → Prop} {Qc : Array Value → State → Outcome → State → Prop} {XC : String → State → State → Prop} {mc ms : Nat} {free : Addr → Prop} {cc : ByteArray} {maxL : Nat} {ret : Option FieldType}
    (hy : plainName y.cls = true) (hw : ws = Cond.code y cc maxL ret :: ws')
    (body : ∀ p e s m args below meth c s₁, BodyLoose p l y (headSpec ws rm) cc maxL ret e s m args below meth c s₁ → c.maxLocals = maxL → (∀ x ∈ c.exceptionTable.toList, False) → Pc args s →
      W p l e (headSpec ws rm).room s m args below meth c s.heap [] 0 0 (vx_MQ below Qc XC args s mc ms free) (entryFrame m args maxL)) : vx_Met l y ws rm Pc Qc XC mc ms free := by
  refine MetFree.of_bodyS (code := cc) (maxLocals := maxL) (ret := ret) hy ?_ ?_
  · intro args s m h hn
    obtain ⟨meth, c, h1, h2, h3, h4, h5, h6, -, -⟩ := Cond.code_spec hn (atoms_spec (ws := ws) h _ (by rw [hw]; exact List.mem_cons_self))
    exact ⟨meth, c, h1, h2, h3, h4, h5, h6⟩
  · intro p e s m args below meth c s₁ B hml hP _
    have hh0 : s₁.heap = s.heap := by rw [B.state]; rfl
    have ht : ∀ x ∈ c.exceptionTable.toList, False := by
      obtain ⟨meth9, c9, h1, h2, -, -, -, -, h7, -⟩ := Cond.code_spec B.named (atoms_spec (ws := ws) B.pre _ (by rw [hw]; exact List.mem_cons_self))
      cases Option.some.inj (h1.symm.trans B.method)
      cases Option.some.inj (h2.symm.trans (Stand.of_body B).code)
      intro x hx
      rw [Array.isEmpty_iff.mp h7] at hx
      cases hx
    obtain ⟨t, a1, o, b1, b2, b3⟩ := body p e s m args below meth c s₁ B hml ht hP s₁ hh0 (Stand.of_body B)
    exact ⟨t, o, a1, b1, b2, b3⟩
/-- the table of a body with handlers -/
theorem vx_table {p : Program} {x y : MethodName} {S : Spec} {cc bytes : ByteArray} {maxL maxL' : Nat} {ret ret' : Option FieldType} {e : Env} {s s₁ : State} {m : MethodId} {args : Array Value} {below : List Frame} {meth : Method} {c : Code} {hh : List (Nat × Nat × Nat × Nat)}
    (B : BodyLoose p l y S cc maxL ret e s m args below meth c s₁) (h : (Cond.codeWith y bytes maxL' ret' hh).before args s = true) : c.exceptionTable.toList = tableOf hh := by
  obtain ⟨m9, meth9, c9, hn9, h1, h2, -, -, h6, -⟩ := Cond.codeWith_spec h
  cases Option.some.inj (hn9.symm.trans B.named)
  cases Option.some.inj (h1.symm.trans B.method)
  cases Option.some.inj (h2.symm.trans (Stand.of_body B).code)
  rw [← h6, table_eq]
end Bodies
end VXA
/-! ===== END ===== -/
/-! ===== BEGIN a static call of a method with an exception table ===== -/
section VXS
variable {p : Program} {l : Launch} {e : Env} {R : Room} {s : State} {m : MethodId} {args : Array Value} {below : List Frame} {meth : Method} {c : Code} {T : State} {H : Heap} {locs : List Loc} {cells slots : Nat}
abbrev vx_CSW (R : Room) (s : State) (args : Array Value) (own : String) (index : Nat) (y : MethodName) (bytes : ByteArray) (maxL : Nat) (ret : Option FieldType) (hh : List (Nat × Nat × Nat × Nat)) (ws : List Cond) (rm : Room) (mc ms n : Nat) : Prop :=
  (rm.cells = mc ∧ rm.slots = ms ∧ rm.frames + 1 ≤ R.frames ∧ 8 + (maxL + 11) + rm.locals ≤ R.locals ∧ (∀ w ∈ ws, ∀ (a' : Array Value) (U : State), s.WarmedH U.vm → w.before a' U = true) ∧ Cond.codeWith y bytes maxL ret hh ∈ ws) ∧
  (Cond.codeWith y bytes maxL ret hh).before args s = true ∧ (Cond.initialized y.cls).before args s = true ∧ (y.cls ≠ "java/lang/invoke/MethodHandle" ∧ y.cls ≠ "java/lang/invoke/VarHandle") ∧
  (∀ sig, parseMethodDescriptor y.desc = some sig → n = sig.parameters.length) ∧ (Cond.methodLink own index y).before args s = true ∧ (Cond.static y).before args s = true
theorem vx_cwSW {own : String} {index maxL mc ms : Nat} {y : MethodName} {bytes : ByteArray} {ret : Option FieldType} {hh : List (Nat × Nat × Nat × Nat)} {Ts ws ws' : List Cond} {rm : Room} (n : Nat) (ht : ∀ w ∈ Ts, w.before args s = true) (hT : GoodIn Ts (va_wsS own index y ws)) (hw : ws = Cond.codeWith y bytes maxL ret hh :: ws') (hrc : rm.cells = mc) (hrs : rm.slots = ms)
    (hd : y.cls ≠ "java/lang/invoke/MethodHandle" ∧ y.cls ≠ "java/lang/invoke/VarHandle" ∧ (parseMethodDescriptor y.desc).map (fun d => d.parameters.length) = some n) (hR : rm.frames + 1 ≤ R.frames ∧ 8 + (maxL + 11) + rm.locals ≤ R.locals) :
    vx_CSW R s args own index y bytes maxL ret hh ws rm mc ms n := by
  have ok : ∀ w ∈ va_wsS own index y ws, w.before args s = true := fun w h => ht w (hT w h).1
  have hG : GoodIn Ts ws := fun w h => hT w (by unfold va_wsS; exact List.mem_append_right _ h)
  have hc : Cond.codeWith y bytes maxL ret hh ∈ ws := by rw [hw]; exact List.mem_cons_self
  refine ⟨⟨hrc, hrs, hR.1, hR.2, pay_in ht hG, hc⟩, ht _ (hG _ hc).1, ok _ (by simp [va_wsS]), ⟨hd.1, hd.2.1⟩, fun sig h => ?_, ok _ (by simp [va_wsS]), ok _ (by simp [va_wsS])⟩
  have h2 := hd.2.2
  rw [h] at h2
  exact (Option.some.inj h2).symm
theorem vx_callSW (X : Stand p l e R s m args below meth c T locs cells slots) (hexec : p.tables.exec = Jvm.exec) {own : String} {index : Nat} {y : MethodName} {bytes : ByteArray} {maxL : Nat} {ret : Option FieldType} {hh : List (Nat × Nat × Nat × Nat)}
    (hown : s.vm.findClass own = some m.cls) (hlink : (Cond.methodLink own index y).before args s = true) (hstat : (Cond.static y).before args s = true) (hinit : (Cond.initialized y.cls).before args s = true)
    (hcode : (Cond.codeWith y bytes maxL ret hh).before args s = true) (hy : y.cls ≠ "java/lang/invoke/MethodHandle" ∧ y.cls ≠ "java/lang/invoke/VarHandle")
    {W9 : Nat} {Pre : Pt → Array Value → Prop} {Post : Pt → Array Value → Option Value → Pt → Prop} (hK : Back l R p e below s args y 3 W9 Pre Post)
    {g : JFrame} (hg : g.method = m) (hsize : g.locals.size = c.maxLocals) {argsL rest : List Value} (hlen : ∀ sig, parseMethodDescriptor y.desc = some sig → argsL.length = sig.parameters.length)
    (hstack : g.stack = argsL.reverse ++ rest) (hW : 2 * g.monitorRoom + (rest.map fun v => v.category).sum ≤ W9) (hdg : decode c.code g.pc = .ok (.invokestatic index, 3))
    (hpre : ∀ vm₁, s.WarmedH vm₁ → Pre ⟨T.setVm vm₁, locs, cells, slots⟩ argsL.toArray) :
    ∃ (v : Option Value) (vm₁ : Vm) (B : Pt), s.WarmedH vm₁ ∧ Stand p l e R s m args below meth c B.U B.locs B.cells B.slots ∧ Post ⟨T.setVm vm₁, locs, cells, slots⟩ argsL.toArray v B ∧
      ∀ target, Steps p.tables e below (B.U.setTop { g with pc := g.pc + 3, stack := v.toList ++ rest }) target → Steps p.tables e below (T.setTop g) target := by
  obtain ⟨mk, methM, cM, hnamed, hmethM, -, -, -, -, -, -, hsigM⟩ := Cond.codeWith_spec hcode
  have hstatic : methM.isStatic = true := Cond.static_spec hnamed hmethM hstat
  obtain ⟨kP, hkP, -⟩ := className_of_methodNamed hnamed
  have hinitP : kP.init = .initialized := Cond.initialized_spec (findClass_of_methodNamed hnamed) hkP hinit
  obtain ⟨vm₁, X₁, hstep₁⟩ := X.invokestatic hexec hown hlink hnamed hmethM hstatic hkP hinitP hy (g := g) hg (argsL := argsL) (rest := rest) (hlen _ hsigM) hstack hdg
  obtain ⟨v, B, X', hpost, hsteps⟩ := hK m meth c ⟨T.setVm vm₁, locs, cells, slots⟩ { g with stack := rest } (.invokestatic index) mk argsL.toArray X₁ hg hsize hdg hW (X₁.named hnamed) (hpre vm₁ X₁.warmed)
  exact ⟨v, vm₁, B, X₁.warmed, X', hpost, fun target h => hstep₁ _ fun acts => by rw [doInvoke_state]; exact hsteps.trans h⟩
theorem vx_runSW {y : MethodName} {bytes cc : ByteArray} {maxL nL mc ms n index : Nat} {ret : Option FieldType} {hh : List (Nat × Nat × Nat × Nat)} {ws : List Cond} {rm : Room} {Pc : Array Value → State → Prop} {Qc : Array Value → State → Outcome → State → Prop} {free : Addr → Prop} {Ts : List Cond} {own : String} {As rest : List Value} {g : JFrame}
    (S : CallFix p m c cc nL s args Ts own) (hM : Met l y ws rm Pc Qc mc ms free) (cw : vx_CSW R s args own index y bytes maxL ret hh ws rm mc ms n) (hp : PreS s H Pc As)
    (hg : g.method = m) (hn : As.length = n) (hsize : g.locals.size = nL) (hstack : g.stack = As.reverse ++ rest) (hW : 2 * g.monitorRoom + (rest.map fun v => v.category).sum ≤ 8) (hdg : decode cc g.pc = .ok (.invokestatic index, 3)) (hf : cells + mc ≤ R.cells ∧ slots + ms ≤ R.slots) :
    va_Run p l e R s m args below meth c H locs cells slots mc ms g rest (Qc As.toArray) (free) := by
  obtain ⟨⟨hrc, hrs, hfr, hlo, hws, hcw⟩, hcode, hini, hy, hlen, hl, hstt⟩ := cw
  have hK : Back l R p e below s args y 3 8 (PreOf R mc ms Pc) (PostOf Qc mc ms free) := va_backW (hh := hh) (bytes := bytes) (maxL := maxL) (ret := ret) hM hp.1 hrc hrs hfr hlo hws hcw (fun a' U hW => word_at hW (Or.inl (by first | rfl | simp [Cond.onTables, Cond.keeps, Cond.steady])) hini)
  obtain ⟨hx, hb, hml, ho, -⟩ := S
  intro T hT X
  obtain ⟨v, vm₁, ⟨U', l2, c2, s2⟩, hW₁, X', ⟨g', mk, t, L, e1, e2, hq, h1, hL, h2, h3⟩, st⟩ := vx_callSW X hx (hh := hh) (bytes := bytes) (maxL := maxL) (ret := ret) ho hl hstt hini hcode hy hK hg (hsize.trans hml.symm) (argsL := As) (rest := rest) (fun sig h => hn.trans (hlen sig h)) hstack hW (by rw [hb]; exact hdg)
    (fun vm₁ hW₁ => ⟨hf.1, hf.2, hp.2 (T.setVm vm₁) hT hW₁⟩)
  dsimp only [Pt.U, Pt.locs, Pt.cells, Pt.slots] at X' e1 e2 h1 h2 h3 st
  subst h1; subst h2; subst h3
  exact ⟨v, (T.setVm vm₁).calling g' mk As.toArray, t, U', L, hT, X', hL, e1, e2, hq, st⟩
/-- not caught here, past rows that name other classes: it goes on to the caller -/
theorem vx_outP {p : Program} {l : Launch} {e : Env} {R : Room} {s : State} {m : MethodId} {args : Array Value} {below : List Frame} {meth : Method} {c : Code} {H : Heap} {locs : List Loc} {cells slots : Nat} {free : Addr → Prop} {ls : Array Slot} {rest : List Value} {Qc : Array Value → State → Outcome → State → Prop} {XC : String → State → State → Prop}
    {pc : Nat} {own E : String} {ce : Cell} {q : Addr} {mc ms : Nat} (hown : s.vm.findClass own = some m.cls) (hlocks : meth.locks = false)
    (hpass : ∀ z ∈ c.exceptionTable.toList, covers z pc = false ∨ (z.catchType ≠ 0 ∧ ∃ nm : String, (Cond.classLink own z.catchType nm).before args s = true ∧ va_Nc E nm s)) (hcell : H[q]? = some ce) (hv : ce.vm = .none) (hcl : s.vm.findClass E = some ce.cls)
    (hx : ∀ t : State, t.heap = H → s.vm.Alike t.vm → XC E s t) (hf : ∀ z ∈ locs, free z.base) (hc : cells ≤ mc) (hs : slots ≤ ms) :
    vx_W p l e R s m args below meth c H locs cells slots (vx_MQ below Qc XC args s mc ms free) (F0 m pc ls rest) q := by
  intro T hT X
  have hpl : e.platform.magicAccessors = ({} : Platform).magicAccessors := by rw [X.admits.platform]
  obtain ⟨vm', hW', X', st⟩ := X.outThrough hlocks q (g := F0 m pc ls rest) rfl rfl rfl (cell := ce) (by rw [hT]; exact hcell) (by rw [hv]; rfl)
    (by obtain ⟨k9, h9, -⟩ := Vm.findClass_spec hcl; exact ⟨k9, h9⟩) (fun z hz => by
      rcases hpass z hz with h | ⟨hz0, nm, hl1, hn1⟩
      · exact Or.inl h
      · obtain ⟨c6, hc6, hcl6⟩ := Cond.classLink_spec hown hl1 e.platform hpl
        obtain ⟨a8, b8, h1, h2, h3⟩ := hn1
        cases Option.some.inj (h1.symm.trans hcl)
        cases Option.some.inj (h2.symm.trans hc6)
        exact Or.inr ⟨hz0, _, hcl6, h3⟩)
  obtain ⟨g₀, hfr⟩ := X'.frames_eq
  have hcell9 : ((T.setVm vm').setFrames (.throwing q :: below)).heap[q]? = some ce := by
    show T.heap[q]? = some ce
    rw [hT]; exact hcell
  have hend : Ended ((T.setVm vm').setFrames (.throwing q :: below)) below (.threw q) := State.frames_setFrames _ (State.cur_lt_of_frames hfr)
  refine ⟨(T.setVm vm').setFrames (.throwing q :: below), ?_, .threw q, X'.here.running, hend, Or.inr ⟨q, rfl, E, ce, locs, hx _ hT (X'.ends _).1.alike, hcell9, hv, hcl, (X'.ends _).1, (X'.ends _).2.mono hc hs, hf⟩⟩
  rw [X.pushThrowing_eq]
  exact st
/-- a thing of a world lies in the heap -/
theorem vx_lt {D : va_G} {cl : List vw_C} {ws : va_W} {H1 : Heap} (h : va_P D cl ws H1) {k : Nat} {q : Nat × va_E} (hk : ws[k]? = some q) : q.1 < H1.size := (h k q hk).lt
end VXS
/-! ===== END ===== -/
/-! ===== BEGIN methods with a table of their own: called by a name, returning or throwing ===== -/
section VXH
/-! vx_backW, vx_callVX, vx_callSX, vx_callVW, vx_runVW, vx_runVX, vx_runSX, vx_ofWH follow the same proofs as their sisters above (Free/Laws.lean, Shelf42/LK1.lean); vx_outP calls Shelf42/NT130.lean (outThrough). -/
section
variable {l : Launch} {R : Room} {p : Program} {e : Env} {below : List Frame} {s : State} {sargs : Array Value} {y : MethodName} {len W9 : Nat}
theorem vx_backW {ws : List Cond} {rm : Room} {Pc : Array Value → State → Prop} {Qc : Array Value → State → Outcome → State → Prop} {XC : String → State → State → Prop} {mc ms : Nat} {free : Addr → Prop} {bytes : ByteArray} {maxL : Nat} {ret : Option FieldType} {hh : List (Nat × Nat × Nat × Nat)}
    (hM : vx_Met l y ws rm Pc Qc XC mc ms free) (hblind : FrameBlind Pc) (hrc : rm.cells = mc) (hrs : rm.slots = ms)
    (hframes : rm.frames + 1 ≤ R.frames) (hlocals : W9 + (maxL + 11) + rm.locals ≤ R.locals)
    (hws : ∀ w ∈ ws, ∀ a' U, s.WarmedH U.vm → w.before a' U = true) (hcode : Cond.codeWith y bytes maxL ret hh ∈ ws) (hinit : ∀ a' U, s.WarmedH U.vm → (Cond.initialized y.cls).before a' U = true) :
    vx_Back l R p e below s sargs y len W9 (PreOf R mc ms Pc) (PostOf Qc mc ms free) (vx_Post XC mc ms free) := by
  intro m meth c A g ig mk a X hg hsize hdg hW hn hp
  have h1 : (headSpec ws rm).pre.before a A.U = true := atoms_intro fun w hw => hws w hw _ _ X.warmed
  have h2 : (Cond.codeWith y bytes maxL ret hh).before a A.U = true := hws _ hcode _ _ X.warmed
  have h3 : (Cond.initialized y.cls).before a A.U = true := hinit _ _ X.warmed
  have h4 : A.cells + (headSpec ws rm).room.cells ≤ R.cells := by rw [show (headSpec ws rm).room.cells = mc from hrc]; exact hp.1
  have h5 : A.slots + (headSpec ws rm).room.slots ≤ R.slots := by rw [show (headSpec ws rm).room.slots = ms from hrs]; exact hp.2.1
  have hPc : Pc a (A.U.calling g mk a) := hblind _ _ _ _ hp.2.2
  obtain ⟨U, Ls, c0, s0⟩ := A
  dsimp only [Pt.U, Pt.locs, Pt.cells, Pt.slots] at h1 h2 h3 h4 h5 X hn hPc ⊢
  obtain ⟨m9, methY, cY, hn9, hmY, hcY, -, hlY, -⟩ := Cond.codeWith_spec h2
  cases Option.some.inj (hn9.symm.trans hn)
  obtain ⟨kY, hkY, -⟩ := className_of_methodNamed hn
  have hinitY : kY.init = .initialized := Cond.initialized_spec (findClass_of_methodNamed hn) hkY h3
  have h : At U g.method c below := by rw [hg]; exact X.here
  have hlocals9 : W9 + (maxL + 11) + (headSpec ws rm).room.locals ≤ R.locals := hlocals
  have happ : (headSpec ws rm).appliesLoose y e.platform (U.calling g mk a) = true :=
    Spec.appliesLoose_calling (g := g) h hdg hn hkY hinitY
      (X.room_calling (g := g) (R' := (headSpec ws rm).room) hsize hmY hcY hframes (by rw [hlY]; omega) h4 h5) h1
  obtain ⟨mid, hmid⟩ := h.above
  have hfr : (U.setTop g).frames = (.java g :: mid) ++ below := by rw [State.frames_setTop' g h.top, hmid]; rfl
  obtain ⟨o, s₂, hsteps, -, hend, hq⟩ := Steps.callFree hM p X.admits X.cas X.clock (acts := []) hfr happ hPc trivial
  have hq' : vx_Q Qc XC mc ms free a (U.calling g mk a) o s₂ := hq
  rw [State.frames_setTop' g h.top] at hend
  obtain ⟨g₀, hg0⟩ := Option.isSome_iff_exists.mp h.top
  obtain ⟨r, hr⟩ := State.topJava?_eq_some.mp hg0
  have hr' : (({ U with heap := s₂.heap, slotsUsed := s₂.slotsUsed } : State).setVm s₂.vm).frames = .java g₀ :: r := hr
  rcases hq' with ⟨hqc, L, hfe, hL⟩ | ⟨q, rfl, E, ce, L, hx, hce, hcv, hcl, hW₂, hsm, hL⟩
  · obtain ⟨⟨v, rfl⟩, hW₂, e2, q2, q3, q4, q5, q6⟩ := id hfe
    have e3 : s₂ = ({ (U.calling g mk a).setFrames s₂.frames with heap := s₂.heap, slotsUsed := s₂.slotsUsed } : State).setVm s₂.vm := by
      have : s₂ = ({ s₂ with vm := (U.calling g mk a).vm } : State).setVm s₂.vm := rfl
      rw [e2] at this
      exact this
    obtain ⟨c₂, i₂, len₂, hc₂, hd₂, hf₂⟩ := hend
    have hW' : U.WarmedH s₂.vm := hW₂
    have hcc : c₂ = c := by
      have h1 : s₂.code? g.method = U.code? g.method := by
        rw [State.code?_eq, State.code?_eq, hW'.alike.method?]
      exact Option.some.inj (hc₂.symm.trans (h1.trans h.code))
    subst hcc
    have hlen : len₂ = len := by rw [hdg] at hd₂; cases hd₂; rfl
    subst hlen
    have hs₂ : s₂ = (({ U with heap := s₂.heap, slotsUsed := s₂.slotsUsed } : State).setVm s₂.vm).setTop { g with pc := g.pc + len₂, stack := v.toList ++ g.stack } := by
      refine e3.trans ?_
      rw [hf₂, State.calling_eq h.top, State.setFrames_setFrames, State.setTop_of_frames _ hr', hr]
      rfl
    have hsame : U.sameButNew ({ U with heap := s₂.heap, slotsUsed := s₂.slotsUsed } : State) L mc ms := by
      refine ⟨?_, q2, q3, q4, q5, q6⟩
      obtain ⟨t, ht, -⟩ := State.frames_cons hr
      show ({ U with heap := s₂.heap, slotsUsed := s₂.slotsUsed } : State) = { U.setFrames U.frames with heap := s₂.heap, slotsUsed := s₂.slotsUsed }
      rw [State.setFrames_self ht]
    subst hg
    refine Or.inl ⟨v, ⟨(({ U with heap := s₂.heap, slotsUsed := s₂.slotsUsed } : State).setVm s₂.vm), Ls ++ L, c0 + mc, s0 + ms⟩,
      ⟨X.admits, X.cas, X.clock, X.frames, X.room, X.hears, X.method, X.code, (X.here.setHeapUsed s₂.heap s₂.slotsUsed).setVm hW'.alike, X.tail, State.WarmedH.trans X.warmed hW', X.limits, X.bytes, X.same.trans (hsame.setVm s.vm)⟩,
      ⟨g, mk, s₂, L, rfl, rfl, hqc, rfl, hL, rfl, rfl⟩, ?_⟩
    show Steps p.tables e below _ ((({ U with heap := s₂.heap, slotsUsed := s₂.slotsUsed } : State).setVm s₂.vm).setTop { g with pc := g.pc + len₂, stack := v.toList ++ g.stack })
    rw [← hs₂]
    exact hsteps
  · obtain ⟨e2, q2, q3, q4, q5, q6⟩ := id hsm
    have e3 : s₂ = ({ (U.calling g mk a).setFrames s₂.frames with heap := s₂.heap, slotsUsed := s₂.slotsUsed } : State).setVm s₂.vm := by
      have : s₂ = ({ s₂ with vm := (U.calling g mk a).vm } : State).setVm s₂.vm := rfl
      rw [e2] at this
      exact this
    have hf₂ : s₂.frames = .throwing q :: .java g :: U.frames.tail := hend
    have hW' : U.WarmedH s₂.vm := hW₂
    have hs₂ : s₂ = ((({ U with heap := s₂.heap, slotsUsed := s₂.slotsUsed } : State).setVm s₂.vm).setTop g).pushFrame (.throwing q) := by
      refine e3.trans ?_
      rw [hf₂, State.calling_eq h.top, State.setFrames_setFrames, State.pushFrame, State.frames_setTop _ hr', State.setTop_of_frames _ hr', State.setFrames_setFrames, hr]
      rfl
    have hsame : U.sameButNew ({ U with heap := s₂.heap, slotsUsed := s₂.slotsUsed } : State) L mc ms := by
      refine ⟨?_, q2, q3, q4, q5, q6⟩
      obtain ⟨t, ht, -⟩ := State.frames_cons hr
      show ({ U with heap := s₂.heap, slotsUsed := s₂.slotsUsed } : State) = { U.setFrames U.frames with heap := s₂.heap, slotsUsed := s₂.slotsUsed }
      rw [State.setFrames_self ht]
    subst hg
    refine Or.inr ⟨q, ⟨(({ U with heap := s₂.heap, slotsUsed := s₂.slotsUsed } : State).setVm s₂.vm), Ls ++ L, c0 + mc, s0 + ms⟩,
      ⟨X.admits, X.cas, X.clock, X.frames, X.room, X.hears, X.method, X.code, (X.here.setHeapUsed s₂.heap s₂.slotsUsed).setVm hW'.alike, X.tail, State.WarmedH.trans X.warmed hW', X.limits, X.bytes, X.same.trans (hsame.setVm s.vm)⟩,
      ⟨g, mk, s₂, L, E, ce, rfl, rfl, hx, hce, hcv, hcl, rfl, hL, rfl, rfl⟩, ?_⟩
    show Steps p.tables e below _ (((({ U with heap := s₂.heap, slotsUsed := s₂.slotsUsed } : State).setVm s₂.vm).setTop g).pushFrame (.throwing q))
    rw [← hs₂]
    exact hsteps
end
variable {p : Program} {l : Launch} {e : Env} {R : Room} {s : State} {m : MethodId} {args : Array Value} {below : List Frame} {meth : Method} {c : Code} {T : State} {H : Heap} {locs : List Loc} {cells slots : Nat}
theorem vx_callVX (X : Stand p l e R s m args below meth c T locs cells slots) (hexec : p.tables.exec = Jvm.exec) {own C : String} {index : Nat} {y : MethodName} {bytes : ByteArray} {maxL : Nat} {ret : Option FieldType} {hh : List (Nat × Nat × Nat × Nat)}
    (hown : s.vm.findClass own = some m.cls) (hlink : (Cond.methodLink own index y).before args s = true) (hinst : (Cond.instanceMethod y).before args s = true) (hsel : (Cond.selects C y y).before args s = true)
    (hcode : (Cond.codeWith y bytes maxL ret hh).before args s = true) (hy : y.cls ≠ "java/lang/invoke/MethodHandle" ∧ y.cls ≠ "java/lang/invoke/VarHandle")
    {W9 : Nat} {Pre : Pt → Array Value → Prop} {Post : Pt → Array Value → Option Value → Pt → Prop} {PostX : Pt → Array Value → Addr → Pt → Prop} (hK : vx_Back l R p e below s args y 3 W9 Pre Post PostX)
    {b : Addr} {cellB : Cell} (hcell : T.heap[b]? = some cellB) (hobj : cellB.vm.isStatics = false) (hcls : s.vm.findClass C = some cellB.cls)
    {g : JFrame} (hg : g.method = m) (hsize : g.locals.size = c.maxLocals) {argsL rest : List Value} (hlen : ∀ sig, parseMethodDescriptor y.desc = some sig → argsL.length = sig.parameters.length)
    (hstack : g.stack = argsL.reverse ++ .ref b :: rest) (hW : 2 * g.monitorRoom + (rest.map fun v => v.category).sum ≤ W9) (hdg : decode c.code g.pc = .ok (.invokevirtual index, 3))
    (hpre : ∀ vm₁, s.WarmedH vm₁ → Pre ⟨T.setVm vm₁, locs, cells, slots⟩ (Value.ref b :: argsL).toArray) :
    (∃ (v : Option Value) (vm₁ : Vm) (B : Pt), s.WarmedH vm₁ ∧ Stand p l e R s m args below meth c B.U B.locs B.cells B.slots ∧ Post ⟨T.setVm vm₁, locs, cells, slots⟩ (Value.ref b :: argsL).toArray v B ∧
      ∀ target, Steps p.tables e below (B.U.setTop { g with pc := g.pc + 3, stack := v.toList ++ rest }) target → Steps p.tables e below (T.setTop g) target) ∨
    (∃ (q : Addr) (vm₁ : Vm) (B : Pt), s.WarmedH vm₁ ∧ Stand p l e R s m args below meth c B.U B.locs B.cells B.slots ∧ PostX ⟨T.setVm vm₁, locs, cells, slots⟩ (Value.ref b :: argsL).toArray q B ∧
      Steps p.tables e below (T.setTop g) ((B.U.setTop { g with stack := rest }).pushFrame (.throwing q))) := by
  obtain ⟨mk, methM, hnamed, hmethM, hstM, habM⟩ := Cond.instanceMethod_spec hinst
  obtain ⟨m8, methM', cM, hn8, hmethM', -, -, -, -, -, -, hsigM⟩ := Cond.codeWith_spec hcode
  cases Option.some.inj (hn8.symm.trans hnamed)
  cases hmethM.symm.trans hmethM'
  obtain ⟨c2, r2, m2, q1, q2, q3, q4, kP, hkP, hkPi⟩ := Cond.selects_spec hsel
  cases hcls.symm.trans q1
  cases (State.methodFound?_of_named hnamed hy).symm.trans q2
  cases hnamed.symm.trans q3
  have hselP : selectMethod e.platform s.vm cellB.cls mk = .method mk := by rw [Launch.admits_selectMethod X.admits]; exact q4
  obtain ⟨vm₁, X₁, hstep₁⟩ := X.invokevirtual hexec hown hlink hnamed hmethM hstM hkP hkPi hy (a := b) (cell := cellB) hcell
    (fun z h => by rw [h] at hobj; cases hobj) hselP hmethM habM hkP hkPi (g := g) hg (argsL := argsL) (rest := rest) (hlen _ hsigM) hstack hdg
  rcases hK m meth c ⟨T.setVm vm₁, locs, cells, slots⟩ { g with stack := rest } (.invokevirtual index) mk (Value.ref b :: argsL).toArray X₁ hg hsize hdg hW (X₁.named hnamed) (hpre vm₁ X₁.warmed) with ⟨v, B, X', hpost, hsteps⟩ | ⟨q, B, X', hpost, hsteps⟩
  · exact Or.inl ⟨v, vm₁, B, X₁.warmed, X', hpost, fun target h => hstep₁ _ fun acts => by rw [doInvoke_state]; exact hsteps.trans h⟩
  · exact Or.inr ⟨q, vm₁, B, X₁.warmed, X', hpost, hstep₁ _ fun acts => by rw [doInvoke_state]; exact hsteps⟩
theorem vx_callSX (X : Stand p l e R s m args below meth c T locs cells slots) (hexec : p.tables.exec = Jvm.exec) {own : String} {index : Nat} {y : MethodName} {bytes : ByteArray} {maxL : Nat} {ret : Option FieldType} {hh : List (Nat × Nat × Nat × Nat)}
    (hown : s.vm.findClass own = some m.cls) (hlink : (Cond.methodLink own index y).before args s = true) (hstat : (Cond.static y).before args s = true) (hinit : (Cond.initialized y.cls).before args s = true)
    (hcode : (Cond.codeWith y bytes maxL ret hh).before args s = true) (hy : y.cls ≠ "java/lang/invoke/MethodHandle" ∧ y.cls ≠ "java/lang/invoke/VarHandle")
    {W9 : Nat} {Pre : Pt → Array Value → Prop} {Post : Pt → Array Value → Option Value → Pt → Prop} {PostX : Pt → Array Value → Addr → Pt → Prop} (hK : vx_Back l R p e below s args y 3 W9 Pre Post PostX)
    {g : JFrame} (hg : g.method = m) (hsize : g.locals.size = c.maxLocals) {argsL rest : List Value} (hlen : ∀ sig, parseMethodDescriptor y.desc = some sig → argsL.length = sig.parameters.length)
    (hstack : g.stack = argsL.reverse ++ rest) (hW : 2 * g.monitorRoom + (rest.map fun v => v.category).sum ≤ W9) (hdg : decode c.code g.pc = .ok (.invokestatic index, 3))
    (hpre : ∀ vm₁, s.WarmedH vm₁ → Pre ⟨T.setVm vm₁, locs, cells, slots⟩ argsL.toArray) :
    (∃ (v : Option Value) (vm₁ : Vm) (B : Pt), s.WarmedH vm₁ ∧ Stand p l e R s m args below meth c B.U B.locs B.cells B.slots ∧ Post ⟨T.setVm vm₁, locs, cells, slots⟩ argsL.toArray v B ∧
      ∀ target, Steps p.tables e below (B.U.setTop { g with pc := g.pc + 3, stack := v.toList ++ rest }) target → Steps p.tables e below (T.setTop g) target) ∨
    (∃ (q : Addr) (vm₁ : Vm) (B : Pt), s.WarmedH vm₁ ∧ Stand p l e R s m args below meth c B.U B.locs B.cells B.slots ∧ PostX ⟨T.setVm vm₁, locs, cells, slots⟩ argsL.toArray q B ∧
      Steps p.tables e below (T.setTop g) ((B.U.setTop { g with stack := rest }).pushFrame (.throwing q))) := by
  obtain ⟨mk, methM, cM, hnamed, hmethM, -, -, -, -, -, -, hsigM⟩ := Cond.codeWith_spec hcode
  have hstatic : methM.isStatic = true := Cond.static_spec hnamed hmethM hstat
  obtain ⟨kP, hkP, -⟩ := className_of_methodNamed hnamed
  have hinitP : kP.init = .initialized := Cond.initialized_spec (findClass_of_methodNamed hnamed) hkP hinit
  obtain ⟨vm₁, X₁, hstep₁⟩ := X.invokestatic hexec hown hlink hnamed hmethM hstatic hkP hinitP hy (g := g) hg (argsL := argsL) (rest := rest) (hlen _ hsigM) hstack hdg
  rcases hK m meth c ⟨T.setVm vm₁, locs, cells, slots⟩ { g with stack := rest } (.invokestatic index) mk argsL.toArray X₁ hg hsize hdg hW (X₁.named hnamed) (hpre vm₁ X₁.warmed) with ⟨v, B, X', hpost, hsteps⟩ | ⟨q, B, X', hpost, hsteps⟩
  · exact Or.inl ⟨v, vm₁, B, X₁.warmed, X', hpost, fun target h => hstep₁ _ fun acts => by rw [doInvoke_state]; exact hsteps.trans h⟩
  · exact Or.inr ⟨q, vm₁, B, X₁.warmed, X', hpost, hstep₁ _ fun acts => by rw [doInvoke_state]; exact hsteps⟩
theorem vx_callVW (X : Stand p l e R s m args below meth c T locs cells slots) (hexec : p.tables.exec = Jvm.exec) {own C : String} {index : Nat} {y : MethodName} {bytes : ByteArray} {maxL : Nat} {ret : Option FieldType} {hh : List (Nat × Nat × Nat × Nat)}
    (hown : s.vm.findClass own = some m.cls) (hlink : (Cond.methodLink own index y).before args s = true) (hinst : (Cond.instanceMethod y).before args s = true) (hsel : (Cond.selects C y y).before args s = true)
    (hcode : (Cond.codeWith y bytes maxL ret hh).before args s = true) (hy : y.cls ≠ "java/lang/invoke/MethodHandle" ∧ y.cls ≠ "java/lang/invoke/VarHandle")
    {W9 : Nat} {Pre : Pt → Array Value → Prop} {Post : Pt → Array Value → Option Value → Pt → Prop} (hK : Back l R p e below s args y 3 W9 Pre Post)
    {b : Addr} {cellB : Cell} (hcell : T.heap[b]? = some cellB) (hobj : cellB.vm.isStatics = false) (hcls : s.vm.findClass C = some cellB.cls)
    {g : JFrame} (hg : g.method = m) (hsize : g.locals.size = c.maxLocals) {argsL rest : List Value} (hlen : ∀ sig, parseMethodDescriptor y.desc = some sig → argsL.length = sig.parameters.length)
    (hstack : g.stack = argsL.reverse ++ .ref b :: rest) (hW : 2 * g.monitorRoom + (rest.map fun v => v.category).sum ≤ W9) (hdg : decode c.code g.pc = .ok (.invokevirtual index, 3))
    (hpre : ∀ vm₁, s.WarmedH vm₁ → Pre ⟨T.setVm vm₁, locs, cells, slots⟩ (Value.ref b :: argsL).toArray) :
    ∃ (v : Option Value) (vm₁ : Vm) (B : Pt), s.WarmedH vm₁ ∧ Stand p l e R s m args below meth c B.U B.locs B.cells B.slots ∧ Post ⟨T.setVm vm₁, locs, cells, slots⟩ (Value.ref b :: argsL).toArray v B ∧
      ∀ target, Steps p.tables e below (B.U.setTop { g with pc := g.pc + 3, stack := v.toList ++ rest }) target → Steps p.tables e below (T.setTop g) target := by
  obtain ⟨mk, methM, hnamed, hmethM, hstM, habM⟩ := Cond.instanceMethod_spec hinst
  obtain ⟨m8, methM', cM, hn8, hmethM', -, -, -, -, -, -, hsigM⟩ := Cond.codeWith_spec hcode
  cases Option.some.inj (hn8.symm.trans hnamed)
  cases hmethM.symm.trans hmethM'
  obtain ⟨c2, r2, m2, q1, q2, q3, q4, kP, hkP, hkPi⟩ := Cond.selects_spec hsel
  cases hcls.symm.trans q1
  cases (State.methodFound?_of_named hnamed hy).symm.trans q2
  cases hnamed.symm.trans q3
  have hselP : selectMethod e.platform s.vm cellB.cls mk = .method mk := by rw [Launch.admits_selectMethod X.admits]; exact q4
  obtain ⟨vm₁, X₁, hstep₁⟩ := X.invokevirtual hexec hown hlink hnamed hmethM hstM hkP hkPi hy (a := b) (cell := cellB) hcell
    (fun z h => by rw [h] at hobj; cases hobj) hselP hmethM habM hkP hkPi (g := g) hg (argsL := argsL) (rest := rest) (hlen _ hsigM) hstack hdg
  obtain ⟨v, B, X', hpost, hsteps⟩ := hK m meth c ⟨T.setVm vm₁, locs, cells, slots⟩ { g with stack := rest } (.invokevirtual index) mk (Value.ref b :: argsL).toArray X₁ hg hsize hdg hW (X₁.named hnamed) (hpre vm₁ X₁.warmed)
  exact ⟨v, vm₁, B, X₁.warmed, X', hpost, fun target h => hstep₁ _ fun acts => by rw [doInvoke_state]; exact hsteps.trans h⟩
abbrev vx_CVW (R : Room) (s : State) (args : Array Value) (own C : String) (index : Nat) (y : MethodName) (bytes : ByteArray) (maxL : Nat) (ret : Option FieldType) (hh : List (Nat × Nat × Nat × Nat)) (ws : List Cond) (rm : Room) (mc ms n : Nat) : Prop :=
  (rm.cells = mc ∧ rm.slots = ms ∧ rm.frames + 1 ≤ R.frames ∧ 8 + (maxL + 11) + rm.locals ≤ R.locals ∧ (∀ w ∈ ws, ∀ (a' : Array Value) (U : State), s.WarmedH U.vm → w.before a' U = true) ∧ Cond.codeWith y bytes maxL ret hh ∈ ws) ∧
  (Cond.codeWith y bytes maxL ret hh).before args s = true ∧ (Cond.initialized y.cls).before args s = true ∧ (y.cls ≠ "java/lang/invoke/MethodHandle" ∧ y.cls ≠ "java/lang/invoke/VarHandle") ∧
  (∀ sig, parseMethodDescriptor y.desc = some sig → n = sig.parameters.length) ∧ (Cond.methodLink own index y).before args s = true ∧ (Cond.instanceMethod y).before args s = true ∧ (Cond.selects C y y).before args s = true
theorem vx_cwVW {own C : String} {index maxL mc ms : Nat} {y : MethodName} {bytes : ByteArray} {ret : Option FieldType} {hh : List (Nat × Nat × Nat × Nat)} {Ts ws ws' : List Cond} {rm : Room} (n : Nat) (ht : ∀ w ∈ Ts, w.before args s = true) (hT : GoodIn Ts (wsV own index C y ws)) (hw : ws = Cond.codeWith y bytes maxL ret hh :: ws') (hrc : rm.cells = mc) (hrs : rm.slots = ms)
    (hd : y.cls = C ∧ y.cls ≠ "java/lang/invoke/MethodHandle" ∧ y.cls ≠ "java/lang/invoke/VarHandle" ∧ (parseMethodDescriptor y.desc).map (fun d => d.parameters.length) = some n) (hR : rm.frames + 1 ≤ R.frames ∧ 8 + (maxL + 11) + rm.locals ≤ R.locals) :
    vx_CVW R s args own C index y bytes maxL ret hh ws rm mc ms n := by
  obtain ⟨hC, hd⟩ := hd
  subst hC
  have ok : ∀ w ∈ wsV own index y.cls y ws, w.before args s = true := fun w h => ht w (hT w h).1
  have hG : GoodIn Ts ws := fun w h => hT w (by unfold wsV; exact List.mem_append_right _ h)
  have hc : Cond.codeWith y bytes maxL ret hh ∈ ws := by rw [hw]; exact List.mem_cons_self
  refine ⟨⟨hrc, hrs, hR.1, hR.2, pay_in ht hG, hc⟩, ht _ (hG _ hc).1, ok _ (by simp [wsV]), ⟨hd.1, hd.2.1⟩, fun sig h => ?_, ok _ (by simp [wsV]), ok _ (by simp [wsV]), ok _ (by simp [wsV])⟩
  have h2 := hd.2.2
  rw [h] at h2
  exact (Option.some.inj h2).symm
theorem vx_runVW {y : MethodName} {bytes cc : ByteArray} {maxL nL mc ms n index : Nat} {ret : Option FieldType} {hh : List (Nat × Nat × Nat × Nat)} {ws : List Cond} {rm : Room} {Pc : Array Value → State → Prop} {Qc : Array Value → State → Outcome → State → Prop} {free : Addr → Prop} {Ts : List Cond} {own C : String} {b : Addr} {As rest : List Value} {g : JFrame}
    (S : CallFix p m c cc nL s args Ts own) (hM : Met l y ws rm Pc Qc mc ms free) (cw : vx_CVW R s args own C index y bytes maxL ret hh ws rm mc ms n) (hp : PreV s H C b Pc As)
    (hg : g.method = m) (hn : As.length = n) (hsize : g.locals.size = nL) (hstack : g.stack = As.reverse ++ .ref b :: rest) (hW : 2 * g.monitorRoom + (rest.map fun v => v.category).sum ≤ 8) (hdg : decode cc g.pc = .ok (.invokevirtual index, 3)) (hf : cells + mc ≤ R.cells ∧ slots + ms ≤ R.slots) :
    va_Run p l e R s m args below meth c H locs cells slots mc ms g rest (Qc (Value.ref b :: As).toArray) free := by
  obtain ⟨⟨hrc, hrs, hfr, hlo, hws, hcw⟩, hcode, hini, hy, hlen, hl, hin, hse⟩ := cw
  have hK : Back l R p e below s args y 3 8 (PreOf R mc ms Pc) (PostOf Qc mc ms free) := va_backW (hh := hh) (bytes := bytes) (maxL := maxL) (ret := ret) hM hp.1 hrc hrs hfr hlo hws hcw (fun a' U hW => word_at hW (Or.inl (by first | rfl | simp [Cond.onTables, Cond.keeps, Cond.steady])) hini)
  obtain ⟨hx, hb, hml, ho, -⟩ := S
  obtain ⟨-, ⟨cellB, hcB, hoB, hclB⟩, hPc⟩ := hp
  intro T hT X
  obtain ⟨v, vm₁, ⟨U', l2, c2, s2⟩, hW₁, X', ⟨g', mk, t, L, e1, e2, hq, h1, hL, h2, h3⟩, st⟩ := vx_callVW X hx (C := C) (hh := hh) (bytes := bytes) (maxL := maxL) (ret := ret) ho hl hin hse hcode hy hK (by rw [hT]; exact hcB) hoB hclB hg (hsize.trans hml.symm) (argsL := As) (rest := rest) (fun sig h => hn.trans (hlen sig h)) hstack hW (by rw [hb]; exact hdg)
    (fun vm₁ hW₁ => ⟨hf.1, hf.2, hPc (T.setVm vm₁) hT hW₁⟩)
  dsimp only [Pt.U, Pt.locs, Pt.cells, Pt.slots] at X' e1 e2 h1 h2 h3 st
  subst h1; subst h2; subst h3
  exact ⟨v, (T.setVm vm₁).calling g' mk (Value.ref b :: As).toArray, t, U', L, hT, X', hL, e1, e2, hq, st⟩
section
variable {y : MethodName} {bytes cc : ByteArray} {maxL nL mc ms n index : Nat} {ret : Option FieldType} {ws : List Cond} {rm : Room} {Pc : Array Value → State → Prop} {Qc : Array Value → State → Outcome → State → Prop} {XC : String → State → State → Prop} {free : Addr → Prop} {Ts : List Cond} {own C : String} {b : Addr} {As rest : List Value} {g : JFrame}
theorem vx_runVX {hh : List (Nat × Nat × Nat × Nat)} (S : CallFix p m c cc nL s args Ts own) (hM : vx_Met l y ws rm Pc Qc XC mc ms free) (cw : vx_CVW R s args own C index y bytes maxL ret hh ws rm mc ms n) (hp : PreV s H C b Pc As)
    (hg : g.method = m) (hn : As.length = n) (hsize : g.locals.size = nL) (hstack : g.stack = As.reverse ++ .ref b :: rest) (hW : 2 * g.monitorRoom + (rest.map fun v => v.category).sum ≤ 8) (hdg : decode cc g.pc = .ok (.invokevirtual index, 3)) (hf : cells + mc ≤ R.cells ∧ slots + ms ≤ R.slots) :
    vx_Run p l e R s m args below meth c H locs cells slots mc ms g rest (Qc (Value.ref b :: As).toArray) XC free := by
  obtain ⟨⟨hrc, hrs, hfr, hlo, hws, hcw⟩, hcode, hini, hy, hlen, hl, hin, hse⟩ := cw
  have hK : vx_Back l R p e below s args y 3 8 (PreOf R mc ms Pc) (PostOf Qc mc ms free) (vx_Post XC mc ms free) := vx_backW (hh := hh) (bytes := bytes) (maxL := maxL) (ret := ret) hM hp.1 hrc hrs hfr hlo hws hcw (fun a' U hW => word_at hW (Or.inl (by first | rfl | simp [Cond.onTables, Cond.keeps, Cond.steady])) hini)
  obtain ⟨hx, hb, hml, ho, -⟩ := S
  obtain ⟨-, ⟨cellB, hcB, hoB, hclB⟩, hPc⟩ := hp
  intro T hT X
  rcases vx_callVX X hx (C := C) (hh := hh) (bytes := bytes) (maxL := maxL) (ret := ret) ho hl hin hse hcode hy hK (by rw [hT]; exact hcB) hoB hclB hg (hsize.trans hml.symm) (argsL := As) (rest := rest) (fun sig h => hn.trans (hlen sig h)) hstack hW (by rw [hb]; exact hdg)
    (fun vm₁ hW₁ => ⟨hf.1, hf.2, hPc (T.setVm vm₁) hT hW₁⟩) with ⟨v, vm₁, ⟨U', l2, c2, s2⟩, hW₁, X', ⟨g', mk, t, L, e1, e2, hq, h1, hL, h2, h3⟩, st⟩ | ⟨q, vm₁, ⟨U', l2, c2, s2⟩, hW₁, X', ⟨g', mk, t, L, E, ce, e1, e2, hq, hce, hcv, hcl, h1, hL, h2, h3⟩, st⟩
  · dsimp only [Pt.U, Pt.locs, Pt.cells, Pt.slots] at X' e1 e2 h1 h2 h3 st
    subst h1; subst h2; subst h3
    exact Or.inl ⟨v, (T.setVm vm₁).calling g' mk (Value.ref b :: As).toArray, t, U', L, hT, X', hL, e1, e2, hq, st⟩
  · dsimp only [Pt.U, Pt.locs, Pt.cells, Pt.slots] at X' e1 e2 h1 h2 h3 st hcl
    subst h1; subst h2; subst h3
    exact Or.inr ⟨q, (T.setVm vm₁).calling g' mk (Value.ref b :: As).toArray, t, U', L, E, ce, hT, X', hL, e1, e2, hq, hce, hcv, vx_cls hW₁ hcl, st⟩
theorem vx_runSX {hh : List (Nat × Nat × Nat × Nat)} (S : CallFix p m c cc nL s args Ts own) (hM : vx_Met l y ws rm Pc Qc XC mc ms free) (cw : vx_CSW R s args own index y bytes maxL ret hh ws rm mc ms n) (hp : PreS s H Pc As)
    (hg : g.method = m) (hn : As.length = n) (hsize : g.locals.size = nL) (hstack : g.stack = As.reverse ++ rest) (hW : 2 * g.monitorRoom + (rest.map fun v => v.category).sum ≤ 8) (hdg : decode cc g.pc = .ok (.invokestatic index, 3)) (hf : cells + mc ≤ R.cells ∧ slots + ms ≤ R.slots) :
    vx_Run p l e R s m args below meth c H locs cells slots mc ms g rest (Qc As.toArray) XC free := by
  obtain ⟨⟨hrc, hrs, hfr, hlo, hws, hcw⟩, hcode, hini, hy, hlen, hl, hstt⟩ := cw
  have hK : vx_Back l R p e below s args y 3 8 (PreOf R mc ms Pc) (PostOf Qc mc ms free) (vx_Post XC mc ms free) := vx_backW (hh := hh) (bytes := bytes) (maxL := maxL) (ret := ret) hM hp.1 hrc hrs hfr hlo hws hcw (fun a' U hW => word_at hW (Or.inl (by first | rfl | simp [Cond.onTables, Cond.keeps, Cond.steady])) hini)
  obtain ⟨hx, hb, hml, ho, -⟩ := S
  intro T hT X
  rcases vx_callSX X hx (hh := hh) (bytes := bytes) (maxL := maxL) (ret := ret) ho hl hstt hini hcode hy hK hg (hsize.trans hml.symm) (argsL := As) (rest := rest) (fun sig h => hn.trans (hlen sig h)) hstack hW (by rw [hb]; exact hdg)
    (fun vm₁ hW₁ => ⟨hf.1, hf.2, hp.2 (T.setVm vm₁) hT hW₁⟩) with ⟨v, vm₁, ⟨U', l2, c2, s2⟩, hW₁, X', ⟨g', mk, t, L, e1, e2, hq, h1, hL, h2, h3⟩, st⟩ | ⟨q, vm₁, ⟨U', l2, c2, s2⟩, hW₁, X', ⟨g', mk, t, L, E, ce, e1, e2, hq, hce, hcv, hcl, h1, hL, h2, h3⟩, st⟩
  · dsimp only [Pt.U, Pt.locs, Pt.cells, Pt.slots] at X' e1 e2 h1 h2 h3 st
    subst h1; subst h2; subst h3
    exact Or.inl ⟨v, (T.setVm vm₁).calling g' mk As.toArray, t, U', L, hT, X', hL, e1, e2, hq, st⟩
  · dsimp only [Pt.U, Pt.locs, Pt.cells, Pt.slots] at X' e1 e2 h1 h2 h3 st hcl
    subst h1; subst h2; subst h3
    exact Or.inr ⟨q, (T.setVm vm₁).calling g' mk As.toArray, t, U', L, E, ce, hT, X', hL, e1, e2, hq, hce, hcv, vx_cls hW₁ hcl, st⟩
end
end VXH
theorem vx_ofWH {l : Launch} {y : MethodName} {ws ws' : List Cond} {rm : Room} {Pc : Array Value → State → Prop} {Qc : Array Value → State → Outcome → State → Prop} {XC : String → State → State → Prop} {mc ms : Nat} {free : Addr → Prop} {cc : ByteArray} {maxL : Nat} {ret : Option FieldType} {hh : List (Nat × Nat × Nat × Nat)}
    (hy : plainName y.cls = true) (hw : ws = Cond.codeWith y cc maxL ret hh :: ws')
    (body : ∀ p e s m args below meth c s₁, BodyLoose p l y (headSpec ws rm) cc maxL ret e s m args below meth c s₁ → c.maxLocals = maxL → Pc args s →
      W p l e (headSpec ws rm).room s m args below meth c s.heap [] 0 0 (vx_MQ below Qc XC args s mc ms free) (entryFrame m args maxL)) : vx_Met l y ws rm Pc Qc XC mc ms free := by
  refine MetFree.of_bodyS (code := cc) (maxLocals := maxL) (ret := ret) hy ?_ ?_
  · intro args s m h hn
    obtain ⟨m9, meth, c, hn9, h1, h2, h3, h4, -, h5, h6, -⟩ := Cond.codeWith_spec (atoms_spec (ws := ws) h _ (by rw [hw]; exact List.mem_cons_self))
    cases hn.symm.trans hn9
    exact ⟨meth, c, h1, h2, h3, h4, h5, h6⟩
  · intro p e s m args below meth c s₁ B hml hP _
    have hh0 : s₁.heap = s.heap := by rw [B.state]; rfl
    obtain ⟨t, a1, o, b1, b2, b3⟩ := body p e s m args below meth c s₁ B hml hP s₁ hh0 (Stand.of_body B)
    exact ⟨t, o, a1, b1, b2, b3⟩
/-! ===== END ===== -/
end
section
-- names, words: written by wip/whole/names.py
def RH : String := "BookmarkHeap"
def FH : u_T := fun k => match k with
  | 0 => ("BookmarkHeap", "taken", "[Z", true)
  | 1 => ("BookmarkHeap", "bookmarked", "[Z", true)
  | 2 => ("BookmarkHeap", "values", "[I", true)
  | 3 => ("BookmarkHeap", "fields", "[I", true)
  | 4 => ("BookmarkHeap", "registers", "[I", true)
  | 5 => ("BookmarkHeap", "states", "[I", true)
  | 6 => ("BookmarkHeap", "used", "[Z", true)
  | 7 => ("BookmarkHeap", "counts", "[I", true)
  | 8 => ("BookmarkHeap", "kept", "[Z", true)
  | 9 => ("BookmarkHeap", "keptPlaces", "[I", true)
  | 10 => ("BookmarkHeap", "keptSize", "I", false)
  | 11 => ("BookmarkHeap", "pagesAllowed", "I", false)
  | 12 => ("BookmarkHeap", "faultsSoFar", "I", false)
  | _ => ("BookmarkHeap", "handPage", "I", false)
def tH : Nat → FieldType := fun k => match k with
  | 0 => .array .boolean
  | 1 => .array .boolean
  | 2 => .array .int
  | 3 => .array .int
  | 4 => .array .int
  | 5 => .array .int
  | 6 => .array .boolean
  | 7 => .array .int
  | 8 => .array .boolean
  | 9 => .array .int
  | 10 => .int
  | 11 => .int
  | 12 => .int
  | _ => .int
abbrev wH : List Cond := u_ws RH FH 14
theorem nH : ∀ a, a < 14 → ∀ b, b < 14 → a ≠ b → (FH a).2.1 ≠ (FH b).2.1 := by decide +kernel
theorem tH_ok : ∀ k, k < 14 → parseFieldDescriptor (FH k).2.2.1 = some (tH k) := by decide +kernel
def RM : String := "BookmarkHeapModel"
def FM : u_T := fun k => match k with
  | 0 => ("BookmarkHeapModel", "there", "[Z", true)
  | 1 => ("BookmarkHeapModel", "values", "[I", true)
  | 2 => ("BookmarkHeapModel", "fields", "[I", true)
  | 3 => ("BookmarkHeapModel", "marked", "[Z", true)
  | 4 => ("BookmarkHeapModel", "kept", "[Z", true)
  | 5 => ("BookmarkHeapModel", "state", "[I", true)
  | 6 => ("BookmarkHeapModel", "used", "[Z", true)
  | 7 => ("BookmarkHeapModel", "registers", "[I", true)
  | 8 => ("BookmarkHeapModel", "budget", "I", false)
  | 9 => ("BookmarkHeapModel", "hand", "I", false)
  | 10 => ("BookmarkHeapModel", "faults", "I", false)
  | _ => ("BookmarkHeapModel", "thrown", "I", false)
def tM : Nat → FieldType := fun k => match k with
  | 0 => .array .boolean
  | 1 => .array .int
  | 2 => .array .int
  | 3 => .array .boolean
  | 4 => .array .boolean
  | 5 => .array .int
  | 6 => .array .boolean
  | 7 => .array .int
  | 8 => .int
  | 9 => .int
  | 10 => .int
  | _ => .int
abbrev wM : List Cond := u_ws RM FM 12
theorem nM : ∀ a, a < 12 → ∀ b, b < 12 → a ≠ b → (FM a).2.1 ≠ (FM b).2.1 := by decide +kernel
theorem tM_ok : ∀ k, k < 12 → parseFieldDescriptor (FM k).2.2.1 = some (tM k) := by decide +kernel
def RL : String := "BookmarkHeapLaw"
def yJ_fill : MethodName := ⟨"java/util/Arrays", "fill", "([II)V"⟩
abbrev cJ_fill : ByteArray := prog_11_method_103_code
abbrev cH_init : ByteArray := prog_1_method_1_code
def yH_init : MethodName := ⟨RH, "<init>", "()V"⟩
abbrev cH_make : ByteArray := prog_1_method_2_code
def yH_make : MethodName := ⟨RH, "make", "(II)I"⟩
abbrev cH_store : ByteArray := prog_1_method_3_code
def yH_store : MethodName := ⟨RH, "store", "(III)I"⟩
abbrev cH_load : ByteArray := prog_1_method_4_code
def yH_load : MethodName := ⟨RH, "load", "(III)I"⟩
abbrev cH_value : ByteArray := prog_1_method_5_code
def yH_value : MethodName := ⟨RH, "value", "(I)I"⟩
abbrev cH_copy : ByteArray := prog_1_method_6_code
def yH_copy : MethodName := ⟨RH, "copy", "(II)I"⟩
abbrev cH_drop : ByteArray := prog_1_method_7_code
def yH_drop : MethodName := ⟨RH, "drop", "(I)Z"⟩
abbrev cH_budget : ByteArray := prog_1_method_8_code
def yH_budget : MethodName := ⟨RH, "budget", "(I)I"⟩
abbrev cH_collect : ByteArray := prog_1_method_9_code
def yH_collect : MethodName := ⟨RH, "collect", "()I"⟩
abbrev cH_thorough : ByteArray := prog_1_method_10_code
def yH_thorough : MethodName := ⟨RH, "thorough", "()I"⟩
abbrev cH_faults : ByteArray := prog_1_method_11_code
def yH_faults : MethodName := ⟨RH, "faults", "()I"⟩
abbrev cH_objects : ByteArray := prog_1_method_12_code
def yH_objects : MethodName := ⟨RH, "objects", "()I"⟩
abbrev cH_page : ByteArray := prog_1_method_13_code
def yH_page : MethodName := ⟨RH, "page", "(I)I"⟩
abbrev cH_count : ByteArray := prog_1_method_14_code
def yH_count : MethodName := ⟨RH, "count", "(I)I"⟩
abbrev cH_places : ByteArray := prog_1_method_15_code
def yH_places : MethodName := ⟨RH, "places", "(I)I"⟩
abbrev cH_hand : ByteArray := prog_1_method_16_code
def yH_hand : MethodName := ⟨RH, "hand", "()I"⟩
abbrev cH_checkRegister : ByteArray := prog_1_method_17_code
def yH_checkRegister : MethodName := ⟨RH, "checkRegister", "(I)V"⟩
abbrev cH_checkField : ByteArray := prog_1_method_18_code
def yH_checkField : MethodName := ⟨RH, "checkField", "(I)V"⟩
abbrev cH_checkHolds : ByteArray := prog_1_method_19_code
def yH_checkHolds : MethodName := ⟨RH, "checkHolds", "(I)V"⟩
abbrev cH_isPage : ByteArray := prog_1_method_20_code
def yH_isPage : MethodName := ⟨RH, "isPage", "(I)Z"⟩
abbrev cH_pageOf : ByteArray := prog_1_method_21_code
def yH_pageOf : MethodName := ⟨RH, "pageOf", "(I)I"⟩
abbrev cH_firstPlaceOf : ByteArray := prog_1_method_22_code
def yH_firstPlaceOf : MethodName := ⟨RH, "firstPlaceOf", "(I)I"⟩
abbrev cH_pagesIn : ByteArray := prog_1_method_23_code
def yH_pagesIn : MethodName := ⟨RH, "pagesIn", "()I"⟩
abbrev cH_refersTo : ByteArray := prog_1_method_24_code
def yH_refersTo : MethodName := ⟨RH, "refersTo", "(II)Z"⟩
abbrev cH_touch : ByteArray := prog_1_method_25_code
def yH_touch : MethodName := ⟨RH, "touch", "(I)V"⟩
abbrev cH_makeRoomForPage : ByteArray := prog_1_method_26_code
def yH_makeRoomForPage : MethodName := ⟨RH, "makeRoomForPage", "()V"⟩
abbrev cH_putOut : ByteArray := prog_1_method_27_code
def yH_putOut : MethodName := ⟨RH, "putOut", "(I)V"⟩
abbrev cH_bookmarkAllOf : ByteArray := prog_1_method_28_code
def yH_bookmarkAllOf : MethodName := ⟨RH, "bookmarkAllOf", "(I)V"⟩
abbrev cH_bringIn : ByteArray := prog_1_method_29_code
def yH_bringIn : MethodName := ⟨RH, "bringIn", "(I)V"⟩
abbrev cH_forgetBookmarksUnlessCounted : ByteArray := prog_1_method_30_code
def yH_forgetBookmarksUnlessCounted : MethodName := ⟨RH, "forgetBookmarksUnlessCounted", "(I)V"⟩
abbrev cH_bringInAll : ByteArray := prog_1_method_31_code
def yH_bringInAll : MethodName := ⟨RH, "bringInAll", "()V"⟩
abbrev cH_putOutBeyondBudget : ByteArray := prog_1_method_32_code
def yH_putOutBeyondBudget : MethodName := ⟨RH, "putOutBeyondBudget", "(I)I"⟩
abbrev cH_choose : ByteArray := prog_1_method_33_code
def yH_choose : MethodName := ⟨RH, "choose", "(I)I"⟩
abbrev cH_passes : ByteArray := prog_1_method_34_code
def yH_passes : MethodName := ⟨RH, "passes", "(I)Z"⟩
abbrev cH_moveHand : ByteArray := prog_1_method_35_code
def yH_moveHand : MethodName := ⟨RH, "moveHand", "()V"⟩
abbrev cH_collectWithin : ByteArray := prog_1_method_36_code
def yH_collectWithin : MethodName := ⟨RH, "collectWithin", "()I"⟩
abbrev cH_markKept : ByteArray := prog_1_method_37_code
def yH_markKept : MethodName := ⟨RH, "markKept", "()V"⟩
abbrev cH_keep : ByteArray := prog_1_method_38_code
def yH_keep : MethodName := ⟨RH, "keep", "(I)V"⟩
abbrev cH_remove : ByteArray := prog_1_method_39_code
def yH_remove : MethodName := ⟨RH, "remove", "(I)V"⟩
abbrev cH_isBare : ByteArray := prog_1_method_40_code
def yH_isBare : MethodName := ⟨RH, "isBare", "(I)Z"⟩
abbrev cH_takePlace : ByteArray := prog_1_method_41_code
def yH_takePlace : MethodName := ⟨RH, "takePlace", "(Z)I"⟩
abbrev cH_takePlaceThoroughly : ByteArray := prog_1_method_42_code
def yH_takePlaceThoroughly : MethodName := ⟨RH, "takePlaceThoroughly", "()I"⟩
abbrev cH_freePlaceOnPagesIn : ByteArray := prog_1_method_43_code
def yH_freePlaceOnPagesIn : MethodName := ⟨RH, "freePlaceOnPagesIn", "()I"⟩
abbrev cH_placeOnEmptyPage : ByteArray := prog_1_method_44_code
def yH_placeOnEmptyPage : MethodName := ⟨RH, "placeOnEmptyPage", "()I"⟩
abbrev cH_occupy : ByteArray := prog_1_method_45_code
def yH_occupy : MethodName := ⟨RH, "occupy", "(I)V"⟩
abbrev cM_init : ByteArray := prog_3_method_1_code
def yM_init : MethodName := ⟨RM, "<init>", "()V"⟩
abbrev cM_thrown : ByteArray := prog_3_method_2_code
def yM_thrown : MethodName := ⟨RM, "thrown", "()I"⟩
abbrev cM_fails : ByteArray := prog_3_method_3_code
def yM_fails : MethodName := ⟨RM, "fails", "(I)I"⟩
abbrev cM_register : ByteArray := prog_3_method_4_code
def yM_register : MethodName := ⟨RM, "register", "(I)Z"⟩
abbrev cM_refers : ByteArray := prog_3_method_5_code
def yM_refers : MethodName := ⟨RM, "refers", "(II)Z"⟩
abbrev cM_counted : ByteArray := prog_3_method_6_code
def yM_counted : MethodName := ⟨RM, "counted", "(I)I"⟩
abbrev cM_pagesIn : ByteArray := prog_3_method_7_code
def yM_pagesIn : MethodName := ⟨RM, "pagesIn", "()I"⟩
abbrev cM_unmark : ByteArray := prog_3_method_8_code
def yM_unmark : MethodName := ⟨RM, "unmark", "(I)V"⟩
abbrev cM_putOut : ByteArray := prog_3_method_9_code
def yM_putOut : MethodName := ⟨RM, "putOut", "(I)V"⟩
abbrev cM_choose : ByteArray := prog_3_method_10_code
def yM_choose : MethodName := ⟨RM, "choose", "(I)I"⟩
abbrev cM_putOutOne : ByteArray := prog_3_method_11_code
def yM_putOutOne : MethodName := ⟨RM, "putOutOne", "(I)V"⟩
abbrev cM_bringIn : ByteArray := prog_3_method_12_code
def yM_bringIn : MethodName := ⟨RM, "bringIn", "(I)V"⟩
abbrev cM_touch : ByteArray := prog_3_method_13_code
def yM_touch : MethodName := ⟨RM, "touch", "(I)V"⟩
abbrev cM_shrink : ByteArray := prog_3_method_14_code
def yM_shrink : MethodName := ⟨RM, "shrink", "(I)I"⟩
abbrev cM_held : ByteArray := prog_3_method_15_code
def yM_held : MethodName := ⟨RM, "held", "(I)Z"⟩
abbrev cM_within : ByteArray := prog_3_method_16_code
def yM_within : MethodName := ⟨RM, "within", "()I"⟩
abbrev cM_all : ByteArray := prog_3_method_17_code
def yM_all : MethodName := ⟨RM, "all", "()I"⟩
abbrev cM_freeOnPagesIn : ByteArray := prog_3_method_18_code
def yM_freeOnPagesIn : MethodName := ⟨RM, "freeOnPagesIn", "()I"⟩
abbrev cM_find : ByteArray := prog_3_method_19_code
def yM_find : MethodName := ⟨RM, "find", "(Z)I"⟩
abbrev cM_place : ByteArray := prog_3_method_20_code
def yM_place : MethodName := ⟨RM, "place", "(II)V"⟩
abbrev cM_make : ByteArray := prog_3_method_21_code
def yM_make : MethodName := ⟨RM, "make", "(II)I"⟩
abbrev cM_store : ByteArray := prog_3_method_22_code
def yM_store : MethodName := ⟨RM, "store", "(III)I"⟩
abbrev cM_load : ByteArray := prog_3_method_23_code
def yM_load : MethodName := ⟨RM, "load", "(III)I"⟩
abbrev cM_value : ByteArray := prog_3_method_24_code
def yM_value : MethodName := ⟨RM, "value", "(I)I"⟩
abbrev cM_copy : ByteArray := prog_3_method_25_code
def yM_copy : MethodName := ⟨RM, "copy", "(II)I"⟩
abbrev cM_drop : ByteArray := prog_3_method_26_code
def yM_drop : MethodName := ⟨RM, "drop", "(I)Z"⟩
abbrev cM_budget : ByteArray := prog_3_method_27_code
def yM_budget : MethodName := ⟨RM, "budget", "(I)I"⟩
abbrev cM_collect : ByteArray := prog_3_method_28_code
def yM_collect : MethodName := ⟨RM, "collect", "()I"⟩
abbrev cM_thorough : ByteArray := prog_3_method_29_code
def yM_thorough : MethodName := ⟨RM, "thorough", "()I"⟩
abbrev cM_faults : ByteArray := prog_3_method_30_code
def yM_faults : MethodName := ⟨RM, "faults", "()I"⟩
abbrev cM_objects : ByteArray := prog_3_method_31_code
def yM_objects : MethodName := ⟨RM, "objects", "()I"⟩
abbrev cM_isPage : ByteArray := prog_3_method_32_code
def yM_isPage : MethodName := ⟨RM, "isPage", "(I)Z"⟩
abbrev cM_page : ByteArray := prog_3_method_33_code
def yM_page : MethodName := ⟨RM, "page", "(I)I"⟩
abbrev cM_count : ByteArray := prog_3_method_34_code
def yM_count : MethodName := ⟨RM, "count", "(I)I"⟩
abbrev cM_places : ByteArray := prog_3_method_35_code
def yM_places : MethodName := ⟨RM, "places", "(I)I"⟩
abbrev cM_hand : ByteArray := prog_3_method_36_code
def yM_hand : MethodName := ⟨RM, "hand", "()I"⟩
abbrev cL_make : ByteArray := method_3_code
def yL_make : MethodName := ⟨RL, "make", "(LBookmarkHeap;II[J)I"⟩
abbrev cL_store : ByteArray := method_4_code
def yL_store : MethodName := ⟨RL, "store", "(LBookmarkHeap;III[J)I"⟩
abbrev cL_load : ByteArray := method_5_code
def yL_load : MethodName := ⟨RL, "load", "(LBookmarkHeap;III[J)I"⟩
abbrev cL_value : ByteArray := method_6_code
def yL_value : MethodName := ⟨RL, "value", "(LBookmarkHeap;I[J)I"⟩
abbrev cL_copy : ByteArray := method_7_code
def yL_copy : MethodName := ⟨RL, "copy", "(LBookmarkHeap;II[J)I"⟩
abbrev cL_drop : ByteArray := method_8_code
def yL_drop : MethodName := ⟨RL, "drop", "(LBookmarkHeap;I[J)I"⟩
abbrev cL_budget : ByteArray := method_9_code
def yL_budget : MethodName := ⟨RL, "budget", "(LBookmarkHeap;I[J)I"⟩
abbrev cL_law : ByteArray := code
def yL_law : MethodName := ⟨RL, "law", "([I)Z"⟩
/-- all the tables' words that any method may hand on -/
def bw_G : List Cond := lw_tbl.filter goodWord
theorem bw_m {w : Cond} (i : Nat) (h : lw_tbl[i]? = some w) (g : goodWord w = true) : w ∈ bw_G := List.mem_filter.mpr ⟨List.mem_of_getElem? h, g⟩
theorem bw_tbl {w : Cond} (h : w ∈ bw_G) : w ∈ lw_tbl := (List.mem_filter.mp h).1
def bw (y : MethodName) (b : ByteArray) (n : Nat) (r : Option FieldType) : List Cond := Cond.code y b n r :: bw_G
def bwH (y : MethodName) (b : ByteArray) (n : Nat) (r : Option FieldType) (hh : List (Nat × Nat × Nat × Nat)) : List Cond := Cond.codeWith y b n r hh :: bw_G
theorem bw_in {x : Cond} {L : List Cond} (h : ∀ w ∈ L, w ∈ bw_G) : GoodIn (x :: bw_G) L := fun w hw => ⟨List.mem_cons_of_mem _ (h w hw), good_of_word (List.mem_filter.mp (h w hw)).2⟩
theorem bw_inL {L : List Cond} (h : ∀ w ∈ L, w ∈ bw_G) : GoodIn lw_tbl L := fun w hw => ⟨bw_tbl (h w hw), good_of_word (List.mem_filter.mp (h w hw)).2⟩
theorem bw_V {own C : String} {idx : Nat} {y : MethodName} {b : ByteArray} {n : Nat} {r : Option FieldType} (h1 : Cond.methodLink own idx y ∈ bw_G) (h2 : Cond.instanceMethod y ∈ bw_G) (h3 : Cond.selects C y y ∈ bw_G) (h4 : Cond.initialized C ∈ bw_G) (h5 : Cond.code y b n r ∈ bw_G) : ∀ w ∈ wsV own idx C y (bw y b n r), w ∈ bw_G := by
  intro w hw
  rcases List.mem_append.mp hw with hw | hw
  · rcases List.mem_cons.mp hw with rfl | hw
    · exact h1
    · rcases List.mem_cons.mp hw with rfl | hw
      · exact h2
      · rcases List.mem_cons.mp hw with rfl | hw
        · exact h3
        · rcases List.mem_cons.mp hw with rfl | hw
          · exact h4
          · exact absurd hw List.not_mem_nil
  · rcases List.mem_cons.mp hw with rfl | hw
    · exact h5
    · exact hw
theorem bw_S {own : String} {idx : Nat} {y : MethodName} {k : Cond} (h1 : Cond.methodLink own idx y ∈ bw_G) (h2 : Cond.static y ∈ bw_G) (h3 : Cond.initialized y.cls ∈ bw_G) (h4 : k ∈ bw_G) : ∀ w ∈ va_wsS own idx y (k :: bw_G), w ∈ bw_G := by
  intro w hw
  rcases List.mem_append.mp hw with hw | hw
  · rcases List.mem_cons.mp hw with rfl | hw
    · exact h1
    · rcases List.mem_cons.mp hw with rfl | hw
      · exact h2
      · rcases List.mem_cons.mp hw with rfl | hw
        · exact h3
        · exact absurd hw List.not_mem_nil
  · rcases List.mem_cons.mp hw with rfl | hw
    · exact h4
    · exact hw
theorem inH : ∀ w ∈ wH, w ∈ bw_G := by decide +kernel
theorem inM : ∀ w ∈ wM, w ∈ bw_G := by decide +kernel
theorem fH_taken : Cond.fieldLink RH 9 "BookmarkHeap" "taken" "[Z" ∈ bw_G := (bw_m 63 (by decide +kernel) (by decide +kernel))
theorem fH_bookmarked : Cond.fieldLink RH 13 "BookmarkHeap" "bookmarked" "[Z" ∈ bw_G := (bw_m 64 (by decide +kernel) (by decide +kernel))
theorem fH_values : Cond.fieldLink RH 16 "BookmarkHeap" "values" "[I" ∈ bw_G := (bw_m 65 (by decide +kernel) (by decide +kernel))
theorem fH_fields : Cond.fieldLink RH 20 "BookmarkHeap" "fields" "[I" ∈ bw_G := (bw_m 66 (by decide +kernel) (by decide +kernel))
theorem fH_registers : Cond.fieldLink RH 23 "BookmarkHeap" "registers" "[I" ∈ bw_G := (bw_m 67 (by decide +kernel) (by decide +kernel))
theorem fH_states : Cond.fieldLink RH 26 "BookmarkHeap" "states" "[I" ∈ bw_G := (bw_m 68 (by decide +kernel) (by decide +kernel))
theorem fH_used : Cond.fieldLink RH 29 "BookmarkHeap" "used" "[Z" ∈ bw_G := (bw_m 69 (by decide +kernel) (by decide +kernel))
theorem fH_counts : Cond.fieldLink RH 32 "BookmarkHeap" "counts" "[I" ∈ bw_G := (bw_m 70 (by decide +kernel) (by decide +kernel))
theorem fH_kept : Cond.fieldLink RH 35 "BookmarkHeap" "kept" "[Z" ∈ bw_G := (bw_m 71 (by decide +kernel) (by decide +kernel))
theorem fH_keptPlaces : Cond.fieldLink RH 38 "BookmarkHeap" "keptPlaces" "[I" ∈ bw_G := (bw_m 72 (by decide +kernel) (by decide +kernel))
def kJ_fill : List Cond := bw yJ_fill cJ_fill 4 none
theorem gH_J_fill : ∀ w ∈ va_wsS RH 41 yJ_fill kJ_fill, w ∈ bw_G := bw_S (bw_m 60 (by decide +kernel) (by decide +kernel)) (bw_m 61 (by decide +kernel) (by decide +kernel)) (bw_m 44 (by decide +kernel) (by decide +kernel)) (bw_m 62 (by decide +kernel) (by decide +kernel))
theorem fH_pagesAllowed : Cond.fieldLink RH 47 "BookmarkHeap" "pagesAllowed" "I" ∈ bw_G := (bw_m 74 (by decide +kernel) (by decide +kernel))
def kH_checkRegister : List Cond := bw yH_checkRegister cH_checkRegister 1 none
theorem gH_H_checkRegister : ∀ w ∈ va_wsS RH 51 yH_checkRegister kH_checkRegister, w ∈ bw_G := bw_S (bw_m 222 (by decide +kernel) (by decide +kernel)) (bw_m 223 (by decide +kernel) (by decide +kernel)) (bw_m 43 (by decide +kernel) (by decide +kernel)) (bw_m 224 (by decide +kernel) (by decide +kernel))
def kH_takePlace : List Cond := bw yH_takePlace cH_takePlace 3 (some .int)
theorem gH_H_takePlace : ∀ w ∈ wsV RH 55 RH yH_takePlace kH_takePlace, w ∈ bw_G := bw_V (bw_m 293 (by decide +kernel) (by decide +kernel)) (bw_m 295 (by decide +kernel) (by decide +kernel)) (bw_m 17 (by decide +kernel) (by decide +kernel)) (bw_m 43 (by decide +kernel) (by decide +kernel)) (bw_m 296 (by decide +kernel) (by decide +kernel))
def kH_collectWithin : List Cond := bw yH_collectWithin cH_collectWithin 3 (some .int)
theorem gH_H_collectWithin : ∀ w ∈ wsV RH 59 RH yH_collectWithin kH_collectWithin, w ∈ bw_G := bw_V (bw_m 112 (by decide +kernel) (by decide +kernel)) (bw_m 114 (by decide +kernel) (by decide +kernel)) (bw_m 0 (by decide +kernel) (by decide +kernel)) (bw_m 43 (by decide +kernel) (by decide +kernel)) (bw_m 115 (by decide +kernel) (by decide +kernel))
def kH_takePlaceThoroughly : List Cond := bw yH_takePlaceThoroughly cH_takePlaceThoroughly 2 (some .int)
theorem gH_H_takePlaceThoroughly : ∀ w ∈ wsV RH 63 RH yH_takePlaceThoroughly kH_takePlaceThoroughly, w ∈ bw_G := bw_V (bw_m 313 (by decide +kernel) (by decide +kernel)) (bw_m 315 (by decide +kernel) (by decide +kernel)) (bw_m 22 (by decide +kernel) (by decide +kernel)) (bw_m 43 (by decide +kernel) (by decide +kernel)) (bw_m 316 (by decide +kernel) (by decide +kernel))
def kH_checkField : List Cond := bw yH_checkField cH_checkField 1 none
theorem gH_H_checkField : ∀ w ∈ va_wsS RH 73 yH_checkField kH_checkField, w ∈ bw_G := bw_S (bw_m 341 (by decide +kernel) (by decide +kernel)) (bw_m 342 (by decide +kernel) (by decide +kernel)) (bw_m 43 (by decide +kernel) (by decide +kernel)) (bw_m 343 (by decide +kernel) (by decide +kernel))
def kH_checkHolds : List Cond := bw yH_checkHolds cH_checkHolds 2 none
theorem gH_H_checkHolds : ∀ w ∈ wsV RH 76 RH yH_checkHolds kH_checkHolds, w ∈ bw_G := bw_V (bw_m 345 (by decide +kernel) (by decide +kernel)) (bw_m 347 (by decide +kernel) (by decide +kernel)) (bw_m 23 (by decide +kernel) (by decide +kernel)) (bw_m 43 (by decide +kernel) (by decide +kernel)) (bw_m 348 (by decide +kernel) (by decide +kernel))
def kH_pageOf : List Cond := bw yH_pageOf cH_pageOf 1 (some .int)
theorem gH_H_pageOf : ∀ w ∈ va_wsS RH 79 yH_pageOf kH_pageOf, w ∈ bw_G := bw_S (bw_m 124 (by decide +kernel) (by decide +kernel)) (bw_m 125 (by decide +kernel) (by decide +kernel)) (bw_m 43 (by decide +kernel) (by decide +kernel)) (bw_m 126 (by decide +kernel) (by decide +kernel))
def kH_touch : List Cond := bw yH_touch cH_touch 2 none
theorem gH_H_touch : ∀ w ∈ wsV RH 83 RH yH_touch kH_touch, w ∈ bw_G := bw_V (bw_m 365 (by decide +kernel) (by decide +kernel)) (bw_m 367 (by decide +kernel) (by decide +kernel)) (bw_m 24 (by decide +kernel) (by decide +kernel)) (bw_m 43 (by decide +kernel) (by decide +kernel)) (bw_m 368 (by decide +kernel) (by decide +kernel))
theorem fH_faultsSoFar : Cond.fieldLink RH 86 "BookmarkHeap" "faultsSoFar" "I" ∈ bw_G := (bw_m 75 (by decide +kernel) (by decide +kernel))
def kH_putOutBeyondBudget : List Cond := bw yH_putOutBeyondBudget cH_putOutBeyondBudget 4 (some .int)
theorem gH_H_putOutBeyondBudget : ∀ w ∈ wsV RH 94 RH yH_putOutBeyondBudget kH_putOutBeyondBudget, w ∈ bw_G := bw_V (bw_m 158 (by decide +kernel) (by decide +kernel)) (bw_m 160 (by decide +kernel) (by decide +kernel)) (bw_m 9 (by decide +kernel) (by decide +kernel)) (bw_m 43 (by decide +kernel) (by decide +kernel)) (bw_m 161 (by decide +kernel) (by decide +kernel))
def kH_bringInAll : List Cond := bw yH_bringInAll cH_bringInAll 2 none
theorem gH_H_bringInAll : ∀ w ∈ wsV RH 97 RH yH_bringInAll kH_bringInAll, w ∈ bw_G := bw_V (bw_m 142 (by decide +kernel) (by decide +kernel)) (bw_m 144 (by decide +kernel) (by decide +kernel)) (bw_m 5 (by decide +kernel) (by decide +kernel)) (bw_m 43 (by decide +kernel) (by decide +kernel)) (bw_m 145 (by decide +kernel) (by decide +kernel))
def kH_isPage : List Cond := bw yH_isPage cH_isPage 1 (some .boolean)
theorem gH_H_isPage : ∀ w ∈ va_wsS RH 100 yH_isPage kH_isPage, w ∈ bw_G := bw_S (bw_m 198 (by decide +kernel) (by decide +kernel)) (bw_m 199 (by decide +kernel) (by decide +kernel)) (bw_m 43 (by decide +kernel) (by decide +kernel)) (bw_m 200 (by decide +kernel) (by decide +kernel))
theorem fH_handPage : Cond.fieldLink RH 104 "BookmarkHeap" "handPage" "I" ∈ bw_G := (bw_m 76 (by decide +kernel) (by decide +kernel))
def kH_firstPlaceOf : List Cond := bw yH_firstPlaceOf cH_firstPlaceOf 1 (some .int)
theorem gH_H_firstPlaceOf : ∀ w ∈ va_wsS RH 116 yH_firstPlaceOf kH_firstPlaceOf, w ∈ bw_G := bw_S (bw_m 135 (by decide +kernel) (by decide +kernel)) (bw_m 136 (by decide +kernel) (by decide +kernel)) (bw_m 43 (by decide +kernel) (by decide +kernel)) (bw_m 137 (by decide +kernel) (by decide +kernel))
def kH_makeRoomForPage : List Cond := bw yH_makeRoomForPage cH_makeRoomForPage 1 none
theorem gH_H_makeRoomForPage : ∀ w ∈ wsV RH 119 RH yH_makeRoomForPage kH_makeRoomForPage, w ∈ bw_G := bw_V (bw_m 305 (by decide +kernel) (by decide +kernel)) (bw_m 307 (by decide +kernel) (by decide +kernel)) (bw_m 20 (by decide +kernel) (by decide +kernel)) (bw_m 43 (by decide +kernel) (by decide +kernel)) (bw_m 308 (by decide +kernel) (by decide +kernel))
def kH_bringIn : List Cond := bw yH_bringIn cH_bringIn 3 none
theorem gH_H_bringIn : ∀ w ∈ wsV RH 122 RH yH_bringIn kH_bringIn, w ∈ bw_G := bw_V (bw_m 146 (by decide +kernel) (by decide +kernel)) (bw_m 148 (by decide +kernel) (by decide +kernel)) (bw_m 6 (by decide +kernel) (by decide +kernel)) (bw_m 43 (by decide +kernel) (by decide +kernel)) (bw_m 149 (by decide +kernel) (by decide +kernel))
def kH_pagesIn : List Cond := bw yH_pagesIn cH_pagesIn 3 (some .int)
theorem gH_H_pagesIn : ∀ w ∈ wsV RH 125 RH yH_pagesIn kH_pagesIn, w ∈ bw_G := bw_V (bw_m 162 (by decide +kernel) (by decide +kernel)) (bw_m 164 (by decide +kernel) (by decide +kernel)) (bw_m 10 (by decide +kernel) (by decide +kernel)) (bw_m 43 (by decide +kernel) (by decide +kernel)) (bw_m 165 (by decide +kernel) (by decide +kernel))
def kH_choose : List Cond := bw yH_choose cH_choose 3 (some .int)
theorem gH_H_choose : ∀ w ∈ wsV RH 128 RH yH_choose kH_choose, w ∈ bw_G := bw_V (bw_m 166 (by decide +kernel) (by decide +kernel)) (bw_m 168 (by decide +kernel) (by decide +kernel)) (bw_m 11 (by decide +kernel) (by decide +kernel)) (bw_m 43 (by decide +kernel) (by decide +kernel)) (bw_m 169 (by decide +kernel) (by decide +kernel))
def kH_putOut : List Cond := bw yH_putOut cH_putOut 3 none
theorem gH_H_putOut : ∀ w ∈ wsV RH 131 RH yH_putOut kH_putOut, w ∈ bw_G := bw_V (bw_m 178 (by decide +kernel) (by decide +kernel)) (bw_m 180 (by decide +kernel) (by decide +kernel)) (bw_m 14 (by decide +kernel) (by decide +kernel)) (bw_m 43 (by decide +kernel) (by decide +kernel)) (bw_m 181 (by decide +kernel) (by decide +kernel))
def kH_bookmarkAllOf : List Cond := bw yH_bookmarkAllOf cH_bookmarkAllOf 4 none
theorem gH_H_bookmarkAllOf : ∀ w ∈ wsV RH 134 RH yH_bookmarkAllOf kH_bookmarkAllOf, w ∈ bw_G := bw_V (bw_m 182 (by decide +kernel) (by decide +kernel)) (bw_m 184 (by decide +kernel) (by decide +kernel)) (bw_m 15 (by decide +kernel) (by decide +kernel)) (bw_m 43 (by decide +kernel) (by decide +kernel)) (bw_m 185 (by decide +kernel) (by decide +kernel))
def kH_refersTo : List Cond := bw yH_refersTo cH_refersTo 5 (some .boolean)
theorem gH_H_refersTo : ∀ w ∈ wsV RH 137 RH yH_refersTo kH_refersTo, w ∈ bw_G := bw_V (bw_m 150 (by decide +kernel) (by decide +kernel)) (bw_m 152 (by decide +kernel) (by decide +kernel)) (bw_m 7 (by decide +kernel) (by decide +kernel)) (bw_m 43 (by decide +kernel) (by decide +kernel)) (bw_m 153 (by decide +kernel) (by decide +kernel))
def kH_forgetBookmarksUnlessCounted : List Cond := bw yH_forgetBookmarksUnlessCounted cH_forgetBookmarksUnlessCounted 4 none
theorem gH_H_forgetBookmarksUnlessCounted : ∀ w ∈ wsV RH 141 RH yH_forgetBookmarksUnlessCounted kH_forgetBookmarksUnlessCounted, w ∈ bw_G := bw_V (bw_m 154 (by decide +kernel) (by decide +kernel)) (bw_m 156 (by decide +kernel) (by decide +kernel)) (bw_m 8 (by decide +kernel) (by decide +kernel)) (bw_m 43 (by decide +kernel) (by decide +kernel)) (bw_m 157 (by decide +kernel) (by decide +kernel))
def kH_passes : List Cond := bw yH_passes cH_passes 2 (some .boolean)
theorem gH_H_passes : ∀ w ∈ wsV RH 144 RH yH_passes kH_passes, w ∈ bw_G := bw_V (bw_m 170 (by decide +kernel) (by decide +kernel)) (bw_m 172 (by decide +kernel) (by decide +kernel)) (bw_m 12 (by decide +kernel) (by decide +kernel)) (bw_m 43 (by decide +kernel) (by decide +kernel)) (bw_m 173 (by decide +kernel) (by decide +kernel))
def kH_moveHand : List Cond := bw yH_moveHand cH_moveHand 1 none
theorem gH_H_moveHand : ∀ w ∈ wsV RH 147 RH yH_moveHand kH_moveHand, w ∈ bw_G := bw_V (bw_m 174 (by decide +kernel) (by decide +kernel)) (bw_m 176 (by decide +kernel) (by decide +kernel)) (bw_m 13 (by decide +kernel) (by decide +kernel)) (bw_m 43 (by decide +kernel) (by decide +kernel)) (bw_m 177 (by decide +kernel) (by decide +kernel))
def kH_markKept : List Cond := bw yH_markKept cH_markKept 3 none
theorem gH_H_markKept : ∀ w ∈ wsV RH 150 RH yH_markKept kH_markKept, w ∈ bw_G := bw_V (bw_m 116 (by decide +kernel) (by decide +kernel)) (bw_m 118 (by decide +kernel) (by decide +kernel)) (bw_m 1 (by decide +kernel) (by decide +kernel)) (bw_m 43 (by decide +kernel) (by decide +kernel)) (bw_m 119 (by decide +kernel) (by decide +kernel))
def kH_remove : List Cond := bw yH_remove cH_remove 3 none
theorem gH_H_remove : ∀ w ∈ wsV RH 153 RH yH_remove kH_remove, w ∈ bw_G := bw_V (bw_m 127 (by decide +kernel) (by decide +kernel)) (bw_m 129 (by decide +kernel) (by decide +kernel)) (bw_m 3 (by decide +kernel) (by decide +kernel)) (bw_m 43 (by decide +kernel) (by decide +kernel)) (bw_m 130 (by decide +kernel) (by decide +kernel))
def kH_isBare : List Cond := bw yH_isBare cH_isBare 4 (some .boolean)
theorem gH_H_isBare : ∀ w ∈ wsV RH 156 RH yH_isBare kH_isBare, w ∈ bw_G := bw_V (bw_m 131 (by decide +kernel) (by decide +kernel)) (bw_m 133 (by decide +kernel) (by decide +kernel)) (bw_m 4 (by decide +kernel) (by decide +kernel)) (bw_m 43 (by decide +kernel) (by decide +kernel)) (bw_m 134 (by decide +kernel) (by decide +kernel))
theorem fH_keptSize : Cond.fieldLink RH 159 "BookmarkHeap" "keptSize" "I" ∈ bw_G := (bw_m 73 (by decide +kernel) (by decide +kernel))
def kH_keep : List Cond := bw yH_keep cH_keep 2 none
theorem gH_H_keep : ∀ w ∈ wsV RH 162 RH yH_keep kH_keep, w ∈ bw_G := bw_V (bw_m 120 (by decide +kernel) (by decide +kernel)) (bw_m 122 (by decide +kernel) (by decide +kernel)) (bw_m 2 (by decide +kernel) (by decide +kernel)) (bw_m 43 (by decide +kernel) (by decide +kernel)) (bw_m 123 (by decide +kernel) (by decide +kernel))
def kH_freePlaceOnPagesIn : List Cond := bw yH_freePlaceOnPagesIn cH_freePlaceOnPagesIn 2 (some .int)
theorem gH_H_freePlaceOnPagesIn : ∀ w ∈ wsV RH 165 RH yH_freePlaceOnPagesIn kH_freePlaceOnPagesIn, w ∈ bw_G := bw_V (bw_m 297 (by decide +kernel) (by decide +kernel)) (bw_m 299 (by decide +kernel) (by decide +kernel)) (bw_m 18 (by decide +kernel) (by decide +kernel)) (bw_m 43 (by decide +kernel) (by decide +kernel)) (bw_m 300 (by decide +kernel) (by decide +kernel))
def kH_placeOnEmptyPage : List Cond := bw yH_placeOnEmptyPage cH_placeOnEmptyPage 2 (some .int)
theorem gH_H_placeOnEmptyPage : ∀ w ∈ wsV RH 168 RH yH_placeOnEmptyPage kH_placeOnEmptyPage, w ∈ bw_G := bw_V (bw_m 301 (by decide +kernel) (by decide +kernel)) (bw_m 303 (by decide +kernel) (by decide +kernel)) (bw_m 19 (by decide +kernel) (by decide +kernel)) (bw_m 43 (by decide +kernel) (by decide +kernel)) (bw_m 304 (by decide +kernel) (by decide +kernel))
def kH_occupy : List Cond := bw yH_occupy cH_occupy 3 none
theorem gH_H_occupy : ∀ w ∈ wsV RH 171 RH yH_occupy kH_occupy, w ∈ bw_G := bw_V (bw_m 309 (by decide +kernel) (by decide +kernel)) (bw_m 311 (by decide +kernel) (by decide +kernel)) (bw_m 21 (by decide +kernel) (by decide +kernel)) (bw_m 43 (by decide +kernel) (by decide +kernel)) (bw_m 312 (by decide +kernel) (by decide +kernel))
theorem fM_there : Cond.fieldLink RM 7 "BookmarkHeapModel" "there" "[Z" ∈ bw_G := (bw_m 411 (by decide +kernel) (by decide +kernel))
theorem fM_values : Cond.fieldLink RM 13 "BookmarkHeapModel" "values" "[I" ∈ bw_G := (bw_m 412 (by decide +kernel) (by decide +kernel))
theorem fM_fields : Cond.fieldLink RM 17 "BookmarkHeapModel" "fields" "[I" ∈ bw_G := (bw_m 413 (by decide +kernel) (by decide +kernel))
theorem fM_marked : Cond.fieldLink RM 20 "BookmarkHeapModel" "marked" "[Z" ∈ bw_G := (bw_m 414 (by decide +kernel) (by decide +kernel))
theorem fM_kept : Cond.fieldLink RM 23 "BookmarkHeapModel" "kept" "[Z" ∈ bw_G := (bw_m 415 (by decide +kernel) (by decide +kernel))
theorem fM_state : Cond.fieldLink RM 26 "BookmarkHeapModel" "state" "[I" ∈ bw_G := (bw_m 416 (by decide +kernel) (by decide +kernel))
theorem fM_used : Cond.fieldLink RM 29 "BookmarkHeapModel" "used" "[Z" ∈ bw_G := (bw_m 417 (by decide +kernel) (by decide +kernel))
theorem fM_registers : Cond.fieldLink RM 32 "BookmarkHeapModel" "registers" "[I" ∈ bw_G := (bw_m 418 (by decide +kernel) (by decide +kernel))
theorem fM_budget : Cond.fieldLink RM 35 "BookmarkHeapModel" "budget" "I" ∈ bw_G := (bw_m 419 (by decide +kernel) (by decide +kernel))
theorem fM_thrown : Cond.fieldLink RM 39 "BookmarkHeapModel" "thrown" "I" ∈ bw_G := (bw_m 422 (by decide +kernel) (by decide +kernel))
def kM_refers : List Cond := bw yM_refers cM_refers 6 (some .boolean)
theorem gM_M_refers : ∀ w ∈ wsV RM 42 RM yM_refers kM_refers, w ∈ bw_G := bw_V (bw_m 519 (by decide +kernel) (by decide +kernel)) (bw_m 521 (by decide +kernel) (by decide +kernel)) (bw_m 39 (by decide +kernel) (by decide +kernel)) (bw_m 45 (by decide +kernel) (by decide +kernel)) (bw_m 522 (by decide +kernel) (by decide +kernel))
theorem fM_hand : Cond.fieldLink RM 46 "BookmarkHeapModel" "hand" "I" ∈ bw_G := (bw_m 420 (by decide +kernel) (by decide +kernel))
def kM_choose : List Cond := bw yM_choose cM_choose 3 (some .int)
theorem gM_M_choose : ∀ w ∈ wsV RM 49 RM yM_choose kM_choose, w ∈ bw_G := bw_V (bw_m 479 (by decide +kernel) (by decide +kernel)) (bw_m 481 (by decide +kernel) (by decide +kernel)) (bw_m 30 (by decide +kernel) (by decide +kernel)) (bw_m 45 (by decide +kernel) (by decide +kernel)) (bw_m 482 (by decide +kernel) (by decide +kernel))
def kM_putOut : List Cond := bw yM_putOut cM_putOut 4 none
theorem gM_M_putOut : ∀ w ∈ wsV RM 53 RM yM_putOut kM_putOut, w ∈ bw_G := bw_V (bw_m 483 (by decide +kernel) (by decide +kernel)) (bw_m 485 (by decide +kernel) (by decide +kernel)) (bw_m 31 (by decide +kernel) (by decide +kernel)) (bw_m 45 (by decide +kernel) (by decide +kernel)) (bw_m 486 (by decide +kernel) (by decide +kernel))
def kM_pagesIn : List Cond := bw yM_pagesIn cM_pagesIn 3 (some .int)
theorem gM_M_pagesIn : ∀ w ∈ wsV RM 57 RM yM_pagesIn kM_pagesIn, w ∈ bw_G := bw_V (bw_m 471 (by decide +kernel) (by decide +kernel)) (bw_m 473 (by decide +kernel) (by decide +kernel)) (bw_m 28 (by decide +kernel) (by decide +kernel)) (bw_m 45 (by decide +kernel) (by decide +kernel)) (bw_m 474 (by decide +kernel) (by decide +kernel))
def kM_putOutOne : List Cond := bw yM_putOutOne cM_putOutOne 3 none
theorem gM_M_putOutOne : ∀ w ∈ wsV RM 61 RM yM_putOutOne kM_putOutOne, w ∈ bw_G := bw_V (bw_m 475 (by decide +kernel) (by decide +kernel)) (bw_m 477 (by decide +kernel) (by decide +kernel)) (bw_m 29 (by decide +kernel) (by decide +kernel)) (bw_m 45 (by decide +kernel) (by decide +kernel)) (bw_m 478 (by decide +kernel) (by decide +kernel))
def kM_counted : List Cond := bw yM_counted cM_counted 4 (some .int)
theorem gM_M_counted : ∀ w ∈ wsV RM 64 RM yM_counted kM_counted, w ∈ bw_G := bw_V (bw_m 523 (by decide +kernel) (by decide +kernel)) (bw_m 525 (by decide +kernel) (by decide +kernel)) (bw_m 40 (by decide +kernel) (by decide +kernel)) (bw_m 45 (by decide +kernel) (by decide +kernel)) (bw_m 526 (by decide +kernel) (by decide +kernel))
def kM_unmark : List Cond := bw yM_unmark cM_unmark 3 none
theorem gM_M_unmark : ∀ w ∈ wsV RM 67 RM yM_unmark kM_unmark, w ∈ bw_G := bw_V (bw_m 527 (by decide +kernel) (by decide +kernel)) (bw_m 529 (by decide +kernel) (by decide +kernel)) (bw_m 41 (by decide +kernel) (by decide +kernel)) (bw_m 45 (by decide +kernel) (by decide +kernel)) (bw_m 530 (by decide +kernel) (by decide +kernel))
theorem fM_faults : Cond.fieldLink RM 70 "BookmarkHeapModel" "faults" "I" ∈ bw_G := (bw_m 421 (by decide +kernel) (by decide +kernel))
def kM_bringIn : List Cond := bw yM_bringIn cM_bringIn 4 none
theorem gM_M_bringIn : ∀ w ∈ wsV RM 73 RM yM_bringIn kM_bringIn, w ∈ bw_G := bw_V (bw_m 515 (by decide +kernel) (by decide +kernel)) (bw_m 517 (by decide +kernel) (by decide +kernel)) (bw_m 38 (by decide +kernel) (by decide +kernel)) (bw_m 45 (by decide +kernel) (by decide +kernel)) (bw_m 518 (by decide +kernel) (by decide +kernel))
def kM_held : List Cond := bw yM_held cM_held 4 (some .boolean)
theorem gM_M_held : ∀ w ∈ wsV RM 76 RM yM_held kM_held, w ∈ bw_G := bw_V (bw_m 491 (by decide +kernel) (by decide +kernel)) (bw_m 493 (by decide +kernel) (by decide +kernel)) (bw_m 33 (by decide +kernel) (by decide +kernel)) (bw_m 45 (by decide +kernel) (by decide +kernel)) (bw_m 494 (by decide +kernel) (by decide +kernel))
def kM_within : List Cond := bw yM_within cM_within 6 (some .int)
theorem gM_M_within : ∀ w ∈ wsV RM 80 RM yM_within kM_within, w ∈ bw_G := bw_V (bw_m 487 (by decide +kernel) (by decide +kernel)) (bw_m 489 (by decide +kernel) (by decide +kernel)) (bw_m 32 (by decide +kernel) (by decide +kernel)) (bw_m 45 (by decide +kernel) (by decide +kernel)) (bw_m 490 (by decide +kernel) (by decide +kernel))
def kM_freeOnPagesIn : List Cond := bw yM_freeOnPagesIn cM_freeOnPagesIn 2 (some .int)
theorem gM_M_freeOnPagesIn : ∀ w ∈ wsV RM 83 RM yM_freeOnPagesIn kM_freeOnPagesIn, w ∈ bw_G := bw_V (bw_m 467 (by decide +kernel) (by decide +kernel)) (bw_m 469 (by decide +kernel) (by decide +kernel)) (bw_m 27 (by decide +kernel) (by decide +kernel)) (bw_m 45 (by decide +kernel) (by decide +kernel)) (bw_m 470 (by decide +kernel) (by decide +kernel))
def kM_register : List Cond := bw yM_register cM_register 1 (some .boolean)
theorem gM_M_register : ∀ w ∈ va_wsS RM 86 yM_register kM_register, w ∈ bw_G := bw_S (bw_m 456 (by decide +kernel) (by decide +kernel)) (bw_m 457 (by decide +kernel) (by decide +kernel)) (bw_m 45 (by decide +kernel) (by decide +kernel)) (bw_m 458 (by decide +kernel) (by decide +kernel))
def kM_fails : List Cond := bw yM_fails cM_fails 2 (some .int)
theorem gM_M_fails : ∀ w ∈ wsV RM 89 RM yM_fails kM_fails, w ∈ bw_G := bw_V (bw_m 459 (by decide +kernel) (by decide +kernel)) (bw_m 461 (by decide +kernel) (by decide +kernel)) (bw_m 25 (by decide +kernel) (by decide +kernel)) (bw_m 45 (by decide +kernel) (by decide +kernel)) (bw_m 462 (by decide +kernel) (by decide +kernel))
def kM_find : List Cond := bw yM_find cM_find 4 (some .int)
theorem gM_M_find : ∀ w ∈ wsV RM 92 RM yM_find kM_find, w ∈ bw_G := bw_V (bw_m 463 (by decide +kernel) (by decide +kernel)) (bw_m 465 (by decide +kernel) (by decide +kernel)) (bw_m 26 (by decide +kernel) (by decide +kernel)) (bw_m 45 (by decide +kernel) (by decide +kernel)) (bw_m 466 (by decide +kernel) (by decide +kernel))
def kM_all : List Cond := bw yM_all cM_all 2 (some .int)
theorem gM_M_all : ∀ w ∈ wsV RM 96 RM yM_all kM_all, w ∈ bw_G := bw_V (bw_m 495 (by decide +kernel) (by decide +kernel)) (bw_m 497 (by decide +kernel) (by decide +kernel)) (bw_m 34 (by decide +kernel) (by decide +kernel)) (bw_m 45 (by decide +kernel) (by decide +kernel)) (bw_m 498 (by decide +kernel) (by decide +kernel))
def kM_place : List Cond := bw yM_place cM_place 3 none
theorem gM_M_place : ∀ w ∈ wsV RM 99 RM yM_place kM_place, w ∈ bw_G := bw_V (bw_m 499 (by decide +kernel) (by decide +kernel)) (bw_m 501 (by decide +kernel) (by decide +kernel)) (bw_m 35 (by decide +kernel) (by decide +kernel)) (bw_m 45 (by decide +kernel) (by decide +kernel)) (bw_m 502 (by decide +kernel) (by decide +kernel))
def kM_shrink : List Cond := bw yM_shrink cM_shrink 3 (some .int)
theorem gM_M_shrink : ∀ w ∈ wsV RM 103 RM yM_shrink kM_shrink, w ∈ bw_G := bw_V (bw_m 503 (by decide +kernel) (by decide +kernel)) (bw_m 505 (by decide +kernel) (by decide +kernel)) (bw_m 36 (by decide +kernel) (by decide +kernel)) (bw_m 45 (by decide +kernel) (by decide +kernel)) (bw_m 506 (by decide +kernel) (by decide +kernel))
def kM_touch : List Cond := bw yM_touch cM_touch 2 none
theorem gM_M_touch : ∀ w ∈ wsV RM 106 RM yM_touch kM_touch, w ∈ bw_G := bw_V (bw_m 511 (by decide +kernel) (by decide +kernel)) (bw_m 513 (by decide +kernel) (by decide +kernel)) (bw_m 37 (by decide +kernel) (by decide +kernel)) (bw_m 45 (by decide +kernel) (by decide +kernel)) (bw_m 514 (by decide +kernel) (by decide +kernel))
def kM_isPage : List Cond := bw yM_isPage cM_isPage 1 (some .boolean)
theorem gM_M_isPage : ∀ w ∈ va_wsS RM 109 yM_isPage kM_isPage, w ∈ bw_G := bw_S (bw_m 571 (by decide +kernel) (by decide +kernel)) (bw_m 572 (by decide +kernel) (by decide +kernel)) (bw_m 45 (by decide +kernel) (by decide +kernel)) (bw_m 573 (by decide +kernel) (by decide +kernel))
def kH_make : List Cond := bw yH_make cH_make 4 (some .int)
theorem gL_H_make : ∀ w ∈ wsV RL 7 RH yH_make kH_make, w ∈ bw_G := bw_V (bw_m 218 (by decide +kernel) (by decide +kernel)) (bw_m 219 (by decide +kernel) (by decide +kernel)) (bw_m 220 (by decide +kernel) (by decide +kernel)) (bw_m 43 (by decide +kernel) (by decide +kernel)) (bw_m 221 (by decide +kernel) (by decide +kernel))
def kH_store : List Cond := bw yH_store cH_store 5 (some .int)
theorem gL_H_store : ∀ w ∈ wsV RL 17 RH yH_store kH_store, w ∈ bw_G := bw_V (bw_m 337 (by decide +kernel) (by decide +kernel)) (bw_m 338 (by decide +kernel) (by decide +kernel)) (bw_m 339 (by decide +kernel) (by decide +kernel)) (bw_m 43 (by decide +kernel) (by decide +kernel)) (bw_m 340 (by decide +kernel) (by decide +kernel))
def kH_load : List Cond := bw yH_load cH_load 5 (some .int)
theorem gL_H_load : ∀ w ∈ wsV RL 23 RH yH_load kH_load, w ∈ bw_G := bw_V (bw_m 372 (by decide +kernel) (by decide +kernel)) (bw_m 373 (by decide +kernel) (by decide +kernel)) (bw_m 374 (by decide +kernel) (by decide +kernel)) (bw_m 43 (by decide +kernel) (by decide +kernel)) (bw_m 375 (by decide +kernel) (by decide +kernel))
def kH_value : List Cond := bw yH_value cH_value 3 (some .int)
theorem gL_H_value : ∀ w ∈ wsV RL 26 RH yH_value kH_value, w ∈ bw_G := bw_V (bw_m 379 (by decide +kernel) (by decide +kernel)) (bw_m 380 (by decide +kernel) (by decide +kernel)) (bw_m 381 (by decide +kernel) (by decide +kernel)) (bw_m 43 (by decide +kernel) (by decide +kernel)) (bw_m 382 (by decide +kernel) (by decide +kernel))
def kH_copy : List Cond := bw yH_copy cH_copy 3 (some .int)
theorem gL_H_copy : ∀ w ∈ wsV RL 30 RH yH_copy kH_copy, w ∈ bw_G := bw_V (bw_m 386 (by decide +kernel) (by decide +kernel)) (bw_m 387 (by decide +kernel) (by decide +kernel)) (bw_m 388 (by decide +kernel) (by decide +kernel)) (bw_m 43 (by decide +kernel) (by decide +kernel)) (bw_m 389 (by decide +kernel) (by decide +kernel))
def kH_drop : List Cond := bw yH_drop cH_drop 3 (some .boolean)
theorem gL_H_drop : ∀ w ∈ wsV RL 33 RH yH_drop kH_drop, w ∈ bw_G := bw_V (bw_m 393 (by decide +kernel) (by decide +kernel)) (bw_m 394 (by decide +kernel) (by decide +kernel)) (bw_m 395 (by decide +kernel) (by decide +kernel)) (bw_m 43 (by decide +kernel) (by decide +kernel)) (bw_m 396 (by decide +kernel) (by decide +kernel))
def kH_budget : List Cond := bw yH_budget cH_budget 2 (some .int)
theorem gL_H_budget : ∀ w ∈ wsV RL 37 RH yH_budget kH_budget, w ∈ bw_G := bw_V (bw_m 400 (by decide +kernel) (by decide +kernel)) (bw_m 401 (by decide +kernel) (by decide +kernel)) (bw_m 402 (by decide +kernel) (by decide +kernel)) (bw_m 43 (by decide +kernel) (by decide +kernel)) (bw_m 403 (by decide +kernel) (by decide +kernel))
def kL_make : List Cond := bwH yL_make cL_make 5 (some .int) [(0, 10, 13, 13), (0, 10, 17, 15)]
theorem gL_L_make : ∀ w ∈ va_wsS RL 44 yL_make kL_make, w ∈ bw_G := bw_S (bw_m 213 (by decide +kernel) (by decide +kernel)) (bw_m 214 (by decide +kernel) (by decide +kernel)) (bw_m 42 (by decide +kernel) (by decide +kernel)) (bw_m 215 (by decide +kernel) (by decide +kernel))
def kM_make : List Cond := bw yM_make cM_make 5 (some .int)
theorem gL_M_make : ∀ w ∈ wsV RL 49 RM yM_make kM_make, w ∈ bw_G := bw_V (bw_m 452 (by decide +kernel) (by decide +kernel)) (bw_m 453 (by decide +kernel) (by decide +kernel)) (bw_m 454 (by decide +kernel) (by decide +kernel)) (bw_m 45 (by decide +kernel) (by decide +kernel)) (bw_m 455 (by decide +kernel) (by decide +kernel))
def kM_thrown : List Cond := bw yM_thrown cM_thrown 1 (some .int)
theorem gL_M_thrown : ∀ w ∈ wsV RL 50 RM yM_thrown kM_thrown, w ∈ bw_G := bw_V (bw_m 448 (by decide +kernel) (by decide +kernel)) (bw_m 449 (by decide +kernel) (by decide +kernel)) (bw_m 450 (by decide +kernel) (by decide +kernel)) (bw_m 45 (by decide +kernel) (by decide +kernel)) (bw_m 451 (by decide +kernel) (by decide +kernel))
def kL_store : List Cond := bwH yL_store cL_store 6 (some .int) [(0, 12, 15, 13), (0, 12, 19, 21)]
theorem gL_L_store : ∀ w ∈ va_wsS RL 54 yL_store kL_store, w ∈ bw_G := bw_S (bw_m 333 (by decide +kernel) (by decide +kernel)) (bw_m 334 (by decide +kernel) (by decide +kernel)) (bw_m 42 (by decide +kernel) (by decide +kernel)) (bw_m 335 (by decide +kernel) (by decide +kernel))
def kM_store : List Cond := bw yM_store cM_store 4 (some .int)
theorem gL_M_store : ∀ w ∈ wsV RL 57 RM yM_store kM_store, w ∈ bw_G := bw_V (bw_m 507 (by decide +kernel) (by decide +kernel)) (bw_m 508 (by decide +kernel) (by decide +kernel)) (bw_m 509 (by decide +kernel) (by decide +kernel)) (bw_m 45 (by decide +kernel) (by decide +kernel)) (bw_m 510 (by decide +kernel) (by decide +kernel))
def kL_load : List Cond := bwH yL_load cL_load 6 (some .int) [(0, 12, 15, 13), (0, 12, 19, 21)]
theorem gL_L_load : ∀ w ∈ va_wsS RL 58 yL_load kL_load, w ∈ bw_G := bw_S (bw_m 369 (by decide +kernel) (by decide +kernel)) (bw_m 370 (by decide +kernel) (by decide +kernel)) (bw_m 42 (by decide +kernel) (by decide +kernel)) (bw_m 371 (by decide +kernel) (by decide +kernel))
def kM_load : List Cond := bw yM_load cM_load 4 (some .int)
theorem gL_M_load : ∀ w ∈ wsV RL 60 RM yM_load kM_load, w ∈ bw_G := bw_V (bw_m 531 (by decide +kernel) (by decide +kernel)) (bw_m 532 (by decide +kernel) (by decide +kernel)) (bw_m 533 (by decide +kernel) (by decide +kernel)) (bw_m 45 (by decide +kernel) (by decide +kernel)) (bw_m 534 (by decide +kernel) (by decide +kernel))
def kL_value : List Cond := bwH yL_value cL_value 4 (some .int) [(0, 9, 12, 13), (0, 9, 15, 21)]
theorem gL_L_value : ∀ w ∈ va_wsS RL 61 yL_value kL_value, w ∈ bw_G := bw_S (bw_m 376 (by decide +kernel) (by decide +kernel)) (bw_m 377 (by decide +kernel) (by decide +kernel)) (bw_m 42 (by decide +kernel) (by decide +kernel)) (bw_m 378 (by decide +kernel) (by decide +kernel))
def kM_value : List Cond := bw yM_value cM_value 2 (some .int)
theorem gL_M_value : ∀ w ∈ wsV RL 64 RM yM_value kM_value, w ∈ bw_G := bw_V (bw_m 535 (by decide +kernel) (by decide +kernel)) (bw_m 536 (by decide +kernel) (by decide +kernel)) (bw_m 537 (by decide +kernel) (by decide +kernel)) (bw_m 45 (by decide +kernel) (by decide +kernel)) (bw_m 538 (by decide +kernel) (by decide +kernel))
def kL_copy : List Cond := bwH yL_copy cL_copy 5 (some .int) [(0, 10, 13, 13)]
theorem gL_L_copy : ∀ w ∈ va_wsS RL 65 yL_copy kL_copy, w ∈ bw_G := bw_S (bw_m 383 (by decide +kernel) (by decide +kernel)) (bw_m 384 (by decide +kernel) (by decide +kernel)) (bw_m 42 (by decide +kernel) (by decide +kernel)) (bw_m 385 (by decide +kernel) (by decide +kernel))
def kM_copy : List Cond := bw yM_copy cM_copy 3 (some .int)
theorem gL_M_copy : ∀ w ∈ wsV RL 67 RM yM_copy kM_copy, w ∈ bw_G := bw_V (bw_m 539 (by decide +kernel) (by decide +kernel)) (bw_m 540 (by decide +kernel) (by decide +kernel)) (bw_m 541 (by decide +kernel) (by decide +kernel)) (bw_m 45 (by decide +kernel) (by decide +kernel)) (bw_m 542 (by decide +kernel) (by decide +kernel))
def kL_drop : List Cond := bwH yL_drop cL_drop 4 (some .int) [(0, 16, 19, 13)]
theorem gL_L_drop : ∀ w ∈ va_wsS RL 68 yL_drop kL_drop, w ∈ bw_G := bw_S (bw_m 390 (by decide +kernel) (by decide +kernel)) (bw_m 391 (by decide +kernel) (by decide +kernel)) (bw_m 42 (by decide +kernel) (by decide +kernel)) (bw_m 392 (by decide +kernel) (by decide +kernel))
def kM_drop : List Cond := bw yM_drop cM_drop 3 (some .boolean)
theorem gL_M_drop : ∀ w ∈ wsV RL 70 RM yM_drop kM_drop, w ∈ bw_G := bw_V (bw_m 543 (by decide +kernel) (by decide +kernel)) (bw_m 544 (by decide +kernel) (by decide +kernel)) (bw_m 545 (by decide +kernel) (by decide +kernel)) (bw_m 45 (by decide +kernel) (by decide +kernel)) (bw_m 546 (by decide +kernel) (by decide +kernel))
def kL_budget : List Cond := bwH yL_budget cL_budget 4 (some .int) [(0, 9, 12, 21)]
theorem gL_L_budget : ∀ w ∈ va_wsS RL 71 yL_budget kL_budget, w ∈ bw_G := bw_S (bw_m 397 (by decide +kernel) (by decide +kernel)) (bw_m 398 (by decide +kernel) (by decide +kernel)) (bw_m 42 (by decide +kernel) (by decide +kernel)) (bw_m 399 (by decide +kernel) (by decide +kernel))
def kM_budget : List Cond := bw yM_budget cM_budget 2 (some .int)
theorem gL_M_budget : ∀ w ∈ wsV RL 73 RM yM_budget kM_budget, w ∈ bw_G := bw_V (bw_m 547 (by decide +kernel) (by decide +kernel)) (bw_m 548 (by decide +kernel) (by decide +kernel)) (bw_m 549 (by decide +kernel) (by decide +kernel)) (bw_m 45 (by decide +kernel) (by decide +kernel)) (bw_m 550 (by decide +kernel) (by decide +kernel))
def kH_collect : List Cond := bw yH_collect cH_collect 1 (some .int)
theorem gL_H_collect : ∀ w ∈ wsV RL 74 RH yH_collect kH_collect, w ∈ bw_G := bw_V (bw_m 108 (by decide +kernel) (by decide +kernel)) (bw_m 109 (by decide +kernel) (by decide +kernel)) (bw_m 110 (by decide +kernel) (by decide +kernel)) (bw_m 43 (by decide +kernel) (by decide +kernel)) (bw_m 111 (by decide +kernel) (by decide +kernel))
def kM_collect : List Cond := bw yM_collect cM_collect 1 (some .int)
theorem gL_M_collect : ∀ w ∈ wsV RL 77 RM yM_collect kM_collect, w ∈ bw_G := bw_V (bw_m 551 (by decide +kernel) (by decide +kernel)) (bw_m 552 (by decide +kernel) (by decide +kernel)) (bw_m 553 (by decide +kernel) (by decide +kernel)) (bw_m 45 (by decide +kernel) (by decide +kernel)) (bw_m 554 (by decide +kernel) (by decide +kernel))
def kH_thorough : List Cond := bw yH_thorough cH_thorough 2 (some .int)
theorem gL_H_thorough : ∀ w ∈ wsV RL 78 RH yH_thorough kH_thorough, w ∈ bw_G := bw_V (bw_m 138 (by decide +kernel) (by decide +kernel)) (bw_m 139 (by decide +kernel) (by decide +kernel)) (bw_m 140 (by decide +kernel) (by decide +kernel)) (bw_m 43 (by decide +kernel) (by decide +kernel)) (bw_m 141 (by decide +kernel) (by decide +kernel))
def kM_thorough : List Cond := bw yM_thorough cM_thorough 2 (some .int)
theorem gL_M_thorough : ∀ w ∈ wsV RL 81 RM yM_thorough kM_thorough, w ∈ bw_G := bw_V (bw_m 555 (by decide +kernel) (by decide +kernel)) (bw_m 556 (by decide +kernel) (by decide +kernel)) (bw_m 557 (by decide +kernel) (by decide +kernel)) (bw_m 45 (by decide +kernel) (by decide +kernel)) (bw_m 558 (by decide +kernel) (by decide +kernel))
def kH_faults : List Cond := bw yH_faults cH_faults 1 (some .int)
theorem gL_H_faults : ∀ w ∈ wsV RL 82 RH yH_faults kH_faults, w ∈ bw_G := bw_V (bw_m 186 (by decide +kernel) (by decide +kernel)) (bw_m 187 (by decide +kernel) (by decide +kernel)) (bw_m 188 (by decide +kernel) (by decide +kernel)) (bw_m 43 (by decide +kernel) (by decide +kernel)) (bw_m 189 (by decide +kernel) (by decide +kernel))
def kM_faults : List Cond := bw yM_faults cM_faults 1 (some .int)
theorem gL_M_faults : ∀ w ∈ wsV RL 85 RM yM_faults kM_faults, w ∈ bw_G := bw_V (bw_m 559 (by decide +kernel) (by decide +kernel)) (bw_m 560 (by decide +kernel) (by decide +kernel)) (bw_m 561 (by decide +kernel) (by decide +kernel)) (bw_m 45 (by decide +kernel) (by decide +kernel)) (bw_m 562 (by decide +kernel) (by decide +kernel))
def kH_objects : List Cond := bw yH_objects cH_objects 3 (some .int)
theorem gL_H_objects : ∀ w ∈ wsV RL 86 RH yH_objects kH_objects, w ∈ bw_G := bw_V (bw_m 190 (by decide +kernel) (by decide +kernel)) (bw_m 191 (by decide +kernel) (by decide +kernel)) (bw_m 192 (by decide +kernel) (by decide +kernel)) (bw_m 43 (by decide +kernel) (by decide +kernel)) (bw_m 193 (by decide +kernel) (by decide +kernel))
def kM_objects : List Cond := bw yM_objects cM_objects 3 (some .int)
theorem gL_M_objects : ∀ w ∈ wsV RL 89 RM yM_objects kM_objects, w ∈ bw_G := bw_V (bw_m 563 (by decide +kernel) (by decide +kernel)) (bw_m 564 (by decide +kernel) (by decide +kernel)) (bw_m 565 (by decide +kernel) (by decide +kernel)) (bw_m 45 (by decide +kernel) (by decide +kernel)) (bw_m 566 (by decide +kernel) (by decide +kernel))
def kH_page : List Cond := bw yH_page cH_page 2 (some .int)
theorem gL_H_page : ∀ w ∈ wsV RL 90 RH yH_page kH_page, w ∈ bw_G := bw_V (bw_m 194 (by decide +kernel) (by decide +kernel)) (bw_m 195 (by decide +kernel) (by decide +kernel)) (bw_m 196 (by decide +kernel) (by decide +kernel)) (bw_m 43 (by decide +kernel) (by decide +kernel)) (bw_m 197 (by decide +kernel) (by decide +kernel))
def kM_page : List Cond := bw yM_page cM_page 2 (some .int)
theorem gL_M_page : ∀ w ∈ wsV RL 93 RM yM_page kM_page, w ∈ bw_G := bw_V (bw_m 567 (by decide +kernel) (by decide +kernel)) (bw_m 568 (by decide +kernel) (by decide +kernel)) (bw_m 569 (by decide +kernel) (by decide +kernel)) (bw_m 45 (by decide +kernel) (by decide +kernel)) (bw_m 570 (by decide +kernel) (by decide +kernel))
def kH_count : List Cond := bw yH_count cH_count 2 (some .int)
theorem gL_H_count : ∀ w ∈ wsV RL 94 RH yH_count kH_count, w ∈ bw_G := bw_V (bw_m 201 (by decide +kernel) (by decide +kernel)) (bw_m 202 (by decide +kernel) (by decide +kernel)) (bw_m 203 (by decide +kernel) (by decide +kernel)) (bw_m 43 (by decide +kernel) (by decide +kernel)) (bw_m 204 (by decide +kernel) (by decide +kernel))
def kM_count : List Cond := bw yM_count cM_count 2 (some .int)
theorem gL_M_count : ∀ w ∈ wsV RL 97 RM yM_count kM_count, w ∈ bw_G := bw_V (bw_m 574 (by decide +kernel) (by decide +kernel)) (bw_m 575 (by decide +kernel) (by decide +kernel)) (bw_m 576 (by decide +kernel) (by decide +kernel)) (bw_m 45 (by decide +kernel) (by decide +kernel)) (bw_m 577 (by decide +kernel) (by decide +kernel))
def kH_places : List Cond := bw yH_places cH_places 5 (some .int)
theorem gL_H_places : ∀ w ∈ wsV RL 98 RH yH_places kH_places, w ∈ bw_G := bw_V (bw_m 205 (by decide +kernel) (by decide +kernel)) (bw_m 206 (by decide +kernel) (by decide +kernel)) (bw_m 207 (by decide +kernel) (by decide +kernel)) (bw_m 43 (by decide +kernel) (by decide +kernel)) (bw_m 208 (by decide +kernel) (by decide +kernel))
def kM_places : List Cond := bw yM_places cM_places 4 (some .int)
theorem gL_M_places : ∀ w ∈ wsV RL 101 RM yM_places kM_places, w ∈ bw_G := bw_V (bw_m 578 (by decide +kernel) (by decide +kernel)) (bw_m 579 (by decide +kernel) (by decide +kernel)) (bw_m 580 (by decide +kernel) (by decide +kernel)) (bw_m 45 (by decide +kernel) (by decide +kernel)) (bw_m 581 (by decide +kernel) (by decide +kernel))
def kH_hand : List Cond := bw yH_hand cH_hand 1 (some .int)
theorem gL_H_hand : ∀ w ∈ wsV RL 102 RH yH_hand kH_hand, w ∈ bw_G := bw_V (bw_m 209 (by decide +kernel) (by decide +kernel)) (bw_m 210 (by decide +kernel) (by decide +kernel)) (bw_m 211 (by decide +kernel) (by decide +kernel)) (bw_m 43 (by decide +kernel) (by decide +kernel)) (bw_m 212 (by decide +kernel) (by decide +kernel))
def kM_hand : List Cond := bw yM_hand cM_hand 1 (some .int)
theorem gL_M_hand : ∀ w ∈ wsV RL 105 RM yM_hand kM_hand, w ∈ bw_G := bw_V (bw_m 582 (by decide +kernel) (by decide +kernel)) (bw_m 583 (by decide +kernel) (by decide +kernel)) (bw_m 584 (by decide +kernel) (by decide +kernel)) (bw_m 45 (by decide +kernel) (by decide +kernel)) (bw_m 585 (by decide +kernel) (by decide +kernel))
end
section
-- decode rows: written by wip/whole/names.py
theorem dH_init_0 : decode cH_init 0 = .ok (.aload_n 0, 1) := by decide +kernel
theorem dH_init_1 : decode cH_init 1 = .ok (.invokespecial 3, 3) := by decide +kernel
theorem dH_init_4 : decode cH_init 4 = .ok (.aload_n 0, 1) := by decide +kernel
theorem dH_init_5 : decode cH_init 5 = .ok (.bipush 32, 2) := by decide +kernel
theorem dH_init_7 : decode cH_init 7 = .ok (.newarray .boolean, 2) := by decide +kernel
theorem dH_init_9 : decode cH_init 9 = .ok (.putfield 9, 3) := by decide +kernel
theorem dH_init_12 : decode cH_init 12 = .ok (.aload_n 0, 1) := by decide +kernel
theorem dH_init_13 : decode cH_init 13 = .ok (.bipush 32, 2) := by decide +kernel
theorem dH_init_15 : decode cH_init 15 = .ok (.newarray .boolean, 2) := by decide +kernel
theorem dH_init_17 : decode cH_init 17 = .ok (.putfield 13, 3) := by decide +kernel
theorem dH_init_20 : decode cH_init 20 = .ok (.aload_n 0, 1) := by decide +kernel
theorem dH_init_21 : decode cH_init 21 = .ok (.bipush 32, 2) := by decide +kernel
theorem dH_init_23 : decode cH_init 23 = .ok (.newarray .int, 2) := by decide +kernel
theorem dH_init_25 : decode cH_init 25 = .ok (.putfield 16, 3) := by decide +kernel
theorem dH_init_28 : decode cH_init 28 = .ok (.aload_n 0, 1) := by decide +kernel
theorem dH_init_29 : decode cH_init 29 = .ok (.bipush 64, 2) := by decide +kernel
theorem dH_init_31 : decode cH_init 31 = .ok (.newarray .int, 2) := by decide +kernel
theorem dH_init_33 : decode cH_init 33 = .ok (.putfield 20, 3) := by decide +kernel
theorem dH_init_36 : decode cH_init 36 = .ok (.aload_n 0, 1) := by decide +kernel
theorem dH_init_37 : decode cH_init 37 = .ok (.iconst 4, 1) := by decide +kernel
theorem dH_init_38 : decode cH_init 38 = .ok (.newarray .int, 2) := by decide +kernel
theorem dH_init_40 : decode cH_init 40 = .ok (.putfield 23, 3) := by decide +kernel
theorem dH_init_43 : decode cH_init 43 = .ok (.aload_n 0, 1) := by decide +kernel
theorem dH_init_44 : decode cH_init 44 = .ok (.bipush 8, 2) := by decide +kernel
theorem dH_init_46 : decode cH_init 46 = .ok (.newarray .int, 2) := by decide +kernel
theorem dH_init_48 : decode cH_init 48 = .ok (.putfield 26, 3) := by decide +kernel
theorem dH_init_51 : decode cH_init 51 = .ok (.aload_n 0, 1) := by decide +kernel
theorem dH_init_52 : decode cH_init 52 = .ok (.bipush 8, 2) := by decide +kernel
theorem dH_init_54 : decode cH_init 54 = .ok (.newarray .boolean, 2) := by decide +kernel
theorem dH_init_56 : decode cH_init 56 = .ok (.putfield 29, 3) := by decide +kernel
theorem dH_init_59 : decode cH_init 59 = .ok (.aload_n 0, 1) := by decide +kernel
theorem dH_init_60 : decode cH_init 60 = .ok (.bipush 8, 2) := by decide +kernel
theorem dH_init_62 : decode cH_init 62 = .ok (.newarray .int, 2) := by decide +kernel
theorem dH_init_64 : decode cH_init 64 = .ok (.putfield 32, 3) := by decide +kernel
theorem dH_init_67 : decode cH_init 67 = .ok (.aload_n 0, 1) := by decide +kernel
theorem dH_init_68 : decode cH_init 68 = .ok (.bipush 32, 2) := by decide +kernel
theorem dH_init_70 : decode cH_init 70 = .ok (.newarray .boolean, 2) := by decide +kernel
theorem dH_init_72 : decode cH_init 72 = .ok (.putfield 35, 3) := by decide +kernel
theorem dH_init_75 : decode cH_init 75 = .ok (.aload_n 0, 1) := by decide +kernel
theorem dH_init_76 : decode cH_init 76 = .ok (.bipush 32, 2) := by decide +kernel
theorem dH_init_78 : decode cH_init 78 = .ok (.newarray .int, 2) := by decide +kernel
theorem dH_init_80 : decode cH_init 80 = .ok (.putfield 38, 3) := by decide +kernel
theorem dH_init_83 : decode cH_init 83 = .ok (.aload_n 0, 1) := by decide +kernel
theorem dH_init_84 : decode cH_init 84 = .ok (.getfield 20, 3) := by decide +kernel
theorem dH_init_87 : decode cH_init 87 = .ok (.iconst (-1), 1) := by decide +kernel
theorem dH_init_88 : decode cH_init 88 = .ok (.invokestatic 41, 3) := by decide +kernel
theorem dH_init_91 : decode cH_init 91 = .ok (.aload_n 0, 1) := by decide +kernel
theorem dH_init_92 : decode cH_init 92 = .ok (.getfield 23, 3) := by decide +kernel
theorem dH_init_95 : decode cH_init 95 = .ok (.iconst (-1), 1) := by decide +kernel
theorem dH_init_96 : decode cH_init 96 = .ok (.invokestatic 41, 3) := by decide +kernel
theorem dH_init_99 : decode cH_init 99 = .ok (.aload_n 0, 1) := by decide +kernel
theorem dH_init_100 : decode cH_init 100 = .ok (.iconst 4, 1) := by decide +kernel
theorem dH_init_101 : decode cH_init 101 = .ok (.putfield 47, 3) := by decide +kernel
theorem dH_init_104 : decode cH_init 104 = .ok (.return_, 1) := by decide +kernel
theorem dH_make_0 : decode cH_make 0 = .ok (.iload_n 1, 1) := by decide +kernel
theorem dH_make_1 : decode cH_make 1 = .ok (.invokestatic 51, 3) := by decide +kernel
theorem dH_make_4 : decode cH_make 4 = .ok (.aload_n 0, 1) := by decide +kernel
theorem dH_make_5 : decode cH_make 5 = .ok (.iconst 1, 1) := by decide +kernel
theorem dH_make_6 : decode cH_make 6 = .ok (.invokevirtual 55, 3) := by decide +kernel
theorem dH_make_9 : decode cH_make 9 = .ok (.istore_n 3, 1) := by decide +kernel
theorem dH_make_10 : decode cH_make 10 = .ok (.iload_n 3, 1) := by decide +kernel
theorem dH_make_11 : decode cH_make 11 = .ok (.iconst (-1), 1) := by decide +kernel
theorem dH_make_12 : decode cH_make 12 = .ok (.if_icmp .ne 14, 3) := by decide +kernel
theorem dH_make_15 : decode cH_make 15 = .ok (.aload_n 0, 1) := by decide +kernel
theorem dH_make_16 : decode cH_make 16 = .ok (.invokevirtual 59, 3) := by decide +kernel
theorem dH_make_19 : decode cH_make 19 = .ok (.pop, 1) := by decide +kernel
theorem dH_make_20 : decode cH_make 20 = .ok (.aload_n 0, 1) := by decide +kernel
theorem dH_make_21 : decode cH_make 21 = .ok (.iconst 1, 1) := by decide +kernel
theorem dH_make_22 : decode cH_make 22 = .ok (.invokevirtual 55, 3) := by decide +kernel
theorem dH_make_25 : decode cH_make 25 = .ok (.istore_n 3, 1) := by decide +kernel
theorem dH_make_26 : decode cH_make 26 = .ok (.iload_n 3, 1) := by decide +kernel
theorem dH_make_27 : decode cH_make 27 = .ok (.iconst (-1), 1) := by decide +kernel
theorem dH_make_28 : decode cH_make 28 = .ok (.if_icmp .ne 8, 3) := by decide +kernel
theorem dH_make_31 : decode cH_make 31 = .ok (.aload_n 0, 1) := by decide +kernel
theorem dH_make_32 : decode cH_make 32 = .ok (.invokevirtual 63, 3) := by decide +kernel
theorem dH_make_35 : decode cH_make 35 = .ok (.istore_n 3, 1) := by decide +kernel
theorem dH_make_36 : decode cH_make 36 = .ok (.iload_n 3, 1) := by decide +kernel
theorem dH_make_37 : decode cH_make 37 = .ok (.iconst (-1), 1) := by decide +kernel
theorem dH_make_38 : decode cH_make 38 = .ok (.if_icmp .ne 13, 3) := by decide +kernel
theorem dH_make_41 : decode cH_make 41 = .ok (.new 66, 3) := by decide +kernel
theorem dH_make_44 : decode cH_make 44 = .ok (.dup, 1) := by decide +kernel
theorem dH_make_45 : decode cH_make 45 = .ok (.ldc 68, 2) := by decide +kernel
theorem dH_make_47 : decode cH_make 47 = .ok (.invokespecial 70, 3) := by decide +kernel
theorem dH_make_50 : decode cH_make 50 = .ok (.athrow, 1) := by decide +kernel
theorem dH_make_51 : decode cH_make 51 = .ok (.aload_n 0, 1) := by decide +kernel
theorem dH_make_52 : decode cH_make 52 = .ok (.getfield 16, 3) := by decide +kernel
theorem dH_make_55 : decode cH_make 55 = .ok (.iload_n 3, 1) := by decide +kernel
theorem dH_make_56 : decode cH_make 56 = .ok (.iload_n 2, 1) := by decide +kernel
theorem dH_make_57 : decode cH_make 57 = .ok (.iastore, 1) := by decide +kernel
theorem dH_make_58 : decode cH_make 58 = .ok (.aload_n 0, 1) := by decide +kernel
theorem dH_make_59 : decode cH_make 59 = .ok (.getfield 23, 3) := by decide +kernel
theorem dH_make_62 : decode cH_make 62 = .ok (.iload_n 1, 1) := by decide +kernel
theorem dH_make_63 : decode cH_make 63 = .ok (.iload_n 3, 1) := by decide +kernel
theorem dH_make_64 : decode cH_make 64 = .ok (.iastore, 1) := by decide +kernel
theorem dH_make_65 : decode cH_make 65 = .ok (.iload_n 3, 1) := by decide +kernel
theorem dH_make_66 : decode cH_make 66 = .ok (.ireturn, 1) := by decide +kernel
theorem dH_store_0 : decode cH_store 0 = .ok (.iload_n 1, 1) := by decide +kernel
theorem dH_store_1 : decode cH_store 1 = .ok (.invokestatic 51, 3) := by decide +kernel
theorem dH_store_4 : decode cH_store 4 = .ok (.iload_n 2, 1) := by decide +kernel
theorem dH_store_5 : decode cH_store 5 = .ok (.invokestatic 73, 3) := by decide +kernel
theorem dH_store_8 : decode cH_store 8 = .ok (.iload_n 3, 1) := by decide +kernel
theorem dH_store_9 : decode cH_store 9 = .ok (.invokestatic 51, 3) := by decide +kernel
theorem dH_store_12 : decode cH_store 12 = .ok (.aload_n 0, 1) := by decide +kernel
theorem dH_store_13 : decode cH_store 13 = .ok (.iload_n 1, 1) := by decide +kernel
theorem dH_store_14 : decode cH_store 14 = .ok (.invokevirtual 76, 3) := by decide +kernel
theorem dH_store_17 : decode cH_store 17 = .ok (.aload_n 0, 1) := by decide +kernel
theorem dH_store_18 : decode cH_store 18 = .ok (.getfield 23, 3) := by decide +kernel
theorem dH_store_21 : decode cH_store 21 = .ok (.iload_n 1, 1) := by decide +kernel
theorem dH_store_22 : decode cH_store 22 = .ok (.iaload, 1) := by decide +kernel
theorem dH_store_23 : decode cH_store 23 = .ok (.istore 4, 2) := by decide +kernel
theorem dH_store_25 : decode cH_store 25 = .ok (.aload_n 0, 1) := by decide +kernel
theorem dH_store_26 : decode cH_store 26 = .ok (.iload 4, 2) := by decide +kernel
theorem dH_store_28 : decode cH_store 28 = .ok (.invokestatic 79, 3) := by decide +kernel
theorem dH_store_31 : decode cH_store 31 = .ok (.invokevirtual 83, 3) := by decide +kernel
theorem dH_store_34 : decode cH_store 34 = .ok (.aload_n 0, 1) := by decide +kernel
theorem dH_store_35 : decode cH_store 35 = .ok (.getfield 20, 3) := by decide +kernel
theorem dH_store_38 : decode cH_store 38 = .ok (.iconst 2, 1) := by decide +kernel
theorem dH_store_39 : decode cH_store 39 = .ok (.iload 4, 2) := by decide +kernel
theorem dH_store_41 : decode cH_store 41 = .ok (.imul, 1) := by decide +kernel
theorem dH_store_42 : decode cH_store 42 = .ok (.iload_n 2, 1) := by decide +kernel
theorem dH_store_43 : decode cH_store 43 = .ok (.iadd, 1) := by decide +kernel
theorem dH_store_44 : decode cH_store 44 = .ok (.aload_n 0, 1) := by decide +kernel
theorem dH_store_45 : decode cH_store 45 = .ok (.getfield 23, 3) := by decide +kernel
theorem dH_store_48 : decode cH_store 48 = .ok (.iload_n 3, 1) := by decide +kernel
theorem dH_store_49 : decode cH_store 49 = .ok (.iaload, 1) := by decide +kernel
theorem dH_store_50 : decode cH_store 50 = .ok (.iastore, 1) := by decide +kernel
theorem dH_store_51 : decode cH_store 51 = .ok (.aload_n 0, 1) := by decide +kernel
theorem dH_store_52 : decode cH_store 52 = .ok (.getfield 86, 3) := by decide +kernel
theorem dH_store_55 : decode cH_store 55 = .ok (.ireturn, 1) := by decide +kernel
theorem dH_load_0 : decode cH_load 0 = .ok (.iload_n 1, 1) := by decide +kernel
theorem dH_load_1 : decode cH_load 1 = .ok (.invokestatic 51, 3) := by decide +kernel
theorem dH_load_4 : decode cH_load 4 = .ok (.iload_n 2, 1) := by decide +kernel
theorem dH_load_5 : decode cH_load 5 = .ok (.invokestatic 51, 3) := by decide +kernel
theorem dH_load_8 : decode cH_load 8 = .ok (.iload_n 3, 1) := by decide +kernel
theorem dH_load_9 : decode cH_load 9 = .ok (.invokestatic 73, 3) := by decide +kernel
theorem dH_load_12 : decode cH_load 12 = .ok (.aload_n 0, 1) := by decide +kernel
theorem dH_load_13 : decode cH_load 13 = .ok (.iload_n 2, 1) := by decide +kernel
theorem dH_load_14 : decode cH_load 14 = .ok (.invokevirtual 76, 3) := by decide +kernel
theorem dH_load_17 : decode cH_load 17 = .ok (.aload_n 0, 1) := by decide +kernel
theorem dH_load_18 : decode cH_load 18 = .ok (.getfield 23, 3) := by decide +kernel
theorem dH_load_21 : decode cH_load 21 = .ok (.iload_n 2, 1) := by decide +kernel
theorem dH_load_22 : decode cH_load 22 = .ok (.iaload, 1) := by decide +kernel
theorem dH_load_23 : decode cH_load 23 = .ok (.istore 4, 2) := by decide +kernel
theorem dH_load_25 : decode cH_load 25 = .ok (.aload_n 0, 1) := by decide +kernel
theorem dH_load_26 : decode cH_load 26 = .ok (.iload 4, 2) := by decide +kernel
theorem dH_load_28 : decode cH_load 28 = .ok (.invokestatic 79, 3) := by decide +kernel
theorem dH_load_31 : decode cH_load 31 = .ok (.invokevirtual 83, 3) := by decide +kernel
theorem dH_load_34 : decode cH_load 34 = .ok (.aload_n 0, 1) := by decide +kernel
theorem dH_load_35 : decode cH_load 35 = .ok (.getfield 23, 3) := by decide +kernel
theorem dH_load_38 : decode cH_load 38 = .ok (.iload_n 1, 1) := by decide +kernel
theorem dH_load_39 : decode cH_load 39 = .ok (.aload_n 0, 1) := by decide +kernel
theorem dH_load_40 : decode cH_load 40 = .ok (.getfield 20, 3) := by decide +kernel
theorem dH_load_43 : decode cH_load 43 = .ok (.iconst 2, 1) := by decide +kernel
theorem dH_load_44 : decode cH_load 44 = .ok (.iload 4, 2) := by decide +kernel
theorem dH_load_46 : decode cH_load 46 = .ok (.imul, 1) := by decide +kernel
theorem dH_load_47 : decode cH_load 47 = .ok (.iload_n 3, 1) := by decide +kernel
theorem dH_load_48 : decode cH_load 48 = .ok (.iadd, 1) := by decide +kernel
theorem dH_load_49 : decode cH_load 49 = .ok (.iaload, 1) := by decide +kernel
theorem dH_load_50 : decode cH_load 50 = .ok (.iastore, 1) := by decide +kernel
theorem dH_load_51 : decode cH_load 51 = .ok (.aload_n 0, 1) := by decide +kernel
theorem dH_load_52 : decode cH_load 52 = .ok (.getfield 86, 3) := by decide +kernel
theorem dH_load_55 : decode cH_load 55 = .ok (.ireturn, 1) := by decide +kernel
theorem dH_value_0 : decode cH_value 0 = .ok (.iload_n 1, 1) := by decide +kernel
theorem dH_value_1 : decode cH_value 1 = .ok (.invokestatic 51, 3) := by decide +kernel
theorem dH_value_4 : decode cH_value 4 = .ok (.aload_n 0, 1) := by decide +kernel
theorem dH_value_5 : decode cH_value 5 = .ok (.iload_n 1, 1) := by decide +kernel
theorem dH_value_6 : decode cH_value 6 = .ok (.invokevirtual 76, 3) := by decide +kernel
theorem dH_value_9 : decode cH_value 9 = .ok (.aload_n 0, 1) := by decide +kernel
theorem dH_value_10 : decode cH_value 10 = .ok (.getfield 23, 3) := by decide +kernel
theorem dH_value_13 : decode cH_value 13 = .ok (.iload_n 1, 1) := by decide +kernel
theorem dH_value_14 : decode cH_value 14 = .ok (.iaload, 1) := by decide +kernel
theorem dH_value_15 : decode cH_value 15 = .ok (.istore_n 2, 1) := by decide +kernel
theorem dH_value_16 : decode cH_value 16 = .ok (.aload_n 0, 1) := by decide +kernel
theorem dH_value_17 : decode cH_value 17 = .ok (.iload_n 2, 1) := by decide +kernel
theorem dH_value_18 : decode cH_value 18 = .ok (.invokestatic 79, 3) := by decide +kernel
theorem dH_value_21 : decode cH_value 21 = .ok (.invokevirtual 83, 3) := by decide +kernel
theorem dH_value_24 : decode cH_value 24 = .ok (.aload_n 0, 1) := by decide +kernel
theorem dH_value_25 : decode cH_value 25 = .ok (.getfield 16, 3) := by decide +kernel
theorem dH_value_28 : decode cH_value 28 = .ok (.iload_n 2, 1) := by decide +kernel
theorem dH_value_29 : decode cH_value 29 = .ok (.iaload, 1) := by decide +kernel
theorem dH_value_30 : decode cH_value 30 = .ok (.ireturn, 1) := by decide +kernel
theorem dH_copy_0 : decode cH_copy 0 = .ok (.iload_n 1, 1) := by decide +kernel
theorem dH_copy_1 : decode cH_copy 1 = .ok (.invokestatic 51, 3) := by decide +kernel
theorem dH_copy_4 : decode cH_copy 4 = .ok (.iload_n 2, 1) := by decide +kernel
theorem dH_copy_5 : decode cH_copy 5 = .ok (.invokestatic 51, 3) := by decide +kernel
theorem dH_copy_8 : decode cH_copy 8 = .ok (.aload_n 0, 1) := by decide +kernel
theorem dH_copy_9 : decode cH_copy 9 = .ok (.getfield 23, 3) := by decide +kernel
theorem dH_copy_12 : decode cH_copy 12 = .ok (.iload_n 1, 1) := by decide +kernel
theorem dH_copy_13 : decode cH_copy 13 = .ok (.aload_n 0, 1) := by decide +kernel
theorem dH_copy_14 : decode cH_copy 14 = .ok (.getfield 23, 3) := by decide +kernel
theorem dH_copy_17 : decode cH_copy 17 = .ok (.iload_n 2, 1) := by decide +kernel
theorem dH_copy_18 : decode cH_copy 18 = .ok (.iaload, 1) := by decide +kernel
theorem dH_copy_19 : decode cH_copy 19 = .ok (.iastore, 1) := by decide +kernel
theorem dH_copy_20 : decode cH_copy 20 = .ok (.aload_n 0, 1) := by decide +kernel
theorem dH_copy_21 : decode cH_copy 21 = .ok (.getfield 23, 3) := by decide +kernel
theorem dH_copy_24 : decode cH_copy 24 = .ok (.iload_n 1, 1) := by decide +kernel
theorem dH_copy_25 : decode cH_copy 25 = .ok (.iaload, 1) := by decide +kernel
theorem dH_copy_26 : decode cH_copy 26 = .ok (.ireturn, 1) := by decide +kernel
theorem dH_drop_0 : decode cH_drop 0 = .ok (.iload_n 1, 1) := by decide +kernel
theorem dH_drop_1 : decode cH_drop 1 = .ok (.invokestatic 51, 3) := by decide +kernel
theorem dH_drop_4 : decode cH_drop 4 = .ok (.aload_n 0, 1) := by decide +kernel
theorem dH_drop_5 : decode cH_drop 5 = .ok (.getfield 23, 3) := by decide +kernel
theorem dH_drop_8 : decode cH_drop 8 = .ok (.iload_n 1, 1) := by decide +kernel
theorem dH_drop_9 : decode cH_drop 9 = .ok (.iaload, 1) := by decide +kernel
theorem dH_drop_10 : decode cH_drop 10 = .ok (.iconst (-1), 1) := by decide +kernel
theorem dH_drop_11 : decode cH_drop 11 = .ok (.if_icmp .eq 7, 3) := by decide +kernel
theorem dH_drop_14 : decode cH_drop 14 = .ok (.iconst 1, 1) := by decide +kernel
theorem dH_drop_15 : decode cH_drop 15 = .ok (.goto 4, 3) := by decide +kernel
theorem dH_drop_18 : decode cH_drop 18 = .ok (.iconst 0, 1) := by decide +kernel
theorem dH_drop_19 : decode cH_drop 19 = .ok (.istore_n 2, 1) := by decide +kernel
theorem dH_drop_20 : decode cH_drop 20 = .ok (.aload_n 0, 1) := by decide +kernel
theorem dH_drop_21 : decode cH_drop 21 = .ok (.getfield 23, 3) := by decide +kernel
theorem dH_drop_24 : decode cH_drop 24 = .ok (.iload_n 1, 1) := by decide +kernel
theorem dH_drop_25 : decode cH_drop 25 = .ok (.iconst (-1), 1) := by decide +kernel
theorem dH_drop_26 : decode cH_drop 26 = .ok (.iastore, 1) := by decide +kernel
theorem dH_drop_27 : decode cH_drop 27 = .ok (.iload_n 2, 1) := by decide +kernel
theorem dH_drop_28 : decode cH_drop 28 = .ok (.ireturn, 1) := by decide +kernel
theorem dH_budget_0 : decode cH_budget 0 = .ok (.iload_n 1, 1) := by decide +kernel
theorem dH_budget_1 : decode cH_budget 1 = .ok (.iconst 2, 1) := by decide +kernel
theorem dH_budget_2 : decode cH_budget 2 = .ok (.if_icmp .lt 9, 3) := by decide +kernel
theorem dH_budget_5 : decode cH_budget 5 = .ok (.iload_n 1, 1) := by decide +kernel
theorem dH_budget_6 : decode cH_budget 6 = .ok (.bipush 8, 2) := by decide +kernel
theorem dH_budget_8 : decode cH_budget 8 = .ok (.if_icmp .le 13, 3) := by decide +kernel
theorem dH_budget_11 : decode cH_budget 11 = .ok (.new 89, 3) := by decide +kernel
theorem dH_budget_14 : decode cH_budget 14 = .ok (.dup, 1) := by decide +kernel
theorem dH_budget_15 : decode cH_budget 15 = .ok (.ldc 91, 2) := by decide +kernel
theorem dH_budget_17 : decode cH_budget 17 = .ok (.invokespecial 93, 3) := by decide +kernel
theorem dH_budget_20 : decode cH_budget 20 = .ok (.athrow, 1) := by decide +kernel
theorem dH_budget_21 : decode cH_budget 21 = .ok (.aload_n 0, 1) := by decide +kernel
theorem dH_budget_22 : decode cH_budget 22 = .ok (.iload_n 1, 1) := by decide +kernel
theorem dH_budget_23 : decode cH_budget 23 = .ok (.putfield 47, 3) := by decide +kernel
theorem dH_budget_26 : decode cH_budget 26 = .ok (.aload_n 0, 1) := by decide +kernel
theorem dH_budget_27 : decode cH_budget 27 = .ok (.iconst (-1), 1) := by decide +kernel
theorem dH_budget_28 : decode cH_budget 28 = .ok (.invokevirtual 94, 3) := by decide +kernel
theorem dH_budget_31 : decode cH_budget 31 = .ok (.ireturn, 1) := by decide +kernel
theorem dH_collect_0 : decode cH_collect 0 = .ok (.aload_n 0, 1) := by decide +kernel
theorem dH_collect_1 : decode cH_collect 1 = .ok (.invokevirtual 59, 3) := by decide +kernel
theorem dH_collect_4 : decode cH_collect 4 = .ok (.ireturn, 1) := by decide +kernel
theorem dH_thorough_0 : decode cH_thorough 0 = .ok (.aload_n 0, 1) := by decide +kernel
theorem dH_thorough_1 : decode cH_thorough 1 = .ok (.invokevirtual 97, 3) := by decide +kernel
theorem dH_thorough_4 : decode cH_thorough 4 = .ok (.aload_n 0, 1) := by decide +kernel
theorem dH_thorough_5 : decode cH_thorough 5 = .ok (.invokevirtual 59, 3) := by decide +kernel
theorem dH_thorough_8 : decode cH_thorough 8 = .ok (.istore_n 1, 1) := by decide +kernel
theorem dH_thorough_9 : decode cH_thorough 9 = .ok (.aload_n 0, 1) := by decide +kernel
theorem dH_thorough_10 : decode cH_thorough 10 = .ok (.iconst (-1), 1) := by decide +kernel
theorem dH_thorough_11 : decode cH_thorough 11 = .ok (.invokevirtual 94, 3) := by decide +kernel
theorem dH_thorough_14 : decode cH_thorough 14 = .ok (.pop, 1) := by decide +kernel
theorem dH_thorough_15 : decode cH_thorough 15 = .ok (.iload_n 1, 1) := by decide +kernel
theorem dH_thorough_16 : decode cH_thorough 16 = .ok (.ireturn, 1) := by decide +kernel
theorem dH_faults_0 : decode cH_faults 0 = .ok (.aload_n 0, 1) := by decide +kernel
theorem dH_faults_1 : decode cH_faults 1 = .ok (.getfield 86, 3) := by decide +kernel
theorem dH_faults_4 : decode cH_faults 4 = .ok (.ireturn, 1) := by decide +kernel
theorem dH_objects_0 : decode cH_objects 0 = .ok (.iconst 0, 1) := by decide +kernel
theorem dH_objects_1 : decode cH_objects 1 = .ok (.istore_n 1, 1) := by decide +kernel
theorem dH_objects_2 : decode cH_objects 2 = .ok (.iconst 0, 1) := by decide +kernel
theorem dH_objects_3 : decode cH_objects 3 = .ok (.istore_n 2, 1) := by decide +kernel
theorem dH_objects_4 : decode cH_objects 4 = .ok (.iload_n 2, 1) := by decide +kernel
theorem dH_objects_5 : decode cH_objects 5 = .ok (.bipush 32, 2) := by decide +kernel
theorem dH_objects_7 : decode cH_objects 7 = .ok (.if_icmp .ge 21, 3) := by decide +kernel
theorem dH_objects_10 : decode cH_objects 10 = .ok (.aload_n 0, 1) := by decide +kernel
theorem dH_objects_11 : decode cH_objects 11 = .ok (.getfield 9, 3) := by decide +kernel
theorem dH_objects_14 : decode cH_objects 14 = .ok (.iload_n 2, 1) := by decide +kernel
theorem dH_objects_15 : decode cH_objects 15 = .ok (.baload, 1) := by decide +kernel
theorem dH_objects_16 : decode cH_objects 16 = .ok (.ifCond .eq 6, 3) := by decide +kernel
theorem dH_objects_19 : decode cH_objects 19 = .ok (.iinc 1 1, 3) := by decide +kernel
theorem dH_objects_22 : decode cH_objects 22 = .ok (.iinc 2 1, 3) := by decide +kernel
theorem dH_objects_25 : decode cH_objects 25 = .ok (.goto (-21), 3) := by decide +kernel
theorem dH_objects_28 : decode cH_objects 28 = .ok (.iload_n 1, 1) := by decide +kernel
theorem dH_objects_29 : decode cH_objects 29 = .ok (.ireturn, 1) := by decide +kernel
theorem dH_page_0 : decode cH_page 0 = .ok (.iload_n 1, 1) := by decide +kernel
theorem dH_page_1 : decode cH_page 1 = .ok (.invokestatic 100, 3) := by decide +kernel
theorem dH_page_4 : decode cH_page 4 = .ok (.ifCond .ne 5, 3) := by decide +kernel
theorem dH_page_7 : decode cH_page 7 = .ok (.iconst (-1), 1) := by decide +kernel
theorem dH_page_8 : decode cH_page 8 = .ok (.ireturn, 1) := by decide +kernel
theorem dH_page_9 : decode cH_page 9 = .ok (.aload_n 0, 1) := by decide +kernel
theorem dH_page_10 : decode cH_page 10 = .ok (.getfield 26, 3) := by decide +kernel
theorem dH_page_13 : decode cH_page 13 = .ok (.iload_n 1, 1) := by decide +kernel
theorem dH_page_14 : decode cH_page 14 = .ok (.iaload, 1) := by decide +kernel
theorem dH_page_15 : decode cH_page 15 = .ok (.ifCond .ne 5, 3) := by decide +kernel
theorem dH_page_18 : decode cH_page 18 = .ok (.iconst 0, 1) := by decide +kernel
theorem dH_page_19 : decode cH_page 19 = .ok (.ireturn, 1) := by decide +kernel
theorem dH_page_20 : decode cH_page 20 = .ok (.aload_n 0, 1) := by decide +kernel
theorem dH_page_21 : decode cH_page 21 = .ok (.getfield 26, 3) := by decide +kernel
theorem dH_page_24 : decode cH_page 24 = .ok (.iload_n 1, 1) := by decide +kernel
theorem dH_page_25 : decode cH_page 25 = .ok (.iaload, 1) := by decide +kernel
theorem dH_page_26 : decode cH_page 26 = .ok (.iconst 2, 1) := by decide +kernel
theorem dH_page_27 : decode cH_page 27 = .ok (.if_icmp .ne 5, 3) := by decide +kernel
theorem dH_page_30 : decode cH_page 30 = .ok (.iconst 3, 1) := by decide +kernel
theorem dH_page_31 : decode cH_page 31 = .ok (.ireturn, 1) := by decide +kernel
theorem dH_page_32 : decode cH_page 32 = .ok (.aload_n 0, 1) := by decide +kernel
theorem dH_page_33 : decode cH_page 33 = .ok (.getfield 29, 3) := by decide +kernel
theorem dH_page_36 : decode cH_page 36 = .ok (.iload_n 1, 1) := by decide +kernel
theorem dH_page_37 : decode cH_page 37 = .ok (.baload, 1) := by decide +kernel
theorem dH_page_38 : decode cH_page 38 = .ok (.ifCond .eq 7, 3) := by decide +kernel
theorem dH_page_41 : decode cH_page 41 = .ok (.iconst 2, 1) := by decide +kernel
theorem dH_page_42 : decode cH_page 42 = .ok (.goto 4, 3) := by decide +kernel
theorem dH_page_45 : decode cH_page 45 = .ok (.iconst 1, 1) := by decide +kernel
theorem dH_page_46 : decode cH_page 46 = .ok (.ireturn, 1) := by decide +kernel
theorem dH_count_0 : decode cH_count 0 = .ok (.iload_n 1, 1) := by decide +kernel
theorem dH_count_1 : decode cH_count 1 = .ok (.invokestatic 100, 3) := by decide +kernel
theorem dH_count_4 : decode cH_count 4 = .ok (.ifCond .eq 12, 3) := by decide +kernel
theorem dH_count_7 : decode cH_count 7 = .ok (.aload_n 0, 1) := by decide +kernel
theorem dH_count_8 : decode cH_count 8 = .ok (.getfield 32, 3) := by decide +kernel
theorem dH_count_11 : decode cH_count 11 = .ok (.iload_n 1, 1) := by decide +kernel
theorem dH_count_12 : decode cH_count 12 = .ok (.iaload, 1) := by decide +kernel
theorem dH_count_13 : decode cH_count 13 = .ok (.goto 4, 3) := by decide +kernel
theorem dH_count_16 : decode cH_count 16 = .ok (.iconst (-1), 1) := by decide +kernel
theorem dH_count_17 : decode cH_count 17 = .ok (.ireturn, 1) := by decide +kernel
theorem dH_places_0 : decode cH_places 0 = .ok (.iload_n 1, 1) := by decide +kernel
theorem dH_places_1 : decode cH_places 1 = .ok (.invokestatic 100, 3) := by decide +kernel
theorem dH_places_4 : decode cH_places 4 = .ok (.ifCond .ne 5, 3) := by decide +kernel
theorem dH_places_7 : decode cH_places 7 = .ok (.iconst (-1), 1) := by decide +kernel
theorem dH_places_8 : decode cH_places 8 = .ok (.ireturn, 1) := by decide +kernel
theorem dH_places_9 : decode cH_places 9 = .ok (.iconst 0, 1) := by decide +kernel
theorem dH_places_10 : decode cH_places 10 = .ok (.istore_n 2, 1) := by decide +kernel
theorem dH_places_11 : decode cH_places 11 = .ok (.iconst 0, 1) := by decide +kernel
theorem dH_places_12 : decode cH_places 12 = .ok (.istore_n 3, 1) := by decide +kernel
theorem dH_places_13 : decode cH_places 13 = .ok (.iload_n 3, 1) := by decide +kernel
theorem dH_places_14 : decode cH_places 14 = .ok (.iconst 4, 1) := by decide +kernel
theorem dH_places_15 : decode cH_places 15 = .ok (.if_icmp .ge 49, 3) := by decide +kernel
theorem dH_places_18 : decode cH_places 18 = .ok (.iconst 4, 1) := by decide +kernel
theorem dH_places_19 : decode cH_places 19 = .ok (.iload_n 1, 1) := by decide +kernel
theorem dH_places_20 : decode cH_places 20 = .ok (.imul, 1) := by decide +kernel
theorem dH_places_21 : decode cH_places 21 = .ok (.iload_n 3, 1) := by decide +kernel
theorem dH_places_22 : decode cH_places 22 = .ok (.iadd, 1) := by decide +kernel
theorem dH_places_23 : decode cH_places 23 = .ok (.istore 4, 2) := by decide +kernel
theorem dH_places_25 : decode cH_places 25 = .ok (.aload_n 0, 1) := by decide +kernel
theorem dH_places_26 : decode cH_places 26 = .ok (.getfield 9, 3) := by decide +kernel
theorem dH_places_29 : decode cH_places 29 = .ok (.iload 4, 2) := by decide +kernel
theorem dH_places_31 : decode cH_places 31 = .ok (.baload, 1) := by decide +kernel
theorem dH_places_32 : decode cH_places 32 = .ok (.ifCond .eq 9, 3) := by decide +kernel
theorem dH_places_35 : decode cH_places 35 = .ok (.iload_n 2, 1) := by decide +kernel
theorem dH_places_36 : decode cH_places 36 = .ok (.iconst 1, 1) := by decide +kernel
theorem dH_places_37 : decode cH_places 37 = .ok (.iload_n 3, 1) := by decide +kernel
theorem dH_places_38 : decode cH_places 38 = .ok (.ishl, 1) := by decide +kernel
theorem dH_places_39 : decode cH_places 39 = .ok (.iadd, 1) := by decide +kernel
theorem dH_places_40 : decode cH_places 40 = .ok (.istore_n 2, 1) := by decide +kernel
theorem dH_places_41 : decode cH_places 41 = .ok (.aload_n 0, 1) := by decide +kernel
theorem dH_places_42 : decode cH_places 42 = .ok (.getfield 13, 3) := by decide +kernel
theorem dH_places_45 : decode cH_places 45 = .ok (.iload 4, 2) := by decide +kernel
theorem dH_places_47 : decode cH_places 47 = .ok (.baload, 1) := by decide +kernel
theorem dH_places_48 : decode cH_places 48 = .ok (.ifCond .eq 10, 3) := by decide +kernel
theorem dH_places_51 : decode cH_places 51 = .ok (.iload_n 2, 1) := by decide +kernel
theorem dH_places_52 : decode cH_places 52 = .ok (.bipush 16, 2) := by decide +kernel
theorem dH_places_54 : decode cH_places 54 = .ok (.iload_n 3, 1) := by decide +kernel
theorem dH_places_55 : decode cH_places 55 = .ok (.ishl, 1) := by decide +kernel
theorem dH_places_56 : decode cH_places 56 = .ok (.iadd, 1) := by decide +kernel
theorem dH_places_57 : decode cH_places 57 = .ok (.istore_n 2, 1) := by decide +kernel
theorem dH_places_58 : decode cH_places 58 = .ok (.iinc 3 1, 3) := by decide +kernel
theorem dH_places_61 : decode cH_places 61 = .ok (.goto (-48), 3) := by decide +kernel
theorem dH_places_64 : decode cH_places 64 = .ok (.iload_n 2, 1) := by decide +kernel
theorem dH_places_65 : decode cH_places 65 = .ok (.ireturn, 1) := by decide +kernel
theorem dH_hand_0 : decode cH_hand 0 = .ok (.aload_n 0, 1) := by decide +kernel
theorem dH_hand_1 : decode cH_hand 1 = .ok (.getfield 104, 3) := by decide +kernel
theorem dH_hand_4 : decode cH_hand 4 = .ok (.ireturn, 1) := by decide +kernel
theorem dH_checkRegister_0 : decode cH_checkRegister 0 = .ok (.iload_n 0, 1) := by decide +kernel
theorem dH_checkRegister_1 : decode cH_checkRegister 1 = .ok (.ifCond .lt 8, 3) := by decide +kernel
theorem dH_checkRegister_4 : decode cH_checkRegister 4 = .ok (.iload_n 0, 1) := by decide +kernel
theorem dH_checkRegister_5 : decode cH_checkRegister 5 = .ok (.iconst 4, 1) := by decide +kernel
theorem dH_checkRegister_6 : decode cH_checkRegister 6 = .ok (.if_icmp .lt 13, 3) := by decide +kernel
theorem dH_checkRegister_9 : decode cH_checkRegister 9 = .ok (.new 107, 3) := by decide +kernel
theorem dH_checkRegister_12 : decode cH_checkRegister 12 = .ok (.dup, 1) := by decide +kernel
theorem dH_checkRegister_13 : decode cH_checkRegister 13 = .ok (.ldc 109, 2) := by decide +kernel
theorem dH_checkRegister_15 : decode cH_checkRegister 15 = .ok (.invokespecial 111, 3) := by decide +kernel
theorem dH_checkRegister_18 : decode cH_checkRegister 18 = .ok (.athrow, 1) := by decide +kernel
theorem dH_checkRegister_19 : decode cH_checkRegister 19 = .ok (.return_, 1) := by decide +kernel
theorem dH_checkField_0 : decode cH_checkField 0 = .ok (.iload_n 0, 1) := by decide +kernel
theorem dH_checkField_1 : decode cH_checkField 1 = .ok (.ifCond .lt 8, 3) := by decide +kernel
theorem dH_checkField_4 : decode cH_checkField 4 = .ok (.iload_n 0, 1) := by decide +kernel
theorem dH_checkField_5 : decode cH_checkField 5 = .ok (.iconst 2, 1) := by decide +kernel
theorem dH_checkField_6 : decode cH_checkField 6 = .ok (.if_icmp .lt 13, 3) := by decide +kernel
theorem dH_checkField_9 : decode cH_checkField 9 = .ok (.new 107, 3) := by decide +kernel
theorem dH_checkField_12 : decode cH_checkField 12 = .ok (.dup, 1) := by decide +kernel
theorem dH_checkField_13 : decode cH_checkField 13 = .ok (.ldc 112, 2) := by decide +kernel
theorem dH_checkField_15 : decode cH_checkField 15 = .ok (.invokespecial 111, 3) := by decide +kernel
theorem dH_checkField_18 : decode cH_checkField 18 = .ok (.athrow, 1) := by decide +kernel
theorem dH_checkField_19 : decode cH_checkField 19 = .ok (.return_, 1) := by decide +kernel
theorem dH_checkHolds_0 : decode cH_checkHolds 0 = .ok (.aload_n 0, 1) := by decide +kernel
theorem dH_checkHolds_1 : decode cH_checkHolds 1 = .ok (.getfield 23, 3) := by decide +kernel
theorem dH_checkHolds_4 : decode cH_checkHolds 4 = .ok (.iload_n 1, 1) := by decide +kernel
theorem dH_checkHolds_5 : decode cH_checkHolds 5 = .ok (.iaload, 1) := by decide +kernel
theorem dH_checkHolds_6 : decode cH_checkHolds 6 = .ok (.iconst (-1), 1) := by decide +kernel
theorem dH_checkHolds_7 : decode cH_checkHolds 7 = .ok (.if_icmp .ne 13, 3) := by decide +kernel
theorem dH_checkHolds_10 : decode cH_checkHolds 10 = .ok (.new 89, 3) := by decide +kernel
theorem dH_checkHolds_13 : decode cH_checkHolds 13 = .ok (.dup, 1) := by decide +kernel
theorem dH_checkHolds_14 : decode cH_checkHolds 14 = .ok (.ldc 114, 2) := by decide +kernel
theorem dH_checkHolds_16 : decode cH_checkHolds 16 = .ok (.invokespecial 93, 3) := by decide +kernel
theorem dH_checkHolds_19 : decode cH_checkHolds 19 = .ok (.athrow, 1) := by decide +kernel
theorem dH_checkHolds_20 : decode cH_checkHolds 20 = .ok (.return_, 1) := by decide +kernel
theorem dH_isPage_0 : decode cH_isPage 0 = .ok (.iload_n 0, 1) := by decide +kernel
theorem dH_isPage_1 : decode cH_isPage 1 = .ok (.ifCond .lt 13, 3) := by decide +kernel
theorem dH_isPage_4 : decode cH_isPage 4 = .ok (.iload_n 0, 1) := by decide +kernel
theorem dH_isPage_5 : decode cH_isPage 5 = .ok (.bipush 8, 2) := by decide +kernel
theorem dH_isPage_7 : decode cH_isPage 7 = .ok (.if_icmp .ge 7, 3) := by decide +kernel
theorem dH_isPage_10 : decode cH_isPage 10 = .ok (.iconst 1, 1) := by decide +kernel
theorem dH_isPage_11 : decode cH_isPage 11 = .ok (.goto 4, 3) := by decide +kernel
theorem dH_isPage_14 : decode cH_isPage 14 = .ok (.iconst 0, 1) := by decide +kernel
theorem dH_isPage_15 : decode cH_isPage 15 = .ok (.ireturn, 1) := by decide +kernel
theorem dH_pageOf_0 : decode cH_pageOf 0 = .ok (.iload_n 0, 1) := by decide +kernel
theorem dH_pageOf_1 : decode cH_pageOf 1 = .ok (.iconst 4, 1) := by decide +kernel
theorem dH_pageOf_2 : decode cH_pageOf 2 = .ok (.idiv, 1) := by decide +kernel
theorem dH_pageOf_3 : decode cH_pageOf 3 = .ok (.ireturn, 1) := by decide +kernel
theorem dH_firstPlaceOf_0 : decode cH_firstPlaceOf 0 = .ok (.iconst 4, 1) := by decide +kernel
theorem dH_firstPlaceOf_1 : decode cH_firstPlaceOf 1 = .ok (.iload_n 0, 1) := by decide +kernel
theorem dH_firstPlaceOf_2 : decode cH_firstPlaceOf 2 = .ok (.imul, 1) := by decide +kernel
theorem dH_firstPlaceOf_3 : decode cH_firstPlaceOf 3 = .ok (.ireturn, 1) := by decide +kernel
theorem dH_pagesIn_0 : decode cH_pagesIn 0 = .ok (.iconst 0, 1) := by decide +kernel
theorem dH_pagesIn_1 : decode cH_pagesIn 1 = .ok (.istore_n 1, 1) := by decide +kernel
theorem dH_pagesIn_2 : decode cH_pagesIn 2 = .ok (.iconst 0, 1) := by decide +kernel
theorem dH_pagesIn_3 : decode cH_pagesIn 3 = .ok (.istore_n 2, 1) := by decide +kernel
theorem dH_pagesIn_4 : decode cH_pagesIn 4 = .ok (.iload_n 2, 1) := by decide +kernel
theorem dH_pagesIn_5 : decode cH_pagesIn 5 = .ok (.bipush 8, 2) := by decide +kernel
theorem dH_pagesIn_7 : decode cH_pagesIn 7 = .ok (.if_icmp .ge 22, 3) := by decide +kernel
theorem dH_pagesIn_10 : decode cH_pagesIn 10 = .ok (.aload_n 0, 1) := by decide +kernel
theorem dH_pagesIn_11 : decode cH_pagesIn 11 = .ok (.getfield 26, 3) := by decide +kernel
theorem dH_pagesIn_14 : decode cH_pagesIn 14 = .ok (.iload_n 2, 1) := by decide +kernel
theorem dH_pagesIn_15 : decode cH_pagesIn 15 = .ok (.iaload, 1) := by decide +kernel
theorem dH_pagesIn_16 : decode cH_pagesIn 16 = .ok (.iconst 1, 1) := by decide +kernel
theorem dH_pagesIn_17 : decode cH_pagesIn 17 = .ok (.if_icmp .ne 6, 3) := by decide +kernel
theorem dH_pagesIn_20 : decode cH_pagesIn 20 = .ok (.iinc 1 1, 3) := by decide +kernel
theorem dH_pagesIn_23 : decode cH_pagesIn 23 = .ok (.iinc 2 1, 3) := by decide +kernel
theorem dH_pagesIn_26 : decode cH_pagesIn 26 = .ok (.goto (-22), 3) := by decide +kernel
theorem dH_pagesIn_29 : decode cH_pagesIn 29 = .ok (.iload_n 1, 1) := by decide +kernel
theorem dH_pagesIn_30 : decode cH_pagesIn 30 = .ok (.ireturn, 1) := by decide +kernel
theorem dH_refersTo_0 : decode cH_refersTo 0 = .ok (.iload_n 1, 1) := by decide +kernel
theorem dH_refersTo_1 : decode cH_refersTo 1 = .ok (.iload_n 2, 1) := by decide +kernel
theorem dH_refersTo_2 : decode cH_refersTo 2 = .ok (.if_icmp .ne 5, 3) := by decide +kernel
theorem dH_refersTo_5 : decode cH_refersTo 5 = .ok (.iconst 0, 1) := by decide +kernel
theorem dH_refersTo_6 : decode cH_refersTo 6 = .ok (.ireturn, 1) := by decide +kernel
theorem dH_refersTo_7 : decode cH_refersTo 7 = .ok (.iconst 2, 1) := by decide +kernel
theorem dH_refersTo_8 : decode cH_refersTo 8 = .ok (.iload_n 1, 1) := by decide +kernel
theorem dH_refersTo_9 : decode cH_refersTo 9 = .ok (.invokestatic 116, 3) := by decide +kernel
theorem dH_refersTo_12 : decode cH_refersTo 12 = .ok (.imul, 1) := by decide +kernel
theorem dH_refersTo_13 : decode cH_refersTo 13 = .ok (.istore_n 3, 1) := by decide +kernel
theorem dH_refersTo_14 : decode cH_refersTo 14 = .ok (.iload_n 3, 1) := by decide +kernel
theorem dH_refersTo_15 : decode cH_refersTo 15 = .ok (.istore 4, 2) := by decide +kernel
theorem dH_refersTo_17 : decode cH_refersTo 17 = .ok (.iload 4, 2) := by decide +kernel
theorem dH_refersTo_19 : decode cH_refersTo 19 = .ok (.iload_n 3, 1) := by decide +kernel
theorem dH_refersTo_20 : decode cH_refersTo 20 = .ok (.bipush 8, 2) := by decide +kernel
theorem dH_refersTo_22 : decode cH_refersTo 22 = .ok (.iadd, 1) := by decide +kernel
theorem dH_refersTo_23 : decode cH_refersTo 23 = .ok (.if_icmp .ge 36, 3) := by decide +kernel
theorem dH_refersTo_26 : decode cH_refersTo 26 = .ok (.aload_n 0, 1) := by decide +kernel
theorem dH_refersTo_27 : decode cH_refersTo 27 = .ok (.getfield 20, 3) := by decide +kernel
theorem dH_refersTo_30 : decode cH_refersTo 30 = .ok (.iload 4, 2) := by decide +kernel
theorem dH_refersTo_32 : decode cH_refersTo 32 = .ok (.iaload, 1) := by decide +kernel
theorem dH_refersTo_33 : decode cH_refersTo 33 = .ok (.iconst (-1), 1) := by decide +kernel
theorem dH_refersTo_34 : decode cH_refersTo 34 = .ok (.if_icmp .eq 19, 3) := by decide +kernel
theorem dH_refersTo_37 : decode cH_refersTo 37 = .ok (.aload_n 0, 1) := by decide +kernel
theorem dH_refersTo_38 : decode cH_refersTo 38 = .ok (.getfield 20, 3) := by decide +kernel
theorem dH_refersTo_41 : decode cH_refersTo 41 = .ok (.iload 4, 2) := by decide +kernel
theorem dH_refersTo_43 : decode cH_refersTo 43 = .ok (.iaload, 1) := by decide +kernel
theorem dH_refersTo_44 : decode cH_refersTo 44 = .ok (.invokestatic 79, 3) := by decide +kernel
theorem dH_refersTo_47 : decode cH_refersTo 47 = .ok (.iload_n 2, 1) := by decide +kernel
theorem dH_refersTo_48 : decode cH_refersTo 48 = .ok (.if_icmp .ne 5, 3) := by decide +kernel
theorem dH_refersTo_51 : decode cH_refersTo 51 = .ok (.iconst 1, 1) := by decide +kernel
theorem dH_refersTo_52 : decode cH_refersTo 52 = .ok (.ireturn, 1) := by decide +kernel
theorem dH_refersTo_53 : decode cH_refersTo 53 = .ok (.iinc 4 1, 3) := by decide +kernel
theorem dH_refersTo_56 : decode cH_refersTo 56 = .ok (.goto (-39), 3) := by decide +kernel
theorem dH_refersTo_59 : decode cH_refersTo 59 = .ok (.iconst 0, 1) := by decide +kernel
theorem dH_refersTo_60 : decode cH_refersTo 60 = .ok (.ireturn, 1) := by decide +kernel
theorem dH_touch_0 : decode cH_touch 0 = .ok (.aload_n 0, 1) := by decide +kernel
theorem dH_touch_1 : decode cH_touch 1 = .ok (.getfield 26, 3) := by decide +kernel
theorem dH_touch_4 : decode cH_touch 4 = .ok (.iload_n 1, 1) := by decide +kernel
theorem dH_touch_5 : decode cH_touch 5 = .ok (.iaload, 1) := by decide +kernel
theorem dH_touch_6 : decode cH_touch 6 = .ok (.iconst 2, 1) := by decide +kernel
theorem dH_touch_7 : decode cH_touch 7 = .ok (.if_icmp .ne 22, 3) := by decide +kernel
theorem dH_touch_10 : decode cH_touch 10 = .ok (.aload_n 0, 1) := by decide +kernel
theorem dH_touch_11 : decode cH_touch 11 = .ok (.dup, 1) := by decide +kernel
theorem dH_touch_12 : decode cH_touch 12 = .ok (.getfield 86, 3) := by decide +kernel
theorem dH_touch_15 : decode cH_touch 15 = .ok (.iconst 1, 1) := by decide +kernel
theorem dH_touch_16 : decode cH_touch 16 = .ok (.iadd, 1) := by decide +kernel
theorem dH_touch_17 : decode cH_touch 17 = .ok (.putfield 86, 3) := by decide +kernel
theorem dH_touch_20 : decode cH_touch 20 = .ok (.aload_n 0, 1) := by decide +kernel
theorem dH_touch_21 : decode cH_touch 21 = .ok (.invokevirtual 119, 3) := by decide +kernel
theorem dH_touch_24 : decode cH_touch 24 = .ok (.aload_n 0, 1) := by decide +kernel
theorem dH_touch_25 : decode cH_touch 25 = .ok (.iload_n 1, 1) := by decide +kernel
theorem dH_touch_26 : decode cH_touch 26 = .ok (.invokevirtual 122, 3) := by decide +kernel
theorem dH_touch_29 : decode cH_touch 29 = .ok (.aload_n 0, 1) := by decide +kernel
theorem dH_touch_30 : decode cH_touch 30 = .ok (.getfield 29, 3) := by decide +kernel
theorem dH_touch_33 : decode cH_touch 33 = .ok (.iload_n 1, 1) := by decide +kernel
theorem dH_touch_34 : decode cH_touch 34 = .ok (.iconst 1, 1) := by decide +kernel
theorem dH_touch_35 : decode cH_touch 35 = .ok (.bastore, 1) := by decide +kernel
theorem dH_touch_36 : decode cH_touch 36 = .ok (.return_, 1) := by decide +kernel
theorem dH_makeRoomForPage_0 : decode cH_makeRoomForPage 0 = .ok (.aload_n 0, 1) := by decide +kernel
theorem dH_makeRoomForPage_1 : decode cH_makeRoomForPage 1 = .ok (.invokevirtual 125, 3) := by decide +kernel
theorem dH_makeRoomForPage_4 : decode cH_makeRoomForPage 4 = .ok (.aload_n 0, 1) := by decide +kernel
theorem dH_makeRoomForPage_5 : decode cH_makeRoomForPage 5 = .ok (.getfield 47, 3) := by decide +kernel
theorem dH_makeRoomForPage_8 : decode cH_makeRoomForPage 8 = .ok (.if_icmp .lt 12, 3) := by decide +kernel
theorem dH_makeRoomForPage_11 : decode cH_makeRoomForPage 11 = .ok (.aload_n 0, 1) := by decide +kernel
theorem dH_makeRoomForPage_12 : decode cH_makeRoomForPage 12 = .ok (.aload_n 0, 1) := by decide +kernel
theorem dH_makeRoomForPage_13 : decode cH_makeRoomForPage 13 = .ok (.iconst (-1), 1) := by decide +kernel
theorem dH_makeRoomForPage_14 : decode cH_makeRoomForPage 14 = .ok (.invokevirtual 128, 3) := by decide +kernel
theorem dH_makeRoomForPage_17 : decode cH_makeRoomForPage 17 = .ok (.invokevirtual 131, 3) := by decide +kernel
theorem dH_makeRoomForPage_20 : decode cH_makeRoomForPage 20 = .ok (.return_, 1) := by decide +kernel
theorem dH_putOut_0 : decode cH_putOut 0 = .ok (.aload_n 0, 1) := by decide +kernel
theorem dH_putOut_1 : decode cH_putOut 1 = .ok (.iload_n 1, 1) := by decide +kernel
theorem dH_putOut_2 : decode cH_putOut 2 = .ok (.invokevirtual 134, 3) := by decide +kernel
theorem dH_putOut_5 : decode cH_putOut 5 = .ok (.iconst 0, 1) := by decide +kernel
theorem dH_putOut_6 : decode cH_putOut 6 = .ok (.istore_n 2, 1) := by decide +kernel
theorem dH_putOut_7 : decode cH_putOut 7 = .ok (.iload_n 2, 1) := by decide +kernel
theorem dH_putOut_8 : decode cH_putOut 8 = .ok (.bipush 8, 2) := by decide +kernel
theorem dH_putOut_10 : decode cH_putOut 10 = .ok (.if_icmp .ge 28, 3) := by decide +kernel
theorem dH_putOut_13 : decode cH_putOut 13 = .ok (.aload_n 0, 1) := by decide +kernel
theorem dH_putOut_14 : decode cH_putOut 14 = .ok (.iload_n 1, 1) := by decide +kernel
theorem dH_putOut_15 : decode cH_putOut 15 = .ok (.iload_n 2, 1) := by decide +kernel
theorem dH_putOut_16 : decode cH_putOut 16 = .ok (.invokevirtual 137, 3) := by decide +kernel
theorem dH_putOut_19 : decode cH_putOut 19 = .ok (.ifCond .eq 13, 3) := by decide +kernel
theorem dH_putOut_22 : decode cH_putOut 22 = .ok (.aload_n 0, 1) := by decide +kernel
theorem dH_putOut_23 : decode cH_putOut 23 = .ok (.getfield 32, 3) := by decide +kernel
theorem dH_putOut_26 : decode cH_putOut 26 = .ok (.iload_n 2, 1) := by decide +kernel
theorem dH_putOut_27 : decode cH_putOut 27 = .ok (.dup2, 1) := by decide +kernel
theorem dH_putOut_28 : decode cH_putOut 28 = .ok (.iaload, 1) := by decide +kernel
theorem dH_putOut_29 : decode cH_putOut 29 = .ok (.iconst 1, 1) := by decide +kernel
theorem dH_putOut_30 : decode cH_putOut 30 = .ok (.iadd, 1) := by decide +kernel
theorem dH_putOut_31 : decode cH_putOut 31 = .ok (.iastore, 1) := by decide +kernel
theorem dH_putOut_32 : decode cH_putOut 32 = .ok (.iinc 2 1, 3) := by decide +kernel
theorem dH_putOut_35 : decode cH_putOut 35 = .ok (.goto (-28), 3) := by decide +kernel
theorem dH_putOut_38 : decode cH_putOut 38 = .ok (.aload_n 0, 1) := by decide +kernel
theorem dH_putOut_39 : decode cH_putOut 39 = .ok (.getfield 26, 3) := by decide +kernel
theorem dH_putOut_42 : decode cH_putOut 42 = .ok (.iload_n 1, 1) := by decide +kernel
theorem dH_putOut_43 : decode cH_putOut 43 = .ok (.iconst 2, 1) := by decide +kernel
theorem dH_putOut_44 : decode cH_putOut 44 = .ok (.iastore, 1) := by decide +kernel
theorem dH_putOut_45 : decode cH_putOut 45 = .ok (.aload_n 0, 1) := by decide +kernel
theorem dH_putOut_46 : decode cH_putOut 46 = .ok (.getfield 29, 3) := by decide +kernel
theorem dH_putOut_49 : decode cH_putOut 49 = .ok (.iload_n 1, 1) := by decide +kernel
theorem dH_putOut_50 : decode cH_putOut 50 = .ok (.iconst 0, 1) := by decide +kernel
theorem dH_putOut_51 : decode cH_putOut 51 = .ok (.bastore, 1) := by decide +kernel
theorem dH_putOut_52 : decode cH_putOut 52 = .ok (.return_, 1) := by decide +kernel
theorem dH_bookmarkAllOf_0 : decode cH_bookmarkAllOf 0 = .ok (.iload_n 1, 1) := by decide +kernel
theorem dH_bookmarkAllOf_1 : decode cH_bookmarkAllOf 1 = .ok (.invokestatic 116, 3) := by decide +kernel
theorem dH_bookmarkAllOf_4 : decode cH_bookmarkAllOf 4 = .ok (.istore_n 2, 1) := by decide +kernel
theorem dH_bookmarkAllOf_5 : decode cH_bookmarkAllOf 5 = .ok (.iload_n 2, 1) := by decide +kernel
theorem dH_bookmarkAllOf_6 : decode cH_bookmarkAllOf 6 = .ok (.istore_n 3, 1) := by decide +kernel
theorem dH_bookmarkAllOf_7 : decode cH_bookmarkAllOf 7 = .ok (.iload_n 3, 1) := by decide +kernel
theorem dH_bookmarkAllOf_8 : decode cH_bookmarkAllOf 8 = .ok (.iload_n 2, 1) := by decide +kernel
theorem dH_bookmarkAllOf_9 : decode cH_bookmarkAllOf 9 = .ok (.iconst 4, 1) := by decide +kernel
theorem dH_bookmarkAllOf_10 : decode cH_bookmarkAllOf 10 = .ok (.iadd, 1) := by decide +kernel
theorem dH_bookmarkAllOf_11 : decode cH_bookmarkAllOf 11 = .ok (.if_icmp .ge 25, 3) := by decide +kernel
theorem dH_bookmarkAllOf_14 : decode cH_bookmarkAllOf 14 = .ok (.aload_n 0, 1) := by decide +kernel
theorem dH_bookmarkAllOf_15 : decode cH_bookmarkAllOf 15 = .ok (.getfield 9, 3) := by decide +kernel
theorem dH_bookmarkAllOf_18 : decode cH_bookmarkAllOf 18 = .ok (.iload_n 3, 1) := by decide +kernel
theorem dH_bookmarkAllOf_19 : decode cH_bookmarkAllOf 19 = .ok (.baload, 1) := by decide +kernel
theorem dH_bookmarkAllOf_20 : decode cH_bookmarkAllOf 20 = .ok (.ifCond .eq 10, 3) := by decide +kernel
theorem dH_bookmarkAllOf_23 : decode cH_bookmarkAllOf 23 = .ok (.aload_n 0, 1) := by decide +kernel
theorem dH_bookmarkAllOf_24 : decode cH_bookmarkAllOf 24 = .ok (.getfield 13, 3) := by decide +kernel
theorem dH_bookmarkAllOf_27 : decode cH_bookmarkAllOf 27 = .ok (.iload_n 3, 1) := by decide +kernel
theorem dH_bookmarkAllOf_28 : decode cH_bookmarkAllOf 28 = .ok (.iconst 1, 1) := by decide +kernel
theorem dH_bookmarkAllOf_29 : decode cH_bookmarkAllOf 29 = .ok (.bastore, 1) := by decide +kernel
theorem dH_bookmarkAllOf_30 : decode cH_bookmarkAllOf 30 = .ok (.iinc 3 1, 3) := by decide +kernel
theorem dH_bookmarkAllOf_33 : decode cH_bookmarkAllOf 33 = .ok (.goto (-26), 3) := by decide +kernel
theorem dH_bookmarkAllOf_36 : decode cH_bookmarkAllOf 36 = .ok (.iconst 2, 1) := by decide +kernel
theorem dH_bookmarkAllOf_37 : decode cH_bookmarkAllOf 37 = .ok (.iload_n 2, 1) := by decide +kernel
theorem dH_bookmarkAllOf_38 : decode cH_bookmarkAllOf 38 = .ok (.imul, 1) := by decide +kernel
theorem dH_bookmarkAllOf_39 : decode cH_bookmarkAllOf 39 = .ok (.istore_n 3, 1) := by decide +kernel
theorem dH_bookmarkAllOf_40 : decode cH_bookmarkAllOf 40 = .ok (.iload_n 3, 1) := by decide +kernel
theorem dH_bookmarkAllOf_41 : decode cH_bookmarkAllOf 41 = .ok (.iconst 2, 1) := by decide +kernel
theorem dH_bookmarkAllOf_42 : decode cH_bookmarkAllOf 42 = .ok (.iload_n 2, 1) := by decide +kernel
theorem dH_bookmarkAllOf_43 : decode cH_bookmarkAllOf 43 = .ok (.iconst 4, 1) := by decide +kernel
theorem dH_bookmarkAllOf_44 : decode cH_bookmarkAllOf 44 = .ok (.iadd, 1) := by decide +kernel
theorem dH_bookmarkAllOf_45 : decode cH_bookmarkAllOf 45 = .ok (.imul, 1) := by decide +kernel
theorem dH_bookmarkAllOf_46 : decode cH_bookmarkAllOf 46 = .ok (.if_icmp .ge 31, 3) := by decide +kernel
theorem dH_bookmarkAllOf_49 : decode cH_bookmarkAllOf 49 = .ok (.aload_n 0, 1) := by decide +kernel
theorem dH_bookmarkAllOf_50 : decode cH_bookmarkAllOf 50 = .ok (.getfield 20, 3) := by decide +kernel
theorem dH_bookmarkAllOf_53 : decode cH_bookmarkAllOf 53 = .ok (.iload_n 3, 1) := by decide +kernel
theorem dH_bookmarkAllOf_54 : decode cH_bookmarkAllOf 54 = .ok (.iaload, 1) := by decide +kernel
theorem dH_bookmarkAllOf_55 : decode cH_bookmarkAllOf 55 = .ok (.iconst (-1), 1) := by decide +kernel
theorem dH_bookmarkAllOf_56 : decode cH_bookmarkAllOf 56 = .ok (.if_icmp .eq 15, 3) := by decide +kernel
theorem dH_bookmarkAllOf_59 : decode cH_bookmarkAllOf 59 = .ok (.aload_n 0, 1) := by decide +kernel
theorem dH_bookmarkAllOf_60 : decode cH_bookmarkAllOf 60 = .ok (.getfield 13, 3) := by decide +kernel
theorem dH_bookmarkAllOf_63 : decode cH_bookmarkAllOf 63 = .ok (.aload_n 0, 1) := by decide +kernel
theorem dH_bookmarkAllOf_64 : decode cH_bookmarkAllOf 64 = .ok (.getfield 20, 3) := by decide +kernel
theorem dH_bookmarkAllOf_67 : decode cH_bookmarkAllOf 67 = .ok (.iload_n 3, 1) := by decide +kernel
theorem dH_bookmarkAllOf_68 : decode cH_bookmarkAllOf 68 = .ok (.iaload, 1) := by decide +kernel
theorem dH_bookmarkAllOf_69 : decode cH_bookmarkAllOf 69 = .ok (.iconst 1, 1) := by decide +kernel
theorem dH_bookmarkAllOf_70 : decode cH_bookmarkAllOf 70 = .ok (.bastore, 1) := by decide +kernel
theorem dH_bookmarkAllOf_71 : decode cH_bookmarkAllOf 71 = .ok (.iinc 3 1, 3) := by decide +kernel
theorem dH_bookmarkAllOf_74 : decode cH_bookmarkAllOf 74 = .ok (.goto (-34), 3) := by decide +kernel
theorem dH_bookmarkAllOf_77 : decode cH_bookmarkAllOf 77 = .ok (.return_, 1) := by decide +kernel
theorem dH_bringIn_0 : decode cH_bringIn 0 = .ok (.aload_n 0, 1) := by decide +kernel
theorem dH_bringIn_1 : decode cH_bringIn 1 = .ok (.getfield 26, 3) := by decide +kernel
theorem dH_bringIn_4 : decode cH_bringIn 4 = .ok (.iload_n 1, 1) := by decide +kernel
theorem dH_bringIn_5 : decode cH_bringIn 5 = .ok (.iconst 1, 1) := by decide +kernel
theorem dH_bringIn_6 : decode cH_bringIn 6 = .ok (.iastore, 1) := by decide +kernel
theorem dH_bringIn_7 : decode cH_bringIn 7 = .ok (.aload_n 0, 1) := by decide +kernel
theorem dH_bringIn_8 : decode cH_bringIn 8 = .ok (.getfield 29, 3) := by decide +kernel
theorem dH_bringIn_11 : decode cH_bringIn 11 = .ok (.iload_n 1, 1) := by decide +kernel
theorem dH_bringIn_12 : decode cH_bringIn 12 = .ok (.iconst 0, 1) := by decide +kernel
theorem dH_bringIn_13 : decode cH_bringIn 13 = .ok (.bastore, 1) := by decide +kernel
theorem dH_bringIn_14 : decode cH_bringIn 14 = .ok (.iconst 0, 1) := by decide +kernel
theorem dH_bringIn_15 : decode cH_bringIn 15 = .ok (.istore_n 2, 1) := by decide +kernel
theorem dH_bringIn_16 : decode cH_bringIn 16 = .ok (.iload_n 2, 1) := by decide +kernel
theorem dH_bringIn_17 : decode cH_bringIn 17 = .ok (.bipush 8, 2) := by decide +kernel
theorem dH_bringIn_19 : decode cH_bringIn 19 = .ok (.if_icmp .ge 33, 3) := by decide +kernel
theorem dH_bringIn_22 : decode cH_bringIn 22 = .ok (.aload_n 0, 1) := by decide +kernel
theorem dH_bringIn_23 : decode cH_bringIn 23 = .ok (.iload_n 1, 1) := by decide +kernel
theorem dH_bringIn_24 : decode cH_bringIn 24 = .ok (.iload_n 2, 1) := by decide +kernel
theorem dH_bringIn_25 : decode cH_bringIn 25 = .ok (.invokevirtual 137, 3) := by decide +kernel
theorem dH_bringIn_28 : decode cH_bringIn 28 = .ok (.ifCond .eq 18, 3) := by decide +kernel
theorem dH_bringIn_31 : decode cH_bringIn 31 = .ok (.aload_n 0, 1) := by decide +kernel
theorem dH_bringIn_32 : decode cH_bringIn 32 = .ok (.getfield 32, 3) := by decide +kernel
theorem dH_bringIn_35 : decode cH_bringIn 35 = .ok (.iload_n 2, 1) := by decide +kernel
theorem dH_bringIn_36 : decode cH_bringIn 36 = .ok (.dup2, 1) := by decide +kernel
theorem dH_bringIn_37 : decode cH_bringIn 37 = .ok (.iaload, 1) := by decide +kernel
theorem dH_bringIn_38 : decode cH_bringIn 38 = .ok (.iconst 1, 1) := by decide +kernel
theorem dH_bringIn_39 : decode cH_bringIn 39 = .ok (.isub, 1) := by decide +kernel
theorem dH_bringIn_40 : decode cH_bringIn 40 = .ok (.iastore, 1) := by decide +kernel
theorem dH_bringIn_41 : decode cH_bringIn 41 = .ok (.aload_n 0, 1) := by decide +kernel
theorem dH_bringIn_42 : decode cH_bringIn 42 = .ok (.iload_n 2, 1) := by decide +kernel
theorem dH_bringIn_43 : decode cH_bringIn 43 = .ok (.invokevirtual 141, 3) := by decide +kernel
theorem dH_bringIn_46 : decode cH_bringIn 46 = .ok (.iinc 2 1, 3) := by decide +kernel
theorem dH_bringIn_49 : decode cH_bringIn 49 = .ok (.goto (-33), 3) := by decide +kernel
theorem dH_bringIn_52 : decode cH_bringIn 52 = .ok (.aload_n 0, 1) := by decide +kernel
theorem dH_bringIn_53 : decode cH_bringIn 53 = .ok (.iload_n 1, 1) := by decide +kernel
theorem dH_bringIn_54 : decode cH_bringIn 54 = .ok (.invokevirtual 141, 3) := by decide +kernel
theorem dH_bringIn_57 : decode cH_bringIn 57 = .ok (.return_, 1) := by decide +kernel
theorem dH_forgetBookmarksUnlessCounted_0 : decode cH_forgetBookmarksUnlessCounted 0 = .ok (.aload_n 0, 1) := by decide +kernel
theorem dH_forgetBookmarksUnlessCounted_1 : decode cH_forgetBookmarksUnlessCounted 1 = .ok (.getfield 26, 3) := by decide +kernel
theorem dH_forgetBookmarksUnlessCounted_4 : decode cH_forgetBookmarksUnlessCounted 4 = .ok (.iload_n 1, 1) := by decide +kernel
theorem dH_forgetBookmarksUnlessCounted_5 : decode cH_forgetBookmarksUnlessCounted 5 = .ok (.iaload, 1) := by decide +kernel
theorem dH_forgetBookmarksUnlessCounted_6 : decode cH_forgetBookmarksUnlessCounted 6 = .ok (.iconst 1, 1) := by decide +kernel
theorem dH_forgetBookmarksUnlessCounted_7 : decode cH_forgetBookmarksUnlessCounted 7 = .ok (.if_icmp .ne 12, 3) := by decide +kernel
theorem dH_forgetBookmarksUnlessCounted_10 : decode cH_forgetBookmarksUnlessCounted 10 = .ok (.aload_n 0, 1) := by decide +kernel
theorem dH_forgetBookmarksUnlessCounted_11 : decode cH_forgetBookmarksUnlessCounted 11 = .ok (.getfield 32, 3) := by decide +kernel
theorem dH_forgetBookmarksUnlessCounted_14 : decode cH_forgetBookmarksUnlessCounted 14 = .ok (.iload_n 1, 1) := by decide +kernel
theorem dH_forgetBookmarksUnlessCounted_15 : decode cH_forgetBookmarksUnlessCounted 15 = .ok (.iaload, 1) := by decide +kernel
theorem dH_forgetBookmarksUnlessCounted_16 : decode cH_forgetBookmarksUnlessCounted 16 = .ok (.ifCond .eq 4, 3) := by decide +kernel
theorem dH_forgetBookmarksUnlessCounted_19 : decode cH_forgetBookmarksUnlessCounted 19 = .ok (.return_, 1) := by decide +kernel
theorem dH_forgetBookmarksUnlessCounted_20 : decode cH_forgetBookmarksUnlessCounted 20 = .ok (.iload_n 1, 1) := by decide +kernel
theorem dH_forgetBookmarksUnlessCounted_21 : decode cH_forgetBookmarksUnlessCounted 21 = .ok (.invokestatic 116, 3) := by decide +kernel
theorem dH_forgetBookmarksUnlessCounted_24 : decode cH_forgetBookmarksUnlessCounted 24 = .ok (.istore_n 2, 1) := by decide +kernel
theorem dH_forgetBookmarksUnlessCounted_25 : decode cH_forgetBookmarksUnlessCounted 25 = .ok (.iload_n 2, 1) := by decide +kernel
theorem dH_forgetBookmarksUnlessCounted_26 : decode cH_forgetBookmarksUnlessCounted 26 = .ok (.istore_n 3, 1) := by decide +kernel
theorem dH_forgetBookmarksUnlessCounted_27 : decode cH_forgetBookmarksUnlessCounted 27 = .ok (.iload_n 3, 1) := by decide +kernel
theorem dH_forgetBookmarksUnlessCounted_28 : decode cH_forgetBookmarksUnlessCounted 28 = .ok (.iload_n 2, 1) := by decide +kernel
theorem dH_forgetBookmarksUnlessCounted_29 : decode cH_forgetBookmarksUnlessCounted 29 = .ok (.iconst 4, 1) := by decide +kernel
theorem dH_forgetBookmarksUnlessCounted_30 : decode cH_forgetBookmarksUnlessCounted 30 = .ok (.iadd, 1) := by decide +kernel
theorem dH_forgetBookmarksUnlessCounted_31 : decode cH_forgetBookmarksUnlessCounted 31 = .ok (.if_icmp .ge 16, 3) := by decide +kernel
theorem dH_forgetBookmarksUnlessCounted_34 : decode cH_forgetBookmarksUnlessCounted 34 = .ok (.aload_n 0, 1) := by decide +kernel
theorem dH_forgetBookmarksUnlessCounted_35 : decode cH_forgetBookmarksUnlessCounted 35 = .ok (.getfield 13, 3) := by decide +kernel
theorem dH_forgetBookmarksUnlessCounted_38 : decode cH_forgetBookmarksUnlessCounted 38 = .ok (.iload_n 3, 1) := by decide +kernel
theorem dH_forgetBookmarksUnlessCounted_39 : decode cH_forgetBookmarksUnlessCounted 39 = .ok (.iconst 0, 1) := by decide +kernel
theorem dH_forgetBookmarksUnlessCounted_40 : decode cH_forgetBookmarksUnlessCounted 40 = .ok (.bastore, 1) := by decide +kernel
theorem dH_forgetBookmarksUnlessCounted_41 : decode cH_forgetBookmarksUnlessCounted 41 = .ok (.iinc 3 1, 3) := by decide +kernel
theorem dH_forgetBookmarksUnlessCounted_44 : decode cH_forgetBookmarksUnlessCounted 44 = .ok (.goto (-17), 3) := by decide +kernel
theorem dH_forgetBookmarksUnlessCounted_47 : decode cH_forgetBookmarksUnlessCounted 47 = .ok (.return_, 1) := by decide +kernel
theorem dH_bringInAll_0 : decode cH_bringInAll 0 = .ok (.iconst 0, 1) := by decide +kernel
theorem dH_bringInAll_1 : decode cH_bringInAll 1 = .ok (.istore_n 1, 1) := by decide +kernel
theorem dH_bringInAll_2 : decode cH_bringInAll 2 = .ok (.iload_n 1, 1) := by decide +kernel
theorem dH_bringInAll_3 : decode cH_bringInAll 3 = .ok (.bipush 8, 2) := by decide +kernel
theorem dH_bringInAll_5 : decode cH_bringInAll 5 = .ok (.if_icmp .ge 34, 3) := by decide +kernel
theorem dH_bringInAll_8 : decode cH_bringInAll 8 = .ok (.aload_n 0, 1) := by decide +kernel
theorem dH_bringInAll_9 : decode cH_bringInAll 9 = .ok (.getfield 26, 3) := by decide +kernel
theorem dH_bringInAll_12 : decode cH_bringInAll 12 = .ok (.iload_n 1, 1) := by decide +kernel
theorem dH_bringInAll_13 : decode cH_bringInAll 13 = .ok (.iaload, 1) := by decide +kernel
theorem dH_bringInAll_14 : decode cH_bringInAll 14 = .ok (.iconst 2, 1) := by decide +kernel
theorem dH_bringInAll_15 : decode cH_bringInAll 15 = .ok (.if_icmp .ne 18, 3) := by decide +kernel
theorem dH_bringInAll_18 : decode cH_bringInAll 18 = .ok (.aload_n 0, 1) := by decide +kernel
theorem dH_bringInAll_19 : decode cH_bringInAll 19 = .ok (.dup, 1) := by decide +kernel
theorem dH_bringInAll_20 : decode cH_bringInAll 20 = .ok (.getfield 86, 3) := by decide +kernel
theorem dH_bringInAll_23 : decode cH_bringInAll 23 = .ok (.iconst 1, 1) := by decide +kernel
theorem dH_bringInAll_24 : decode cH_bringInAll 24 = .ok (.iadd, 1) := by decide +kernel
theorem dH_bringInAll_25 : decode cH_bringInAll 25 = .ok (.putfield 86, 3) := by decide +kernel
theorem dH_bringInAll_28 : decode cH_bringInAll 28 = .ok (.aload_n 0, 1) := by decide +kernel
theorem dH_bringInAll_29 : decode cH_bringInAll 29 = .ok (.iload_n 1, 1) := by decide +kernel
theorem dH_bringInAll_30 : decode cH_bringInAll 30 = .ok (.invokevirtual 122, 3) := by decide +kernel
theorem dH_bringInAll_33 : decode cH_bringInAll 33 = .ok (.iinc 1 1, 3) := by decide +kernel
theorem dH_bringInAll_36 : decode cH_bringInAll 36 = .ok (.goto (-34), 3) := by decide +kernel
theorem dH_bringInAll_39 : decode cH_bringInAll 39 = .ok (.return_, 1) := by decide +kernel
theorem dH_putOutBeyondBudget_0 : decode cH_putOutBeyondBudget 0 = .ok (.iconst 0, 1) := by decide +kernel
theorem dH_putOutBeyondBudget_1 : decode cH_putOutBeyondBudget 1 = .ok (.istore_n 2, 1) := by decide +kernel
theorem dH_putOutBeyondBudget_2 : decode cH_putOutBeyondBudget 2 = .ok (.aload_n 0, 1) := by decide +kernel
theorem dH_putOutBeyondBudget_3 : decode cH_putOutBeyondBudget 3 = .ok (.invokevirtual 125, 3) := by decide +kernel
theorem dH_putOutBeyondBudget_6 : decode cH_putOutBeyondBudget 6 = .ok (.istore_n 3, 1) := by decide +kernel
theorem dH_putOutBeyondBudget_7 : decode cH_putOutBeyondBudget 7 = .ok (.iload_n 3, 1) := by decide +kernel
theorem dH_putOutBeyondBudget_8 : decode cH_putOutBeyondBudget 8 = .ok (.aload_n 0, 1) := by decide +kernel
theorem dH_putOutBeyondBudget_9 : decode cH_putOutBeyondBudget 9 = .ok (.getfield 47, 3) := by decide +kernel
theorem dH_putOutBeyondBudget_12 : decode cH_putOutBeyondBudget 12 = .ok (.if_icmp .le 21, 3) := by decide +kernel
theorem dH_putOutBeyondBudget_15 : decode cH_putOutBeyondBudget 15 = .ok (.aload_n 0, 1) := by decide +kernel
theorem dH_putOutBeyondBudget_16 : decode cH_putOutBeyondBudget 16 = .ok (.aload_n 0, 1) := by decide +kernel
theorem dH_putOutBeyondBudget_17 : decode cH_putOutBeyondBudget 17 = .ok (.iload_n 1, 1) := by decide +kernel
theorem dH_putOutBeyondBudget_18 : decode cH_putOutBeyondBudget 18 = .ok (.invokevirtual 128, 3) := by decide +kernel
theorem dH_putOutBeyondBudget_21 : decode cH_putOutBeyondBudget 21 = .ok (.invokevirtual 131, 3) := by decide +kernel
theorem dH_putOutBeyondBudget_24 : decode cH_putOutBeyondBudget 24 = .ok (.iinc 2 1, 3) := by decide +kernel
theorem dH_putOutBeyondBudget_27 : decode cH_putOutBeyondBudget 27 = .ok (.iinc 3 (-1), 3) := by decide +kernel
theorem dH_putOutBeyondBudget_30 : decode cH_putOutBeyondBudget 30 = .ok (.goto (-23), 3) := by decide +kernel
theorem dH_putOutBeyondBudget_33 : decode cH_putOutBeyondBudget 33 = .ok (.iload_n 2, 1) := by decide +kernel
theorem dH_putOutBeyondBudget_34 : decode cH_putOutBeyondBudget 34 = .ok (.ireturn, 1) := by decide +kernel
theorem dH_choose_0 : decode cH_choose 0 = .ok (.iconst 0, 1) := by decide +kernel
theorem dH_choose_1 : decode cH_choose 1 = .ok (.istore_n 2, 1) := by decide +kernel
theorem dH_choose_2 : decode cH_choose 2 = .ok (.iload_n 2, 1) := by decide +kernel
theorem dH_choose_3 : decode cH_choose 3 = .ok (.bipush 16, 2) := by decide +kernel
theorem dH_choose_5 : decode cH_choose 5 = .ok (.if_icmp .ge 39, 3) := by decide +kernel
theorem dH_choose_8 : decode cH_choose 8 = .ok (.aload_n 0, 1) := by decide +kernel
theorem dH_choose_9 : decode cH_choose 9 = .ok (.iload_n 1, 1) := by decide +kernel
theorem dH_choose_10 : decode cH_choose 10 = .ok (.invokevirtual 144, 3) := by decide +kernel
theorem dH_choose_13 : decode cH_choose 13 = .ok (.ifCond .eq 31, 3) := by decide +kernel
theorem dH_choose_16 : decode cH_choose 16 = .ok (.aload_n 0, 1) := by decide +kernel
theorem dH_choose_17 : decode cH_choose 17 = .ok (.getfield 104, 3) := by decide +kernel
theorem dH_choose_20 : decode cH_choose 20 = .ok (.iload_n 1, 1) := by decide +kernel
theorem dH_choose_21 : decode cH_choose 21 = .ok (.if_icmp .eq 13, 3) := by decide +kernel
theorem dH_choose_24 : decode cH_choose 24 = .ok (.aload_n 0, 1) := by decide +kernel
theorem dH_choose_25 : decode cH_choose 25 = .ok (.getfield 29, 3) := by decide +kernel
theorem dH_choose_28 : decode cH_choose 28 = .ok (.aload_n 0, 1) := by decide +kernel
theorem dH_choose_29 : decode cH_choose 29 = .ok (.getfield 104, 3) := by decide +kernel
theorem dH_choose_32 : decode cH_choose 32 = .ok (.iconst 0, 1) := by decide +kernel
theorem dH_choose_33 : decode cH_choose 33 = .ok (.bastore, 1) := by decide +kernel
theorem dH_choose_34 : decode cH_choose 34 = .ok (.aload_n 0, 1) := by decide +kernel
theorem dH_choose_35 : decode cH_choose 35 = .ok (.invokevirtual 147, 3) := by decide +kernel
theorem dH_choose_38 : decode cH_choose 38 = .ok (.iinc 2 1, 3) := by decide +kernel
theorem dH_choose_41 : decode cH_choose 41 = .ok (.goto (-39), 3) := by decide +kernel
theorem dH_choose_44 : decode cH_choose 44 = .ok (.aload_n 0, 1) := by decide +kernel
theorem dH_choose_45 : decode cH_choose 45 = .ok (.getfield 104, 3) := by decide +kernel
theorem dH_choose_48 : decode cH_choose 48 = .ok (.istore_n 2, 1) := by decide +kernel
theorem dH_choose_49 : decode cH_choose 49 = .ok (.aload_n 0, 1) := by decide +kernel
theorem dH_choose_50 : decode cH_choose 50 = .ok (.invokevirtual 147, 3) := by decide +kernel
theorem dH_choose_53 : decode cH_choose 53 = .ok (.iload_n 2, 1) := by decide +kernel
theorem dH_choose_54 : decode cH_choose 54 = .ok (.ireturn, 1) := by decide +kernel
theorem dH_passes_0 : decode cH_passes 0 = .ok (.aload_n 0, 1) := by decide +kernel
theorem dH_passes_1 : decode cH_passes 1 = .ok (.getfield 26, 3) := by decide +kernel
theorem dH_passes_4 : decode cH_passes 4 = .ok (.aload_n 0, 1) := by decide +kernel
theorem dH_passes_5 : decode cH_passes 5 = .ok (.getfield 104, 3) := by decide +kernel
theorem dH_passes_8 : decode cH_passes 8 = .ok (.iaload, 1) := by decide +kernel
theorem dH_passes_9 : decode cH_passes 9 = .ok (.iconst 1, 1) := by decide +kernel
theorem dH_passes_10 : decode cH_passes 10 = .ok (.if_icmp .ne 23, 3) := by decide +kernel
theorem dH_passes_13 : decode cH_passes 13 = .ok (.aload_n 0, 1) := by decide +kernel
theorem dH_passes_14 : decode cH_passes 14 = .ok (.getfield 104, 3) := by decide +kernel
theorem dH_passes_17 : decode cH_passes 17 = .ok (.iload_n 1, 1) := by decide +kernel
theorem dH_passes_18 : decode cH_passes 18 = .ok (.if_icmp .eq 15, 3) := by decide +kernel
theorem dH_passes_21 : decode cH_passes 21 = .ok (.aload_n 0, 1) := by decide +kernel
theorem dH_passes_22 : decode cH_passes 22 = .ok (.getfield 29, 3) := by decide +kernel
theorem dH_passes_25 : decode cH_passes 25 = .ok (.aload_n 0, 1) := by decide +kernel
theorem dH_passes_26 : decode cH_passes 26 = .ok (.getfield 104, 3) := by decide +kernel
theorem dH_passes_29 : decode cH_passes 29 = .ok (.baload, 1) := by decide +kernel
theorem dH_passes_30 : decode cH_passes 30 = .ok (.ifCond .eq 7, 3) := by decide +kernel
theorem dH_passes_33 : decode cH_passes 33 = .ok (.iconst 1, 1) := by decide +kernel
theorem dH_passes_34 : decode cH_passes 34 = .ok (.goto 4, 3) := by decide +kernel
theorem dH_passes_37 : decode cH_passes 37 = .ok (.iconst 0, 1) := by decide +kernel
theorem dH_passes_38 : decode cH_passes 38 = .ok (.ireturn, 1) := by decide +kernel
theorem dH_moveHand_0 : decode cH_moveHand 0 = .ok (.aload_n 0, 1) := by decide +kernel
theorem dH_moveHand_1 : decode cH_moveHand 1 = .ok (.aload_n 0, 1) := by decide +kernel
theorem dH_moveHand_2 : decode cH_moveHand 2 = .ok (.getfield 104, 3) := by decide +kernel
theorem dH_moveHand_5 : decode cH_moveHand 5 = .ok (.iconst 1, 1) := by decide +kernel
theorem dH_moveHand_6 : decode cH_moveHand 6 = .ok (.iadd, 1) := by decide +kernel
theorem dH_moveHand_7 : decode cH_moveHand 7 = .ok (.bipush 8, 2) := by decide +kernel
theorem dH_moveHand_9 : decode cH_moveHand 9 = .ok (.irem, 1) := by decide +kernel
theorem dH_moveHand_10 : decode cH_moveHand 10 = .ok (.putfield 104, 3) := by decide +kernel
theorem dH_moveHand_13 : decode cH_moveHand 13 = .ok (.return_, 1) := by decide +kernel
theorem dH_collectWithin_0 : decode cH_collectWithin 0 = .ok (.aload_n 0, 1) := by decide +kernel
theorem dH_collectWithin_1 : decode cH_collectWithin 1 = .ok (.invokevirtual 150, 3) := by decide +kernel
theorem dH_collectWithin_4 : decode cH_collectWithin 4 = .ok (.iconst 0, 1) := by decide +kernel
theorem dH_collectWithin_5 : decode cH_collectWithin 5 = .ok (.istore_n 1, 1) := by decide +kernel
theorem dH_collectWithin_6 : decode cH_collectWithin 6 = .ok (.iconst 0, 1) := by decide +kernel
theorem dH_collectWithin_7 : decode cH_collectWithin 7 = .ok (.istore_n 2, 1) := by decide +kernel
theorem dH_collectWithin_8 : decode cH_collectWithin 8 = .ok (.iload_n 2, 1) := by decide +kernel
theorem dH_collectWithin_9 : decode cH_collectWithin 9 = .ok (.bipush 32, 2) := by decide +kernel
theorem dH_collectWithin_11 : decode cH_collectWithin 11 = .ok (.if_icmp .ge 48, 3) := by decide +kernel
theorem dH_collectWithin_14 : decode cH_collectWithin 14 = .ok (.aload_n 0, 1) := by decide +kernel
theorem dH_collectWithin_15 : decode cH_collectWithin 15 = .ok (.getfield 9, 3) := by decide +kernel
theorem dH_collectWithin_18 : decode cH_collectWithin 18 = .ok (.iload_n 2, 1) := by decide +kernel
theorem dH_collectWithin_19 : decode cH_collectWithin 19 = .ok (.baload, 1) := by decide +kernel
theorem dH_collectWithin_20 : decode cH_collectWithin 20 = .ok (.ifCond .eq 33, 3) := by decide +kernel
theorem dH_collectWithin_23 : decode cH_collectWithin 23 = .ok (.aload_n 0, 1) := by decide +kernel
theorem dH_collectWithin_24 : decode cH_collectWithin 24 = .ok (.getfield 26, 3) := by decide +kernel
theorem dH_collectWithin_27 : decode cH_collectWithin 27 = .ok (.iload_n 2, 1) := by decide +kernel
theorem dH_collectWithin_28 : decode cH_collectWithin 28 = .ok (.invokestatic 79, 3) := by decide +kernel
theorem dH_collectWithin_31 : decode cH_collectWithin 31 = .ok (.iaload, 1) := by decide +kernel
theorem dH_collectWithin_32 : decode cH_collectWithin 32 = .ok (.iconst 1, 1) := by decide +kernel
theorem dH_collectWithin_33 : decode cH_collectWithin 33 = .ok (.if_icmp .ne 20, 3) := by decide +kernel
theorem dH_collectWithin_36 : decode cH_collectWithin 36 = .ok (.aload_n 0, 1) := by decide +kernel
theorem dH_collectWithin_37 : decode cH_collectWithin 37 = .ok (.getfield 35, 3) := by decide +kernel
theorem dH_collectWithin_40 : decode cH_collectWithin 40 = .ok (.iload_n 2, 1) := by decide +kernel
theorem dH_collectWithin_41 : decode cH_collectWithin 41 = .ok (.baload, 1) := by decide +kernel
theorem dH_collectWithin_42 : decode cH_collectWithin 42 = .ok (.ifCond .ne 11, 3) := by decide +kernel
theorem dH_collectWithin_45 : decode cH_collectWithin 45 = .ok (.aload_n 0, 1) := by decide +kernel
theorem dH_collectWithin_46 : decode cH_collectWithin 46 = .ok (.iload_n 2, 1) := by decide +kernel
theorem dH_collectWithin_47 : decode cH_collectWithin 47 = .ok (.invokevirtual 153, 3) := by decide +kernel
theorem dH_collectWithin_50 : decode cH_collectWithin 50 = .ok (.iinc 1 1, 3) := by decide +kernel
theorem dH_collectWithin_53 : decode cH_collectWithin 53 = .ok (.iinc 2 1, 3) := by decide +kernel
theorem dH_collectWithin_56 : decode cH_collectWithin 56 = .ok (.goto (-48), 3) := by decide +kernel
theorem dH_collectWithin_59 : decode cH_collectWithin 59 = .ok (.iconst 0, 1) := by decide +kernel
theorem dH_collectWithin_60 : decode cH_collectWithin 60 = .ok (.istore_n 2, 1) := by decide +kernel
theorem dH_collectWithin_61 : decode cH_collectWithin 61 = .ok (.iload_n 2, 1) := by decide +kernel
theorem dH_collectWithin_62 : decode cH_collectWithin 62 = .ok (.bipush 8, 2) := by decide +kernel
theorem dH_collectWithin_64 : decode cH_collectWithin 64 = .ok (.if_icmp .ge 41, 3) := by decide +kernel
theorem dH_collectWithin_67 : decode cH_collectWithin 67 = .ok (.aload_n 0, 1) := by decide +kernel
theorem dH_collectWithin_68 : decode cH_collectWithin 68 = .ok (.getfield 26, 3) := by decide +kernel
theorem dH_collectWithin_71 : decode cH_collectWithin 71 = .ok (.iload_n 2, 1) := by decide +kernel
theorem dH_collectWithin_72 : decode cH_collectWithin 72 = .ok (.iaload, 1) := by decide +kernel
theorem dH_collectWithin_73 : decode cH_collectWithin 73 = .ok (.iconst 1, 1) := by decide +kernel
theorem dH_collectWithin_74 : decode cH_collectWithin 74 = .ok (.if_icmp .ne 25, 3) := by decide +kernel
theorem dH_collectWithin_77 : decode cH_collectWithin 77 = .ok (.aload_n 0, 1) := by decide +kernel
theorem dH_collectWithin_78 : decode cH_collectWithin 78 = .ok (.iload_n 2, 1) := by decide +kernel
theorem dH_collectWithin_79 : decode cH_collectWithin 79 = .ok (.invokevirtual 156, 3) := by decide +kernel
theorem dH_collectWithin_82 : decode cH_collectWithin 82 = .ok (.ifCond .eq 17, 3) := by decide +kernel
theorem dH_collectWithin_85 : decode cH_collectWithin 85 = .ok (.aload_n 0, 1) := by decide +kernel
theorem dH_collectWithin_86 : decode cH_collectWithin 86 = .ok (.getfield 26, 3) := by decide +kernel
theorem dH_collectWithin_89 : decode cH_collectWithin 89 = .ok (.iload_n 2, 1) := by decide +kernel
theorem dH_collectWithin_90 : decode cH_collectWithin 90 = .ok (.iconst 0, 1) := by decide +kernel
theorem dH_collectWithin_91 : decode cH_collectWithin 91 = .ok (.iastore, 1) := by decide +kernel
theorem dH_collectWithin_92 : decode cH_collectWithin 92 = .ok (.aload_n 0, 1) := by decide +kernel
theorem dH_collectWithin_93 : decode cH_collectWithin 93 = .ok (.getfield 29, 3) := by decide +kernel
theorem dH_collectWithin_96 : decode cH_collectWithin 96 = .ok (.iload_n 2, 1) := by decide +kernel
theorem dH_collectWithin_97 : decode cH_collectWithin 97 = .ok (.iconst 0, 1) := by decide +kernel
theorem dH_collectWithin_98 : decode cH_collectWithin 98 = .ok (.bastore, 1) := by decide +kernel
theorem dH_collectWithin_99 : decode cH_collectWithin 99 = .ok (.iinc 2 1, 3) := by decide +kernel
theorem dH_collectWithin_102 : decode cH_collectWithin 102 = .ok (.goto (-41), 3) := by decide +kernel
theorem dH_collectWithin_105 : decode cH_collectWithin 105 = .ok (.iload_n 1, 1) := by decide +kernel
theorem dH_collectWithin_106 : decode cH_collectWithin 106 = .ok (.ireturn, 1) := by decide +kernel
theorem dH_markKept_0 : decode cH_markKept 0 = .ok (.iconst 0, 1) := by decide +kernel
theorem dH_markKept_1 : decode cH_markKept 1 = .ok (.istore_n 1, 1) := by decide +kernel
theorem dH_markKept_2 : decode cH_markKept 2 = .ok (.iload_n 1, 1) := by decide +kernel
theorem dH_markKept_3 : decode cH_markKept 3 = .ok (.bipush 32, 2) := by decide +kernel
theorem dH_markKept_5 : decode cH_markKept 5 = .ok (.if_icmp .ge 16, 3) := by decide +kernel
theorem dH_markKept_8 : decode cH_markKept 8 = .ok (.aload_n 0, 1) := by decide +kernel
theorem dH_markKept_9 : decode cH_markKept 9 = .ok (.getfield 35, 3) := by decide +kernel
theorem dH_markKept_12 : decode cH_markKept 12 = .ok (.iload_n 1, 1) := by decide +kernel
theorem dH_markKept_13 : decode cH_markKept 13 = .ok (.iconst 0, 1) := by decide +kernel
theorem dH_markKept_14 : decode cH_markKept 14 = .ok (.bastore, 1) := by decide +kernel
theorem dH_markKept_15 : decode cH_markKept 15 = .ok (.iinc 1 1, 3) := by decide +kernel
theorem dH_markKept_18 : decode cH_markKept 18 = .ok (.goto (-16), 3) := by decide +kernel
theorem dH_markKept_21 : decode cH_markKept 21 = .ok (.aload_n 0, 1) := by decide +kernel
theorem dH_markKept_22 : decode cH_markKept 22 = .ok (.iconst 0, 1) := by decide +kernel
theorem dH_markKept_23 : decode cH_markKept 23 = .ok (.putfield 159, 3) := by decide +kernel
theorem dH_markKept_26 : decode cH_markKept 26 = .ok (.iconst 0, 1) := by decide +kernel
theorem dH_markKept_27 : decode cH_markKept 27 = .ok (.istore_n 1, 1) := by decide +kernel
theorem dH_markKept_28 : decode cH_markKept 28 = .ok (.iload_n 1, 1) := by decide +kernel
theorem dH_markKept_29 : decode cH_markKept 29 = .ok (.iconst 4, 1) := by decide +kernel
theorem dH_markKept_30 : decode cH_markKept 30 = .ok (.if_icmp .ge 19, 3) := by decide +kernel
theorem dH_markKept_33 : decode cH_markKept 33 = .ok (.aload_n 0, 1) := by decide +kernel
theorem dH_markKept_34 : decode cH_markKept 34 = .ok (.aload_n 0, 1) := by decide +kernel
theorem dH_markKept_35 : decode cH_markKept 35 = .ok (.getfield 23, 3) := by decide +kernel
theorem dH_markKept_38 : decode cH_markKept 38 = .ok (.iload_n 1, 1) := by decide +kernel
theorem dH_markKept_39 : decode cH_markKept 39 = .ok (.iaload, 1) := by decide +kernel
theorem dH_markKept_40 : decode cH_markKept 40 = .ok (.invokevirtual 162, 3) := by decide +kernel
theorem dH_markKept_43 : decode cH_markKept 43 = .ok (.iinc 1 1, 3) := by decide +kernel
theorem dH_markKept_46 : decode cH_markKept 46 = .ok (.goto (-18), 3) := by decide +kernel
theorem dH_markKept_49 : decode cH_markKept 49 = .ok (.iconst 0, 1) := by decide +kernel
theorem dH_markKept_50 : decode cH_markKept 50 = .ok (.istore_n 1, 1) := by decide +kernel
theorem dH_markKept_51 : decode cH_markKept 51 = .ok (.iload_n 1, 1) := by decide +kernel
theorem dH_markKept_52 : decode cH_markKept 52 = .ok (.bipush 32, 2) := by decide +kernel
theorem dH_markKept_54 : decode cH_markKept 54 = .ok (.if_icmp .ge 23, 3) := by decide +kernel
theorem dH_markKept_57 : decode cH_markKept 57 = .ok (.aload_n 0, 1) := by decide +kernel
theorem dH_markKept_58 : decode cH_markKept 58 = .ok (.getfield 13, 3) := by decide +kernel
theorem dH_markKept_61 : decode cH_markKept 61 = .ok (.iload_n 1, 1) := by decide +kernel
theorem dH_markKept_62 : decode cH_markKept 62 = .ok (.baload, 1) := by decide +kernel
theorem dH_markKept_63 : decode cH_markKept 63 = .ok (.ifCond .eq 8, 3) := by decide +kernel
theorem dH_markKept_66 : decode cH_markKept 66 = .ok (.aload_n 0, 1) := by decide +kernel
theorem dH_markKept_67 : decode cH_markKept 67 = .ok (.iload_n 1, 1) := by decide +kernel
theorem dH_markKept_68 : decode cH_markKept 68 = .ok (.invokevirtual 162, 3) := by decide +kernel
theorem dH_markKept_71 : decode cH_markKept 71 = .ok (.iinc 1 1, 3) := by decide +kernel
theorem dH_markKept_74 : decode cH_markKept 74 = .ok (.goto (-23), 3) := by decide +kernel
theorem dH_markKept_77 : decode cH_markKept 77 = .ok (.iconst 0, 1) := by decide +kernel
theorem dH_markKept_78 : decode cH_markKept 78 = .ok (.istore_n 1, 1) := by decide +kernel
theorem dH_markKept_79 : decode cH_markKept 79 = .ok (.iload_n 1, 1) := by decide +kernel
theorem dH_markKept_80 : decode cH_markKept 80 = .ok (.aload_n 0, 1) := by decide +kernel
theorem dH_markKept_81 : decode cH_markKept 81 = .ok (.getfield 159, 3) := by decide +kernel
theorem dH_markKept_84 : decode cH_markKept 84 = .ok (.if_icmp .ge 47, 3) := by decide +kernel
theorem dH_markKept_87 : decode cH_markKept 87 = .ok (.iload_n 1, 1) := by decide +kernel
theorem dH_markKept_88 : decode cH_markKept 88 = .ok (.bipush 32, 2) := by decide +kernel
theorem dH_markKept_90 : decode cH_markKept 90 = .ok (.if_icmp .ge 41, 3) := by decide +kernel
theorem dH_markKept_93 : decode cH_markKept 93 = .ok (.iconst 0, 1) := by decide +kernel
theorem dH_markKept_94 : decode cH_markKept 94 = .ok (.istore_n 2, 1) := by decide +kernel
theorem dH_markKept_95 : decode cH_markKept 95 = .ok (.iload_n 2, 1) := by decide +kernel
theorem dH_markKept_96 : decode cH_markKept 96 = .ok (.iconst 2, 1) := by decide +kernel
theorem dH_markKept_97 : decode cH_markKept 97 = .ok (.if_icmp .ge 28, 3) := by decide +kernel
theorem dH_markKept_100 : decode cH_markKept 100 = .ok (.aload_n 0, 1) := by decide +kernel
theorem dH_markKept_101 : decode cH_markKept 101 = .ok (.aload_n 0, 1) := by decide +kernel
theorem dH_markKept_102 : decode cH_markKept 102 = .ok (.getfield 20, 3) := by decide +kernel
theorem dH_markKept_105 : decode cH_markKept 105 = .ok (.iconst 2, 1) := by decide +kernel
theorem dH_markKept_106 : decode cH_markKept 106 = .ok (.aload_n 0, 1) := by decide +kernel
theorem dH_markKept_107 : decode cH_markKept 107 = .ok (.getfield 38, 3) := by decide +kernel
theorem dH_markKept_110 : decode cH_markKept 110 = .ok (.iload_n 1, 1) := by decide +kernel
theorem dH_markKept_111 : decode cH_markKept 111 = .ok (.iaload, 1) := by decide +kernel
theorem dH_markKept_112 : decode cH_markKept 112 = .ok (.imul, 1) := by decide +kernel
theorem dH_markKept_113 : decode cH_markKept 113 = .ok (.iload_n 2, 1) := by decide +kernel
theorem dH_markKept_114 : decode cH_markKept 114 = .ok (.iadd, 1) := by decide +kernel
theorem dH_markKept_115 : decode cH_markKept 115 = .ok (.iaload, 1) := by decide +kernel
theorem dH_markKept_116 : decode cH_markKept 116 = .ok (.invokevirtual 162, 3) := by decide +kernel
theorem dH_markKept_119 : decode cH_markKept 119 = .ok (.iinc 2 1, 3) := by decide +kernel
theorem dH_markKept_122 : decode cH_markKept 122 = .ok (.goto (-27), 3) := by decide +kernel
theorem dH_markKept_125 : decode cH_markKept 125 = .ok (.iinc 1 1, 3) := by decide +kernel
theorem dH_markKept_128 : decode cH_markKept 128 = .ok (.goto (-49), 3) := by decide +kernel
theorem dH_markKept_131 : decode cH_markKept 131 = .ok (.return_, 1) := by decide +kernel
theorem dH_keep_0 : decode cH_keep 0 = .ok (.iload_n 1, 1) := by decide +kernel
theorem dH_keep_1 : decode cH_keep 1 = .ok (.iconst (-1), 1) := by decide +kernel
theorem dH_keep_2 : decode cH_keep 2 = .ok (.if_icmp .eq 25, 3) := by decide +kernel
theorem dH_keep_5 : decode cH_keep 5 = .ok (.aload_n 0, 1) := by decide +kernel
theorem dH_keep_6 : decode cH_keep 6 = .ok (.getfield 35, 3) := by decide +kernel
theorem dH_keep_9 : decode cH_keep 9 = .ok (.iload_n 1, 1) := by decide +kernel
theorem dH_keep_10 : decode cH_keep 10 = .ok (.baload, 1) := by decide +kernel
theorem dH_keep_11 : decode cH_keep 11 = .ok (.ifCond .ne 16, 3) := by decide +kernel
theorem dH_keep_14 : decode cH_keep 14 = .ok (.aload_n 0, 1) := by decide +kernel
theorem dH_keep_15 : decode cH_keep 15 = .ok (.getfield 26, 3) := by decide +kernel
theorem dH_keep_18 : decode cH_keep 18 = .ok (.iload_n 1, 1) := by decide +kernel
theorem dH_keep_19 : decode cH_keep 19 = .ok (.invokestatic 79, 3) := by decide +kernel
theorem dH_keep_22 : decode cH_keep 22 = .ok (.iaload, 1) := by decide +kernel
theorem dH_keep_23 : decode cH_keep 23 = .ok (.iconst 1, 1) := by decide +kernel
theorem dH_keep_24 : decode cH_keep 24 = .ok (.if_icmp .eq 4, 3) := by decide +kernel
theorem dH_keep_27 : decode cH_keep 27 = .ok (.return_, 1) := by decide +kernel
theorem dH_keep_28 : decode cH_keep 28 = .ok (.aload_n 0, 1) := by decide +kernel
theorem dH_keep_29 : decode cH_keep 29 = .ok (.getfield 35, 3) := by decide +kernel
theorem dH_keep_32 : decode cH_keep 32 = .ok (.iload_n 1, 1) := by decide +kernel
theorem dH_keep_33 : decode cH_keep 33 = .ok (.iconst 1, 1) := by decide +kernel
theorem dH_keep_34 : decode cH_keep 34 = .ok (.bastore, 1) := by decide +kernel
theorem dH_keep_35 : decode cH_keep 35 = .ok (.aload_n 0, 1) := by decide +kernel
theorem dH_keep_36 : decode cH_keep 36 = .ok (.getfield 38, 3) := by decide +kernel
theorem dH_keep_39 : decode cH_keep 39 = .ok (.aload_n 0, 1) := by decide +kernel
theorem dH_keep_40 : decode cH_keep 40 = .ok (.getfield 159, 3) := by decide +kernel
theorem dH_keep_43 : decode cH_keep 43 = .ok (.iload_n 1, 1) := by decide +kernel
theorem dH_keep_44 : decode cH_keep 44 = .ok (.iastore, 1) := by decide +kernel
theorem dH_keep_45 : decode cH_keep 45 = .ok (.aload_n 0, 1) := by decide +kernel
theorem dH_keep_46 : decode cH_keep 46 = .ok (.dup, 1) := by decide +kernel
theorem dH_keep_47 : decode cH_keep 47 = .ok (.getfield 159, 3) := by decide +kernel
theorem dH_keep_50 : decode cH_keep 50 = .ok (.iconst 1, 1) := by decide +kernel
theorem dH_keep_51 : decode cH_keep 51 = .ok (.iadd, 1) := by decide +kernel
theorem dH_keep_52 : decode cH_keep 52 = .ok (.putfield 159, 3) := by decide +kernel
theorem dH_keep_55 : decode cH_keep 55 = .ok (.return_, 1) := by decide +kernel
theorem dH_remove_0 : decode cH_remove 0 = .ok (.aload_n 0, 1) := by decide +kernel
theorem dH_remove_1 : decode cH_remove 1 = .ok (.getfield 9, 3) := by decide +kernel
theorem dH_remove_4 : decode cH_remove 4 = .ok (.iload_n 1, 1) := by decide +kernel
theorem dH_remove_5 : decode cH_remove 5 = .ok (.iconst 0, 1) := by decide +kernel
theorem dH_remove_6 : decode cH_remove 6 = .ok (.bastore, 1) := by decide +kernel
theorem dH_remove_7 : decode cH_remove 7 = .ok (.iconst 0, 1) := by decide +kernel
theorem dH_remove_8 : decode cH_remove 8 = .ok (.istore_n 2, 1) := by decide +kernel
theorem dH_remove_9 : decode cH_remove 9 = .ok (.iload_n 2, 1) := by decide +kernel
theorem dH_remove_10 : decode cH_remove 10 = .ok (.iconst 2, 1) := by decide +kernel
theorem dH_remove_11 : decode cH_remove 11 = .ok (.if_icmp .ge 20, 3) := by decide +kernel
theorem dH_remove_14 : decode cH_remove 14 = .ok (.aload_n 0, 1) := by decide +kernel
theorem dH_remove_15 : decode cH_remove 15 = .ok (.getfield 20, 3) := by decide +kernel
theorem dH_remove_18 : decode cH_remove 18 = .ok (.iconst 2, 1) := by decide +kernel
theorem dH_remove_19 : decode cH_remove 19 = .ok (.iload_n 1, 1) := by decide +kernel
theorem dH_remove_20 : decode cH_remove 20 = .ok (.imul, 1) := by decide +kernel
theorem dH_remove_21 : decode cH_remove 21 = .ok (.iload_n 2, 1) := by decide +kernel
theorem dH_remove_22 : decode cH_remove 22 = .ok (.iadd, 1) := by decide +kernel
theorem dH_remove_23 : decode cH_remove 23 = .ok (.iconst (-1), 1) := by decide +kernel
theorem dH_remove_24 : decode cH_remove 24 = .ok (.iastore, 1) := by decide +kernel
theorem dH_remove_25 : decode cH_remove 25 = .ok (.iinc 2 1, 3) := by decide +kernel
theorem dH_remove_28 : decode cH_remove 28 = .ok (.goto (-19), 3) := by decide +kernel
theorem dH_remove_31 : decode cH_remove 31 = .ok (.return_, 1) := by decide +kernel
theorem dH_isBare_0 : decode cH_isBare 0 = .ok (.iload_n 1, 1) := by decide +kernel
theorem dH_isBare_1 : decode cH_isBare 1 = .ok (.invokestatic 116, 3) := by decide +kernel
theorem dH_isBare_4 : decode cH_isBare 4 = .ok (.istore_n 2, 1) := by decide +kernel
theorem dH_isBare_5 : decode cH_isBare 5 = .ok (.iload_n 2, 1) := by decide +kernel
theorem dH_isBare_6 : decode cH_isBare 6 = .ok (.istore_n 3, 1) := by decide +kernel
theorem dH_isBare_7 : decode cH_isBare 7 = .ok (.iload_n 3, 1) := by decide +kernel
theorem dH_isBare_8 : decode cH_isBare 8 = .ok (.iload_n 2, 1) := by decide +kernel
theorem dH_isBare_9 : decode cH_isBare 9 = .ok (.iconst 4, 1) := by decide +kernel
theorem dH_isBare_10 : decode cH_isBare 10 = .ok (.iadd, 1) := by decide +kernel
theorem dH_isBare_11 : decode cH_isBare 11 = .ok (.if_icmp .ge 20, 3) := by decide +kernel
theorem dH_isBare_14 : decode cH_isBare 14 = .ok (.aload_n 0, 1) := by decide +kernel
theorem dH_isBare_15 : decode cH_isBare 15 = .ok (.getfield 9, 3) := by decide +kernel
theorem dH_isBare_18 : decode cH_isBare 18 = .ok (.iload_n 3, 1) := by decide +kernel
theorem dH_isBare_19 : decode cH_isBare 19 = .ok (.baload, 1) := by decide +kernel
theorem dH_isBare_20 : decode cH_isBare 20 = .ok (.ifCond .eq 5, 3) := by decide +kernel
theorem dH_isBare_23 : decode cH_isBare 23 = .ok (.iconst 0, 1) := by decide +kernel
theorem dH_isBare_24 : decode cH_isBare 24 = .ok (.ireturn, 1) := by decide +kernel
theorem dH_isBare_25 : decode cH_isBare 25 = .ok (.iinc 3 1, 3) := by decide +kernel
theorem dH_isBare_28 : decode cH_isBare 28 = .ok (.goto (-21), 3) := by decide +kernel
theorem dH_isBare_31 : decode cH_isBare 31 = .ok (.iconst 1, 1) := by decide +kernel
theorem dH_isBare_32 : decode cH_isBare 32 = .ok (.ireturn, 1) := by decide +kernel
theorem dH_takePlace_0 : decode cH_takePlace 0 = .ok (.aload_n 0, 1) := by decide +kernel
theorem dH_takePlace_1 : decode cH_takePlace 1 = .ok (.invokevirtual 165, 3) := by decide +kernel
theorem dH_takePlace_4 : decode cH_takePlace 4 = .ok (.istore_n 2, 1) := by decide +kernel
theorem dH_takePlace_5 : decode cH_takePlace 5 = .ok (.iload_n 2, 1) := by decide +kernel
theorem dH_takePlace_6 : decode cH_takePlace 6 = .ok (.iconst (-1), 1) := by decide +kernel
theorem dH_takePlace_7 : decode cH_takePlace 7 = .ok (.if_icmp .ne 21, 3) := by decide +kernel
theorem dH_takePlace_10 : decode cH_takePlace 10 = .ok (.aload_n 0, 1) := by decide +kernel
theorem dH_takePlace_11 : decode cH_takePlace 11 = .ok (.invokevirtual 168, 3) := by decide +kernel
theorem dH_takePlace_14 : decode cH_takePlace 14 = .ok (.istore_n 2, 1) := by decide +kernel
theorem dH_takePlace_15 : decode cH_takePlace 15 = .ok (.iload_n 2, 1) := by decide +kernel
theorem dH_takePlace_16 : decode cH_takePlace 16 = .ok (.iconst (-1), 1) := by decide +kernel
theorem dH_takePlace_17 : decode cH_takePlace 17 = .ok (.if_icmp .eq 11, 3) := by decide +kernel
theorem dH_takePlace_20 : decode cH_takePlace 20 = .ok (.iload_n 1, 1) := by decide +kernel
theorem dH_takePlace_21 : decode cH_takePlace 21 = .ok (.ifCond .eq 7, 3) := by decide +kernel
theorem dH_takePlace_24 : decode cH_takePlace 24 = .ok (.aload_n 0, 1) := by decide +kernel
theorem dH_takePlace_25 : decode cH_takePlace 25 = .ok (.invokevirtual 119, 3) := by decide +kernel
theorem dH_takePlace_28 : decode cH_takePlace 28 = .ok (.iload_n 2, 1) := by decide +kernel
theorem dH_takePlace_29 : decode cH_takePlace 29 = .ok (.iconst (-1), 1) := by decide +kernel
theorem dH_takePlace_30 : decode cH_takePlace 30 = .ok (.if_icmp .eq 8, 3) := by decide +kernel
theorem dH_takePlace_33 : decode cH_takePlace 33 = .ok (.aload_n 0, 1) := by decide +kernel
theorem dH_takePlace_34 : decode cH_takePlace 34 = .ok (.iload_n 2, 1) := by decide +kernel
theorem dH_takePlace_35 : decode cH_takePlace 35 = .ok (.invokevirtual 171, 3) := by decide +kernel
theorem dH_takePlace_38 : decode cH_takePlace 38 = .ok (.iload_n 2, 1) := by decide +kernel
theorem dH_takePlace_39 : decode cH_takePlace 39 = .ok (.ireturn, 1) := by decide +kernel
theorem dH_takePlaceThoroughly_0 : decode cH_takePlaceThoroughly 0 = .ok (.aload_n 0, 1) := by decide +kernel
theorem dH_takePlaceThoroughly_1 : decode cH_takePlaceThoroughly 1 = .ok (.invokevirtual 97, 3) := by decide +kernel
theorem dH_takePlaceThoroughly_4 : decode cH_takePlaceThoroughly 4 = .ok (.aload_n 0, 1) := by decide +kernel
theorem dH_takePlaceThoroughly_5 : decode cH_takePlaceThoroughly 5 = .ok (.invokevirtual 59, 3) := by decide +kernel
theorem dH_takePlaceThoroughly_8 : decode cH_takePlaceThoroughly 8 = .ok (.pop, 1) := by decide +kernel
theorem dH_takePlaceThoroughly_9 : decode cH_takePlaceThoroughly 9 = .ok (.aload_n 0, 1) := by decide +kernel
theorem dH_takePlaceThoroughly_10 : decode cH_takePlaceThoroughly 10 = .ok (.iconst 0, 1) := by decide +kernel
theorem dH_takePlaceThoroughly_11 : decode cH_takePlaceThoroughly 11 = .ok (.invokevirtual 55, 3) := by decide +kernel
theorem dH_takePlaceThoroughly_14 : decode cH_takePlaceThoroughly 14 = .ok (.istore_n 1, 1) := by decide +kernel
theorem dH_takePlaceThoroughly_15 : decode cH_takePlaceThoroughly 15 = .ok (.aload_n 0, 1) := by decide +kernel
theorem dH_takePlaceThoroughly_16 : decode cH_takePlaceThoroughly 16 = .ok (.iload_n 1, 1) := by decide +kernel
theorem dH_takePlaceThoroughly_17 : decode cH_takePlaceThoroughly 17 = .ok (.iconst (-1), 1) := by decide +kernel
theorem dH_takePlaceThoroughly_18 : decode cH_takePlaceThoroughly 18 = .ok (.if_icmp .ne 7, 3) := by decide +kernel
theorem dH_takePlaceThoroughly_21 : decode cH_takePlaceThoroughly 21 = .ok (.iconst (-1), 1) := by decide +kernel
theorem dH_takePlaceThoroughly_22 : decode cH_takePlaceThoroughly 22 = .ok (.goto 7, 3) := by decide +kernel
theorem dH_takePlaceThoroughly_25 : decode cH_takePlaceThoroughly 25 = .ok (.iload_n 1, 1) := by decide +kernel
theorem dH_takePlaceThoroughly_26 : decode cH_takePlaceThoroughly 26 = .ok (.invokestatic 79, 3) := by decide +kernel
theorem dH_takePlaceThoroughly_29 : decode cH_takePlaceThoroughly 29 = .ok (.invokevirtual 94, 3) := by decide +kernel
theorem dH_takePlaceThoroughly_32 : decode cH_takePlaceThoroughly 32 = .ok (.pop, 1) := by decide +kernel
theorem dH_takePlaceThoroughly_33 : decode cH_takePlaceThoroughly 33 = .ok (.iload_n 1, 1) := by decide +kernel
theorem dH_takePlaceThoroughly_34 : decode cH_takePlaceThoroughly 34 = .ok (.ireturn, 1) := by decide +kernel
theorem dH_freePlaceOnPagesIn_0 : decode cH_freePlaceOnPagesIn 0 = .ok (.iconst 0, 1) := by decide +kernel
theorem dH_freePlaceOnPagesIn_1 : decode cH_freePlaceOnPagesIn 1 = .ok (.istore_n 1, 1) := by decide +kernel
theorem dH_freePlaceOnPagesIn_2 : decode cH_freePlaceOnPagesIn 2 = .ok (.iload_n 1, 1) := by decide +kernel
theorem dH_freePlaceOnPagesIn_3 : decode cH_freePlaceOnPagesIn 3 = .ok (.bipush 32, 2) := by decide +kernel
theorem dH_freePlaceOnPagesIn_5 : decode cH_freePlaceOnPagesIn 5 = .ok (.if_icmp .ge 33, 3) := by decide +kernel
theorem dH_freePlaceOnPagesIn_8 : decode cH_freePlaceOnPagesIn 8 = .ok (.aload_n 0, 1) := by decide +kernel
theorem dH_freePlaceOnPagesIn_9 : decode cH_freePlaceOnPagesIn 9 = .ok (.getfield 9, 3) := by decide +kernel
theorem dH_freePlaceOnPagesIn_12 : decode cH_freePlaceOnPagesIn 12 = .ok (.iload_n 1, 1) := by decide +kernel
theorem dH_freePlaceOnPagesIn_13 : decode cH_freePlaceOnPagesIn 13 = .ok (.baload, 1) := by decide +kernel
theorem dH_freePlaceOnPagesIn_14 : decode cH_freePlaceOnPagesIn 14 = .ok (.ifCond .ne 18, 3) := by decide +kernel
theorem dH_freePlaceOnPagesIn_17 : decode cH_freePlaceOnPagesIn 17 = .ok (.aload_n 0, 1) := by decide +kernel
theorem dH_freePlaceOnPagesIn_18 : decode cH_freePlaceOnPagesIn 18 = .ok (.getfield 26, 3) := by decide +kernel
theorem dH_freePlaceOnPagesIn_21 : decode cH_freePlaceOnPagesIn 21 = .ok (.iload_n 1, 1) := by decide +kernel
theorem dH_freePlaceOnPagesIn_22 : decode cH_freePlaceOnPagesIn 22 = .ok (.invokestatic 79, 3) := by decide +kernel
theorem dH_freePlaceOnPagesIn_25 : decode cH_freePlaceOnPagesIn 25 = .ok (.iaload, 1) := by decide +kernel
theorem dH_freePlaceOnPagesIn_26 : decode cH_freePlaceOnPagesIn 26 = .ok (.iconst 1, 1) := by decide +kernel
theorem dH_freePlaceOnPagesIn_27 : decode cH_freePlaceOnPagesIn 27 = .ok (.if_icmp .ne 5, 3) := by decide +kernel
theorem dH_freePlaceOnPagesIn_30 : decode cH_freePlaceOnPagesIn 30 = .ok (.iload_n 1, 1) := by decide +kernel
theorem dH_freePlaceOnPagesIn_31 : decode cH_freePlaceOnPagesIn 31 = .ok (.ireturn, 1) := by decide +kernel
theorem dH_freePlaceOnPagesIn_32 : decode cH_freePlaceOnPagesIn 32 = .ok (.iinc 1 1, 3) := by decide +kernel
theorem dH_freePlaceOnPagesIn_35 : decode cH_freePlaceOnPagesIn 35 = .ok (.goto (-33), 3) := by decide +kernel
theorem dH_freePlaceOnPagesIn_38 : decode cH_freePlaceOnPagesIn 38 = .ok (.iconst (-1), 1) := by decide +kernel
theorem dH_freePlaceOnPagesIn_39 : decode cH_freePlaceOnPagesIn 39 = .ok (.ireturn, 1) := by decide +kernel
theorem dH_placeOnEmptyPage_0 : decode cH_placeOnEmptyPage 0 = .ok (.iconst 0, 1) := by decide +kernel
theorem dH_placeOnEmptyPage_1 : decode cH_placeOnEmptyPage 1 = .ok (.istore_n 1, 1) := by decide +kernel
theorem dH_placeOnEmptyPage_2 : decode cH_placeOnEmptyPage 2 = .ok (.iload_n 1, 1) := by decide +kernel
theorem dH_placeOnEmptyPage_3 : decode cH_placeOnEmptyPage 3 = .ok (.bipush 8, 2) := by decide +kernel
theorem dH_placeOnEmptyPage_5 : decode cH_placeOnEmptyPage 5 = .ok (.if_icmp .ge 23, 3) := by decide +kernel
theorem dH_placeOnEmptyPage_8 : decode cH_placeOnEmptyPage 8 = .ok (.aload_n 0, 1) := by decide +kernel
theorem dH_placeOnEmptyPage_9 : decode cH_placeOnEmptyPage 9 = .ok (.getfield 26, 3) := by decide +kernel
theorem dH_placeOnEmptyPage_12 : decode cH_placeOnEmptyPage 12 = .ok (.iload_n 1, 1) := by decide +kernel
theorem dH_placeOnEmptyPage_13 : decode cH_placeOnEmptyPage 13 = .ok (.iaload, 1) := by decide +kernel
theorem dH_placeOnEmptyPage_14 : decode cH_placeOnEmptyPage 14 = .ok (.ifCond .ne 8, 3) := by decide +kernel
theorem dH_placeOnEmptyPage_17 : decode cH_placeOnEmptyPage 17 = .ok (.iload_n 1, 1) := by decide +kernel
theorem dH_placeOnEmptyPage_18 : decode cH_placeOnEmptyPage 18 = .ok (.invokestatic 116, 3) := by decide +kernel
theorem dH_placeOnEmptyPage_21 : decode cH_placeOnEmptyPage 21 = .ok (.ireturn, 1) := by decide +kernel
theorem dH_placeOnEmptyPage_22 : decode cH_placeOnEmptyPage 22 = .ok (.iinc 1 1, 3) := by decide +kernel
theorem dH_placeOnEmptyPage_25 : decode cH_placeOnEmptyPage 25 = .ok (.goto (-23), 3) := by decide +kernel
theorem dH_placeOnEmptyPage_28 : decode cH_placeOnEmptyPage 28 = .ok (.iconst (-1), 1) := by decide +kernel
theorem dH_placeOnEmptyPage_29 : decode cH_placeOnEmptyPage 29 = .ok (.ireturn, 1) := by decide +kernel
theorem dH_occupy_0 : decode cH_occupy 0 = .ok (.iload_n 1, 1) := by decide +kernel
theorem dH_occupy_1 : decode cH_occupy 1 = .ok (.invokestatic 79, 3) := by decide +kernel
theorem dH_occupy_4 : decode cH_occupy 4 = .ok (.istore_n 2, 1) := by decide +kernel
theorem dH_occupy_5 : decode cH_occupy 5 = .ok (.aload_n 0, 1) := by decide +kernel
theorem dH_occupy_6 : decode cH_occupy 6 = .ok (.getfield 26, 3) := by decide +kernel
theorem dH_occupy_9 : decode cH_occupy 9 = .ok (.iload_n 2, 1) := by decide +kernel
theorem dH_occupy_10 : decode cH_occupy 10 = .ok (.iaload, 1) := by decide +kernel
theorem dH_occupy_11 : decode cH_occupy 11 = .ok (.ifCond .ne 17, 3) := by decide +kernel
theorem dH_occupy_14 : decode cH_occupy 14 = .ok (.aload_n 0, 1) := by decide +kernel
theorem dH_occupy_15 : decode cH_occupy 15 = .ok (.getfield 26, 3) := by decide +kernel
theorem dH_occupy_18 : decode cH_occupy 18 = .ok (.iload_n 2, 1) := by decide +kernel
theorem dH_occupy_19 : decode cH_occupy 19 = .ok (.iconst 1, 1) := by decide +kernel
theorem dH_occupy_20 : decode cH_occupy 20 = .ok (.iastore, 1) := by decide +kernel
theorem dH_occupy_21 : decode cH_occupy 21 = .ok (.aload_n 0, 1) := by decide +kernel
theorem dH_occupy_22 : decode cH_occupy 22 = .ok (.getfield 32, 3) := by decide +kernel
theorem dH_occupy_25 : decode cH_occupy 25 = .ok (.iload_n 2, 1) := by decide +kernel
theorem dH_occupy_26 : decode cH_occupy 26 = .ok (.iconst 0, 1) := by decide +kernel
theorem dH_occupy_27 : decode cH_occupy 27 = .ok (.iastore, 1) := by decide +kernel
theorem dH_occupy_28 : decode cH_occupy 28 = .ok (.aload_n 0, 1) := by decide +kernel
theorem dH_occupy_29 : decode cH_occupy 29 = .ok (.getfield 29, 3) := by decide +kernel
theorem dH_occupy_32 : decode cH_occupy 32 = .ok (.iload_n 2, 1) := by decide +kernel
theorem dH_occupy_33 : decode cH_occupy 33 = .ok (.iconst 1, 1) := by decide +kernel
theorem dH_occupy_34 : decode cH_occupy 34 = .ok (.bastore, 1) := by decide +kernel
theorem dH_occupy_35 : decode cH_occupy 35 = .ok (.aload_n 0, 1) := by decide +kernel
theorem dH_occupy_36 : decode cH_occupy 36 = .ok (.getfield 9, 3) := by decide +kernel
theorem dH_occupy_39 : decode cH_occupy 39 = .ok (.iload_n 1, 1) := by decide +kernel
theorem dH_occupy_40 : decode cH_occupy 40 = .ok (.iconst 1, 1) := by decide +kernel
theorem dH_occupy_41 : decode cH_occupy 41 = .ok (.bastore, 1) := by decide +kernel
theorem dH_occupy_42 : decode cH_occupy 42 = .ok (.return_, 1) := by decide +kernel
end
section
-- decode rows: written by wip/whole/names.py
theorem dM_init_0 : decode cM_init 0 = .ok (.aload_n 0, 1) := by decide +kernel
theorem dM_init_1 : decode cM_init 1 = .ok (.invokespecial 1, 3) := by decide +kernel
theorem dM_init_4 : decode cM_init 4 = .ok (.aload_n 0, 1) := by decide +kernel
theorem dM_init_5 : decode cM_init 5 = .ok (.bipush 32, 2) := by decide +kernel
theorem dM_init_7 : decode cM_init 7 = .ok (.newarray .boolean, 2) := by decide +kernel
theorem dM_init_9 : decode cM_init 9 = .ok (.putfield 7, 3) := by decide +kernel
theorem dM_init_12 : decode cM_init 12 = .ok (.aload_n 0, 1) := by decide +kernel
theorem dM_init_13 : decode cM_init 13 = .ok (.bipush 32, 2) := by decide +kernel
theorem dM_init_15 : decode cM_init 15 = .ok (.newarray .int, 2) := by decide +kernel
theorem dM_init_17 : decode cM_init 17 = .ok (.putfield 13, 3) := by decide +kernel
theorem dM_init_20 : decode cM_init 20 = .ok (.aload_n 0, 1) := by decide +kernel
theorem dM_init_21 : decode cM_init 21 = .ok (.bipush 64, 2) := by decide +kernel
theorem dM_init_23 : decode cM_init 23 = .ok (.newarray .int, 2) := by decide +kernel
theorem dM_init_25 : decode cM_init 25 = .ok (.putfield 17, 3) := by decide +kernel
theorem dM_init_28 : decode cM_init 28 = .ok (.aload_n 0, 1) := by decide +kernel
theorem dM_init_29 : decode cM_init 29 = .ok (.bipush 32, 2) := by decide +kernel
theorem dM_init_31 : decode cM_init 31 = .ok (.newarray .boolean, 2) := by decide +kernel
theorem dM_init_33 : decode cM_init 33 = .ok (.putfield 20, 3) := by decide +kernel
theorem dM_init_36 : decode cM_init 36 = .ok (.aload_n 0, 1) := by decide +kernel
theorem dM_init_37 : decode cM_init 37 = .ok (.bipush 32, 2) := by decide +kernel
theorem dM_init_39 : decode cM_init 39 = .ok (.newarray .boolean, 2) := by decide +kernel
theorem dM_init_41 : decode cM_init 41 = .ok (.putfield 23, 3) := by decide +kernel
theorem dM_init_44 : decode cM_init 44 = .ok (.aload_n 0, 1) := by decide +kernel
theorem dM_init_45 : decode cM_init 45 = .ok (.bipush 8, 2) := by decide +kernel
theorem dM_init_47 : decode cM_init 47 = .ok (.newarray .int, 2) := by decide +kernel
theorem dM_init_49 : decode cM_init 49 = .ok (.putfield 26, 3) := by decide +kernel
theorem dM_init_52 : decode cM_init 52 = .ok (.aload_n 0, 1) := by decide +kernel
theorem dM_init_53 : decode cM_init 53 = .ok (.bipush 8, 2) := by decide +kernel
theorem dM_init_55 : decode cM_init 55 = .ok (.newarray .boolean, 2) := by decide +kernel
theorem dM_init_57 : decode cM_init 57 = .ok (.putfield 29, 3) := by decide +kernel
theorem dM_init_60 : decode cM_init 60 = .ok (.aload_n 0, 1) := by decide +kernel
theorem dM_init_61 : decode cM_init 61 = .ok (.iconst 4, 1) := by decide +kernel
theorem dM_init_62 : decode cM_init 62 = .ok (.newarray .int, 2) := by decide +kernel
theorem dM_init_64 : decode cM_init 64 = .ok (.putfield 32, 3) := by decide +kernel
theorem dM_init_67 : decode cM_init 67 = .ok (.aload_n 0, 1) := by decide +kernel
theorem dM_init_68 : decode cM_init 68 = .ok (.iconst 4, 1) := by decide +kernel
theorem dM_init_69 : decode cM_init 69 = .ok (.putfield 35, 3) := by decide +kernel
theorem dM_init_72 : decode cM_init 72 = .ok (.iconst 0, 1) := by decide +kernel
theorem dM_init_73 : decode cM_init 73 = .ok (.istore_n 1, 1) := by decide +kernel
theorem dM_init_74 : decode cM_init 74 = .ok (.iload_n 1, 1) := by decide +kernel
theorem dM_init_75 : decode cM_init 75 = .ok (.iconst 4, 1) := by decide +kernel
theorem dM_init_76 : decode cM_init 76 = .ok (.if_icmp .ge 16, 3) := by decide +kernel
theorem dM_init_79 : decode cM_init 79 = .ok (.aload_n 0, 1) := by decide +kernel
theorem dM_init_80 : decode cM_init 80 = .ok (.getfield 32, 3) := by decide +kernel
theorem dM_init_83 : decode cM_init 83 = .ok (.iload_n 1, 1) := by decide +kernel
theorem dM_init_84 : decode cM_init 84 = .ok (.iconst (-1), 1) := by decide +kernel
theorem dM_init_85 : decode cM_init 85 = .ok (.iastore, 1) := by decide +kernel
theorem dM_init_86 : decode cM_init 86 = .ok (.iinc 1 1, 3) := by decide +kernel
theorem dM_init_89 : decode cM_init 89 = .ok (.goto (-15), 3) := by decide +kernel
theorem dM_init_92 : decode cM_init 92 = .ok (.return_, 1) := by decide +kernel
theorem dM_thrown_0 : decode cM_thrown 0 = .ok (.aload_n 0, 1) := by decide +kernel
theorem dM_thrown_1 : decode cM_thrown 1 = .ok (.getfield 39, 3) := by decide +kernel
theorem dM_thrown_4 : decode cM_thrown 4 = .ok (.ireturn, 1) := by decide +kernel
theorem dM_fails_0 : decode cM_fails 0 = .ok (.aload_n 0, 1) := by decide +kernel
theorem dM_fails_1 : decode cM_fails 1 = .ok (.iload_n 1, 1) := by decide +kernel
theorem dM_fails_2 : decode cM_fails 2 = .ok (.putfield 39, 3) := by decide +kernel
theorem dM_fails_5 : decode cM_fails 5 = .ok (.iconst 0, 1) := by decide +kernel
theorem dM_fails_6 : decode cM_fails 6 = .ok (.ireturn, 1) := by decide +kernel
theorem dM_register_0 : decode cM_register 0 = .ok (.iload_n 0, 1) := by decide +kernel
theorem dM_register_1 : decode cM_register 1 = .ok (.ifCond .lt 12, 3) := by decide +kernel
theorem dM_register_4 : decode cM_register 4 = .ok (.iload_n 0, 1) := by decide +kernel
theorem dM_register_5 : decode cM_register 5 = .ok (.iconst 4, 1) := by decide +kernel
theorem dM_register_6 : decode cM_register 6 = .ok (.if_icmp .ge 7, 3) := by decide +kernel
theorem dM_register_9 : decode cM_register 9 = .ok (.iconst 1, 1) := by decide +kernel
theorem dM_register_10 : decode cM_register 10 = .ok (.goto 4, 3) := by decide +kernel
theorem dM_register_13 : decode cM_register 13 = .ok (.iconst 0, 1) := by decide +kernel
theorem dM_register_14 : decode cM_register 14 = .ok (.ireturn, 1) := by decide +kernel
theorem dM_refers_0 : decode cM_refers 0 = .ok (.iconst 0, 1) := by decide +kernel
theorem dM_refers_1 : decode cM_refers 1 = .ok (.istore_n 3, 1) := by decide +kernel
theorem dM_refers_2 : decode cM_refers 2 = .ok (.iconst 4, 1) := by decide +kernel
theorem dM_refers_3 : decode cM_refers 3 = .ok (.iload_n 1, 1) := by decide +kernel
theorem dM_refers_4 : decode cM_refers 4 = .ok (.imul, 1) := by decide +kernel
theorem dM_refers_5 : decode cM_refers 5 = .ok (.istore 4, 2) := by decide +kernel
theorem dM_refers_7 : decode cM_refers 7 = .ok (.iload 4, 2) := by decide +kernel
theorem dM_refers_9 : decode cM_refers 9 = .ok (.iconst 4, 1) := by decide +kernel
theorem dM_refers_10 : decode cM_refers 10 = .ok (.iload_n 1, 1) := by decide +kernel
theorem dM_refers_11 : decode cM_refers 11 = .ok (.imul, 1) := by decide +kernel
theorem dM_refers_12 : decode cM_refers 12 = .ok (.iconst 4, 1) := by decide +kernel
theorem dM_refers_13 : decode cM_refers 13 = .ok (.iadd, 1) := by decide +kernel
theorem dM_refers_14 : decode cM_refers 14 = .ok (.if_icmp .ge 75, 3) := by decide +kernel
theorem dM_refers_17 : decode cM_refers 17 = .ok (.iconst 2, 1) := by decide +kernel
theorem dM_refers_18 : decode cM_refers 18 = .ok (.iload 4, 2) := by decide +kernel
theorem dM_refers_20 : decode cM_refers 20 = .ok (.imul, 1) := by decide +kernel
theorem dM_refers_21 : decode cM_refers 21 = .ok (.istore 5, 2) := by decide +kernel
theorem dM_refers_23 : decode cM_refers 23 = .ok (.iload 5, 2) := by decide +kernel
theorem dM_refers_25 : decode cM_refers 25 = .ok (.iconst 2, 1) := by decide +kernel
theorem dM_refers_26 : decode cM_refers 26 = .ok (.iload 4, 2) := by decide +kernel
theorem dM_refers_28 : decode cM_refers 28 = .ok (.imul, 1) := by decide +kernel
theorem dM_refers_29 : decode cM_refers 29 = .ok (.iconst 2, 1) := by decide +kernel
theorem dM_refers_30 : decode cM_refers 30 = .ok (.iadd, 1) := by decide +kernel
theorem dM_refers_31 : decode cM_refers 31 = .ok (.if_icmp .ge 52, 3) := by decide +kernel
theorem dM_refers_34 : decode cM_refers 34 = .ok (.iload_n 3, 1) := by decide +kernel
theorem dM_refers_35 : decode cM_refers 35 = .ok (.ifCond .ne 36, 3) := by decide +kernel
theorem dM_refers_38 : decode cM_refers 38 = .ok (.aload_n 0, 1) := by decide +kernel
theorem dM_refers_39 : decode cM_refers 39 = .ok (.getfield 7, 3) := by decide +kernel
theorem dM_refers_42 : decode cM_refers 42 = .ok (.iload 4, 2) := by decide +kernel
theorem dM_refers_44 : decode cM_refers 44 = .ok (.baload, 1) := by decide +kernel
theorem dM_refers_45 : decode cM_refers 45 = .ok (.ifCond .eq 30, 3) := by decide +kernel
theorem dM_refers_48 : decode cM_refers 48 = .ok (.aload_n 0, 1) := by decide +kernel
theorem dM_refers_49 : decode cM_refers 49 = .ok (.getfield 17, 3) := by decide +kernel
theorem dM_refers_52 : decode cM_refers 52 = .ok (.iload 5, 2) := by decide +kernel
theorem dM_refers_54 : decode cM_refers 54 = .ok (.iaload, 1) := by decide +kernel
theorem dM_refers_55 : decode cM_refers 55 = .ok (.ifCond .lt 20, 3) := by decide +kernel
theorem dM_refers_58 : decode cM_refers 58 = .ok (.aload_n 0, 1) := by decide +kernel
theorem dM_refers_59 : decode cM_refers 59 = .ok (.getfield 17, 3) := by decide +kernel
theorem dM_refers_62 : decode cM_refers 62 = .ok (.iload 5, 2) := by decide +kernel
theorem dM_refers_64 : decode cM_refers 64 = .ok (.iaload, 1) := by decide +kernel
theorem dM_refers_65 : decode cM_refers 65 = .ok (.iconst 4, 1) := by decide +kernel
theorem dM_refers_66 : decode cM_refers 66 = .ok (.idiv, 1) := by decide +kernel
theorem dM_refers_67 : decode cM_refers 67 = .ok (.iload_n 2, 1) := by decide +kernel
theorem dM_refers_68 : decode cM_refers 68 = .ok (.if_icmp .ne 7, 3) := by decide +kernel
theorem dM_refers_71 : decode cM_refers 71 = .ok (.iconst 1, 1) := by decide +kernel
theorem dM_refers_72 : decode cM_refers 72 = .ok (.goto 4, 3) := by decide +kernel
theorem dM_refers_75 : decode cM_refers 75 = .ok (.iconst 0, 1) := by decide +kernel
theorem dM_refers_76 : decode cM_refers 76 = .ok (.istore_n 3, 1) := by decide +kernel
theorem dM_refers_77 : decode cM_refers 77 = .ok (.iinc 5 1, 3) := by decide +kernel
theorem dM_refers_80 : decode cM_refers 80 = .ok (.goto (-57), 3) := by decide +kernel
theorem dM_refers_83 : decode cM_refers 83 = .ok (.iinc 4 1, 3) := by decide +kernel
theorem dM_refers_86 : decode cM_refers 86 = .ok (.goto (-79), 3) := by decide +kernel
theorem dM_refers_89 : decode cM_refers 89 = .ok (.iload_n 3, 1) := by decide +kernel
theorem dM_refers_90 : decode cM_refers 90 = .ok (.ifCond .eq 12, 3) := by decide +kernel
theorem dM_refers_93 : decode cM_refers 93 = .ok (.iload_n 1, 1) := by decide +kernel
theorem dM_refers_94 : decode cM_refers 94 = .ok (.iload_n 2, 1) := by decide +kernel
theorem dM_refers_95 : decode cM_refers 95 = .ok (.if_icmp .eq 7, 3) := by decide +kernel
theorem dM_refers_98 : decode cM_refers 98 = .ok (.iconst 1, 1) := by decide +kernel
theorem dM_refers_99 : decode cM_refers 99 = .ok (.goto 4, 3) := by decide +kernel
theorem dM_refers_102 : decode cM_refers 102 = .ok (.iconst 0, 1) := by decide +kernel
theorem dM_refers_103 : decode cM_refers 103 = .ok (.ireturn, 1) := by decide +kernel
theorem dM_counted_0 : decode cM_counted 0 = .ok (.iconst 0, 1) := by decide +kernel
theorem dM_counted_1 : decode cM_counted 1 = .ok (.istore_n 2, 1) := by decide +kernel
theorem dM_counted_2 : decode cM_counted 2 = .ok (.iconst 0, 1) := by decide +kernel
theorem dM_counted_3 : decode cM_counted 3 = .ok (.istore_n 3, 1) := by decide +kernel
theorem dM_counted_4 : decode cM_counted 4 = .ok (.iload_n 3, 1) := by decide +kernel
theorem dM_counted_5 : decode cM_counted 5 = .ok (.bipush 8, 2) := by decide +kernel
theorem dM_counted_7 : decode cM_counted 7 = .ok (.if_icmp .ge 36, 3) := by decide +kernel
theorem dM_counted_10 : decode cM_counted 10 = .ok (.aload_n 0, 1) := by decide +kernel
theorem dM_counted_11 : decode cM_counted 11 = .ok (.getfield 26, 3) := by decide +kernel
theorem dM_counted_14 : decode cM_counted 14 = .ok (.iload_n 3, 1) := by decide +kernel
theorem dM_counted_15 : decode cM_counted 15 = .ok (.iaload, 1) := by decide +kernel
theorem dM_counted_16 : decode cM_counted 16 = .ok (.iconst 2, 1) := by decide +kernel
theorem dM_counted_17 : decode cM_counted 17 = .ok (.if_icmp .ne 18, 3) := by decide +kernel
theorem dM_counted_20 : decode cM_counted 20 = .ok (.aload_n 0, 1) := by decide +kernel
theorem dM_counted_21 : decode cM_counted 21 = .ok (.iload_n 3, 1) := by decide +kernel
theorem dM_counted_22 : decode cM_counted 22 = .ok (.iload_n 1, 1) := by decide +kernel
theorem dM_counted_23 : decode cM_counted 23 = .ok (.invokevirtual 42, 3) := by decide +kernel
theorem dM_counted_26 : decode cM_counted 26 = .ok (.ifCond .eq 9, 3) := by decide +kernel
theorem dM_counted_29 : decode cM_counted 29 = .ok (.iload_n 2, 1) := by decide +kernel
theorem dM_counted_30 : decode cM_counted 30 = .ok (.iconst 1, 1) := by decide +kernel
theorem dM_counted_31 : decode cM_counted 31 = .ok (.iadd, 1) := by decide +kernel
theorem dM_counted_32 : decode cM_counted 32 = .ok (.goto 4, 3) := by decide +kernel
theorem dM_counted_35 : decode cM_counted 35 = .ok (.iload_n 2, 1) := by decide +kernel
theorem dM_counted_36 : decode cM_counted 36 = .ok (.istore_n 2, 1) := by decide +kernel
theorem dM_counted_37 : decode cM_counted 37 = .ok (.iinc 3 1, 3) := by decide +kernel
theorem dM_counted_40 : decode cM_counted 40 = .ok (.goto (-36), 3) := by decide +kernel
theorem dM_counted_43 : decode cM_counted 43 = .ok (.iload_n 2, 1) := by decide +kernel
theorem dM_counted_44 : decode cM_counted 44 = .ok (.ireturn, 1) := by decide +kernel
theorem dM_pagesIn_0 : decode cM_pagesIn 0 = .ok (.iconst 0, 1) := by decide +kernel
theorem dM_pagesIn_1 : decode cM_pagesIn 1 = .ok (.istore_n 1, 1) := by decide +kernel
theorem dM_pagesIn_2 : decode cM_pagesIn 2 = .ok (.iconst 0, 1) := by decide +kernel
theorem dM_pagesIn_3 : decode cM_pagesIn 3 = .ok (.istore_n 2, 1) := by decide +kernel
theorem dM_pagesIn_4 : decode cM_pagesIn 4 = .ok (.iload_n 2, 1) := by decide +kernel
theorem dM_pagesIn_5 : decode cM_pagesIn 5 = .ok (.bipush 8, 2) := by decide +kernel
theorem dM_pagesIn_7 : decode cM_pagesIn 7 = .ok (.if_icmp .ge 27, 3) := by decide +kernel
theorem dM_pagesIn_10 : decode cM_pagesIn 10 = .ok (.aload_n 0, 1) := by decide +kernel
theorem dM_pagesIn_11 : decode cM_pagesIn 11 = .ok (.getfield 26, 3) := by decide +kernel
theorem dM_pagesIn_14 : decode cM_pagesIn 14 = .ok (.iload_n 2, 1) := by decide +kernel
theorem dM_pagesIn_15 : decode cM_pagesIn 15 = .ok (.iaload, 1) := by decide +kernel
theorem dM_pagesIn_16 : decode cM_pagesIn 16 = .ok (.iconst 1, 1) := by decide +kernel
theorem dM_pagesIn_17 : decode cM_pagesIn 17 = .ok (.if_icmp .ne 9, 3) := by decide +kernel
theorem dM_pagesIn_20 : decode cM_pagesIn 20 = .ok (.iload_n 1, 1) := by decide +kernel
theorem dM_pagesIn_21 : decode cM_pagesIn 21 = .ok (.iconst 1, 1) := by decide +kernel
theorem dM_pagesIn_22 : decode cM_pagesIn 22 = .ok (.iadd, 1) := by decide +kernel
theorem dM_pagesIn_23 : decode cM_pagesIn 23 = .ok (.goto 4, 3) := by decide +kernel
theorem dM_pagesIn_26 : decode cM_pagesIn 26 = .ok (.iload_n 1, 1) := by decide +kernel
theorem dM_pagesIn_27 : decode cM_pagesIn 27 = .ok (.istore_n 1, 1) := by decide +kernel
theorem dM_pagesIn_28 : decode cM_pagesIn 28 = .ok (.iinc 2 1, 3) := by decide +kernel
theorem dM_pagesIn_31 : decode cM_pagesIn 31 = .ok (.goto (-27), 3) := by decide +kernel
theorem dM_pagesIn_34 : decode cM_pagesIn 34 = .ok (.iload_n 1, 1) := by decide +kernel
theorem dM_pagesIn_35 : decode cM_pagesIn 35 = .ok (.ireturn, 1) := by decide +kernel
theorem dM_unmark_0 : decode cM_unmark 0 = .ok (.iconst 4, 1) := by decide +kernel
theorem dM_unmark_1 : decode cM_unmark 1 = .ok (.iload_n 1, 1) := by decide +kernel
theorem dM_unmark_2 : decode cM_unmark 2 = .ok (.imul, 1) := by decide +kernel
theorem dM_unmark_3 : decode cM_unmark 3 = .ok (.istore_n 2, 1) := by decide +kernel
theorem dM_unmark_4 : decode cM_unmark 4 = .ok (.iload_n 2, 1) := by decide +kernel
theorem dM_unmark_5 : decode cM_unmark 5 = .ok (.iconst 4, 1) := by decide +kernel
theorem dM_unmark_6 : decode cM_unmark 6 = .ok (.iload_n 1, 1) := by decide +kernel
theorem dM_unmark_7 : decode cM_unmark 7 = .ok (.imul, 1) := by decide +kernel
theorem dM_unmark_8 : decode cM_unmark 8 = .ok (.iconst 4, 1) := by decide +kernel
theorem dM_unmark_9 : decode cM_unmark 9 = .ok (.iadd, 1) := by decide +kernel
theorem dM_unmark_10 : decode cM_unmark 10 = .ok (.if_icmp .ge 16, 3) := by decide +kernel
theorem dM_unmark_13 : decode cM_unmark 13 = .ok (.aload_n 0, 1) := by decide +kernel
theorem dM_unmark_14 : decode cM_unmark 14 = .ok (.getfield 20, 3) := by decide +kernel
theorem dM_unmark_17 : decode cM_unmark 17 = .ok (.iload_n 2, 1) := by decide +kernel
theorem dM_unmark_18 : decode cM_unmark 18 = .ok (.iconst 0, 1) := by decide +kernel
theorem dM_unmark_19 : decode cM_unmark 19 = .ok (.bastore, 1) := by decide +kernel
theorem dM_unmark_20 : decode cM_unmark 20 = .ok (.iinc 2 1, 3) := by decide +kernel
theorem dM_unmark_23 : decode cM_unmark 23 = .ok (.goto (-19), 3) := by decide +kernel
theorem dM_unmark_26 : decode cM_unmark 26 = .ok (.return_, 1) := by decide +kernel
theorem dM_putOut_0 : decode cM_putOut 0 = .ok (.iconst 4, 1) := by decide +kernel
theorem dM_putOut_1 : decode cM_putOut 1 = .ok (.iload_n 1, 1) := by decide +kernel
theorem dM_putOut_2 : decode cM_putOut 2 = .ok (.imul, 1) := by decide +kernel
theorem dM_putOut_3 : decode cM_putOut 3 = .ok (.istore_n 2, 1) := by decide +kernel
theorem dM_putOut_4 : decode cM_putOut 4 = .ok (.iload_n 2, 1) := by decide +kernel
theorem dM_putOut_5 : decode cM_putOut 5 = .ok (.iconst 4, 1) := by decide +kernel
theorem dM_putOut_6 : decode cM_putOut 6 = .ok (.iload_n 1, 1) := by decide +kernel
theorem dM_putOut_7 : decode cM_putOut 7 = .ok (.imul, 1) := by decide +kernel
theorem dM_putOut_8 : decode cM_putOut 8 = .ok (.iconst 4, 1) := by decide +kernel
theorem dM_putOut_9 : decode cM_putOut 9 = .ok (.iadd, 1) := by decide +kernel
theorem dM_putOut_10 : decode cM_putOut 10 = .ok (.if_icmp .ge 70, 3) := by decide +kernel
theorem dM_putOut_13 : decode cM_putOut 13 = .ok (.aload_n 0, 1) := by decide +kernel
theorem dM_putOut_14 : decode cM_putOut 14 = .ok (.getfield 20, 3) := by decide +kernel
theorem dM_putOut_17 : decode cM_putOut 17 = .ok (.iload_n 2, 1) := by decide +kernel
theorem dM_putOut_18 : decode cM_putOut 18 = .ok (.aload_n 0, 1) := by decide +kernel
theorem dM_putOut_19 : decode cM_putOut 19 = .ok (.getfield 7, 3) := by decide +kernel
theorem dM_putOut_22 : decode cM_putOut 22 = .ok (.iload_n 2, 1) := by decide +kernel
theorem dM_putOut_23 : decode cM_putOut 23 = .ok (.baload, 1) := by decide +kernel
theorem dM_putOut_24 : decode cM_putOut 24 = .ok (.bastore, 1) := by decide +kernel
theorem dM_putOut_25 : decode cM_putOut 25 = .ok (.iconst 2, 1) := by decide +kernel
theorem dM_putOut_26 : decode cM_putOut 26 = .ok (.iload_n 2, 1) := by decide +kernel
theorem dM_putOut_27 : decode cM_putOut 27 = .ok (.imul, 1) := by decide +kernel
theorem dM_putOut_28 : decode cM_putOut 28 = .ok (.istore_n 3, 1) := by decide +kernel
theorem dM_putOut_29 : decode cM_putOut 29 = .ok (.iload_n 3, 1) := by decide +kernel
theorem dM_putOut_30 : decode cM_putOut 30 = .ok (.iconst 2, 1) := by decide +kernel
theorem dM_putOut_31 : decode cM_putOut 31 = .ok (.iload_n 2, 1) := by decide +kernel
theorem dM_putOut_32 : decode cM_putOut 32 = .ok (.imul, 1) := by decide +kernel
theorem dM_putOut_33 : decode cM_putOut 33 = .ok (.iconst 2, 1) := by decide +kernel
theorem dM_putOut_34 : decode cM_putOut 34 = .ok (.iadd, 1) := by decide +kernel
theorem dM_putOut_35 : decode cM_putOut 35 = .ok (.if_icmp .ge 39, 3) := by decide +kernel
theorem dM_putOut_38 : decode cM_putOut 38 = .ok (.aload_n 0, 1) := by decide +kernel
theorem dM_putOut_39 : decode cM_putOut 39 = .ok (.getfield 7, 3) := by decide +kernel
theorem dM_putOut_42 : decode cM_putOut 42 = .ok (.iload_n 2, 1) := by decide +kernel
theorem dM_putOut_43 : decode cM_putOut 43 = .ok (.baload, 1) := by decide +kernel
theorem dM_putOut_44 : decode cM_putOut 44 = .ok (.ifCond .eq 24, 3) := by decide +kernel
theorem dM_putOut_47 : decode cM_putOut 47 = .ok (.aload_n 0, 1) := by decide +kernel
theorem dM_putOut_48 : decode cM_putOut 48 = .ok (.getfield 17, 3) := by decide +kernel
theorem dM_putOut_51 : decode cM_putOut 51 = .ok (.iload_n 3, 1) := by decide +kernel
theorem dM_putOut_52 : decode cM_putOut 52 = .ok (.iaload, 1) := by decide +kernel
theorem dM_putOut_53 : decode cM_putOut 53 = .ok (.ifCond .lt 15, 3) := by decide +kernel
theorem dM_putOut_56 : decode cM_putOut 56 = .ok (.aload_n 0, 1) := by decide +kernel
theorem dM_putOut_57 : decode cM_putOut 57 = .ok (.getfield 20, 3) := by decide +kernel
theorem dM_putOut_60 : decode cM_putOut 60 = .ok (.aload_n 0, 1) := by decide +kernel
theorem dM_putOut_61 : decode cM_putOut 61 = .ok (.getfield 17, 3) := by decide +kernel
theorem dM_putOut_64 : decode cM_putOut 64 = .ok (.iload_n 3, 1) := by decide +kernel
theorem dM_putOut_65 : decode cM_putOut 65 = .ok (.iaload, 1) := by decide +kernel
theorem dM_putOut_66 : decode cM_putOut 66 = .ok (.iconst 1, 1) := by decide +kernel
theorem dM_putOut_67 : decode cM_putOut 67 = .ok (.bastore, 1) := by decide +kernel
theorem dM_putOut_68 : decode cM_putOut 68 = .ok (.iinc 3 1, 3) := by decide +kernel
theorem dM_putOut_71 : decode cM_putOut 71 = .ok (.goto (-42), 3) := by decide +kernel
theorem dM_putOut_74 : decode cM_putOut 74 = .ok (.iinc 2 1, 3) := by decide +kernel
theorem dM_putOut_77 : decode cM_putOut 77 = .ok (.goto (-73), 3) := by decide +kernel
theorem dM_putOut_80 : decode cM_putOut 80 = .ok (.aload_n 0, 1) := by decide +kernel
theorem dM_putOut_81 : decode cM_putOut 81 = .ok (.getfield 26, 3) := by decide +kernel
theorem dM_putOut_84 : decode cM_putOut 84 = .ok (.iload_n 1, 1) := by decide +kernel
theorem dM_putOut_85 : decode cM_putOut 85 = .ok (.iconst 2, 1) := by decide +kernel
theorem dM_putOut_86 : decode cM_putOut 86 = .ok (.iastore, 1) := by decide +kernel
theorem dM_putOut_87 : decode cM_putOut 87 = .ok (.aload_n 0, 1) := by decide +kernel
theorem dM_putOut_88 : decode cM_putOut 88 = .ok (.getfield 29, 3) := by decide +kernel
theorem dM_putOut_91 : decode cM_putOut 91 = .ok (.iload_n 1, 1) := by decide +kernel
theorem dM_putOut_92 : decode cM_putOut 92 = .ok (.iconst 0, 1) := by decide +kernel
theorem dM_putOut_93 : decode cM_putOut 93 = .ok (.bastore, 1) := by decide +kernel
theorem dM_putOut_94 : decode cM_putOut 94 = .ok (.return_, 1) := by decide +kernel
theorem dM_choose_0 : decode cM_choose 0 = .ok (.aload_n 0, 1) := by decide +kernel
theorem dM_choose_1 : decode cM_choose 1 = .ok (.getfield 26, 3) := by decide +kernel
theorem dM_choose_4 : decode cM_choose 4 = .ok (.aload_n 0, 1) := by decide +kernel
theorem dM_choose_5 : decode cM_choose 5 = .ok (.getfield 46, 3) := by decide +kernel
theorem dM_choose_8 : decode cM_choose 8 = .ok (.iaload, 1) := by decide +kernel
theorem dM_choose_9 : decode cM_choose 9 = .ok (.iconst 1, 1) := by decide +kernel
theorem dM_choose_10 : decode cM_choose 10 = .ok (.if_icmp .ne 23, 3) := by decide +kernel
theorem dM_choose_13 : decode cM_choose 13 = .ok (.aload_n 0, 1) := by decide +kernel
theorem dM_choose_14 : decode cM_choose 14 = .ok (.getfield 46, 3) := by decide +kernel
theorem dM_choose_17 : decode cM_choose 17 = .ok (.iload_n 1, 1) := by decide +kernel
theorem dM_choose_18 : decode cM_choose 18 = .ok (.if_icmp .eq 15, 3) := by decide +kernel
theorem dM_choose_21 : decode cM_choose 21 = .ok (.aload_n 0, 1) := by decide +kernel
theorem dM_choose_22 : decode cM_choose 22 = .ok (.getfield 29, 3) := by decide +kernel
theorem dM_choose_25 : decode cM_choose 25 = .ok (.aload_n 0, 1) := by decide +kernel
theorem dM_choose_26 : decode cM_choose 26 = .ok (.getfield 46, 3) := by decide +kernel
theorem dM_choose_29 : decode cM_choose 29 = .ok (.baload, 1) := by decide +kernel
theorem dM_choose_30 : decode cM_choose 30 = .ok (.ifCond .eq 50, 3) := by decide +kernel
theorem dM_choose_33 : decode cM_choose 33 = .ok (.aload_n 0, 1) := by decide +kernel
theorem dM_choose_34 : decode cM_choose 34 = .ok (.getfield 26, 3) := by decide +kernel
theorem dM_choose_37 : decode cM_choose 37 = .ok (.aload_n 0, 1) := by decide +kernel
theorem dM_choose_38 : decode cM_choose 38 = .ok (.getfield 46, 3) := by decide +kernel
theorem dM_choose_41 : decode cM_choose 41 = .ok (.iaload, 1) := by decide +kernel
theorem dM_choose_42 : decode cM_choose 42 = .ok (.iconst 1, 1) := by decide +kernel
theorem dM_choose_43 : decode cM_choose 43 = .ok (.if_icmp .ne 21, 3) := by decide +kernel
theorem dM_choose_46 : decode cM_choose 46 = .ok (.aload_n 0, 1) := by decide +kernel
theorem dM_choose_47 : decode cM_choose 47 = .ok (.getfield 46, 3) := by decide +kernel
theorem dM_choose_50 : decode cM_choose 50 = .ok (.iload_n 1, 1) := by decide +kernel
theorem dM_choose_51 : decode cM_choose 51 = .ok (.if_icmp .eq 13, 3) := by decide +kernel
theorem dM_choose_54 : decode cM_choose 54 = .ok (.aload_n 0, 1) := by decide +kernel
theorem dM_choose_55 : decode cM_choose 55 = .ok (.getfield 29, 3) := by decide +kernel
theorem dM_choose_58 : decode cM_choose 58 = .ok (.aload_n 0, 1) := by decide +kernel
theorem dM_choose_59 : decode cM_choose 59 = .ok (.getfield 46, 3) := by decide +kernel
theorem dM_choose_62 : decode cM_choose 62 = .ok (.iconst 0, 1) := by decide +kernel
theorem dM_choose_63 : decode cM_choose 63 = .ok (.bastore, 1) := by decide +kernel
theorem dM_choose_64 : decode cM_choose 64 = .ok (.aload_n 0, 1) := by decide +kernel
theorem dM_choose_65 : decode cM_choose 65 = .ok (.aload_n 0, 1) := by decide +kernel
theorem dM_choose_66 : decode cM_choose 66 = .ok (.getfield 46, 3) := by decide +kernel
theorem dM_choose_69 : decode cM_choose 69 = .ok (.iconst 1, 1) := by decide +kernel
theorem dM_choose_70 : decode cM_choose 70 = .ok (.iadd, 1) := by decide +kernel
theorem dM_choose_71 : decode cM_choose 71 = .ok (.bipush 8, 2) := by decide +kernel
theorem dM_choose_73 : decode cM_choose 73 = .ok (.irem, 1) := by decide +kernel
theorem dM_choose_74 : decode cM_choose 74 = .ok (.putfield 46, 3) := by decide +kernel
theorem dM_choose_77 : decode cM_choose 77 = .ok (.goto (-77), 3) := by decide +kernel
theorem dM_choose_80 : decode cM_choose 80 = .ok (.aload_n 0, 1) := by decide +kernel
theorem dM_choose_81 : decode cM_choose 81 = .ok (.getfield 46, 3) := by decide +kernel
theorem dM_choose_84 : decode cM_choose 84 = .ok (.istore_n 2, 1) := by decide +kernel
theorem dM_choose_85 : decode cM_choose 85 = .ok (.aload_n 0, 1) := by decide +kernel
theorem dM_choose_86 : decode cM_choose 86 = .ok (.aload_n 0, 1) := by decide +kernel
theorem dM_choose_87 : decode cM_choose 87 = .ok (.getfield 46, 3) := by decide +kernel
theorem dM_choose_90 : decode cM_choose 90 = .ok (.iconst 1, 1) := by decide +kernel
theorem dM_choose_91 : decode cM_choose 91 = .ok (.iadd, 1) := by decide +kernel
theorem dM_choose_92 : decode cM_choose 92 = .ok (.bipush 8, 2) := by decide +kernel
theorem dM_choose_94 : decode cM_choose 94 = .ok (.irem, 1) := by decide +kernel
theorem dM_choose_95 : decode cM_choose 95 = .ok (.putfield 46, 3) := by decide +kernel
theorem dM_choose_98 : decode cM_choose 98 = .ok (.iload_n 2, 1) := by decide +kernel
theorem dM_choose_99 : decode cM_choose 99 = .ok (.ireturn, 1) := by decide +kernel
theorem dM_putOutOne_0 : decode cM_putOutOne 0 = .ok (.aload_n 0, 1) := by decide +kernel
theorem dM_putOutOne_1 : decode cM_putOutOne 1 = .ok (.iload_n 1, 1) := by decide +kernel
theorem dM_putOutOne_2 : decode cM_putOutOne 2 = .ok (.invokevirtual 49, 3) := by decide +kernel
theorem dM_putOutOne_5 : decode cM_putOutOne 5 = .ok (.istore_n 2, 1) := by decide +kernel
theorem dM_putOutOne_6 : decode cM_putOutOne 6 = .ok (.aload_n 0, 1) := by decide +kernel
theorem dM_putOutOne_7 : decode cM_putOutOne 7 = .ok (.iload_n 2, 1) := by decide +kernel
theorem dM_putOutOne_8 : decode cM_putOutOne 8 = .ok (.invokevirtual 53, 3) := by decide +kernel
theorem dM_putOutOne_11 : decode cM_putOutOne 11 = .ok (.return_, 1) := by decide +kernel
theorem dM_bringIn_0 : decode cM_bringIn 0 = .ok (.aload_n 0, 1) := by decide +kernel
theorem dM_bringIn_1 : decode cM_bringIn 1 = .ok (.invokevirtual 57, 3) := by decide +kernel
theorem dM_bringIn_4 : decode cM_bringIn 4 = .ok (.aload_n 0, 1) := by decide +kernel
theorem dM_bringIn_5 : decode cM_bringIn 5 = .ok (.getfield 35, 3) := by decide +kernel
theorem dM_bringIn_8 : decode cM_bringIn 8 = .ok (.if_icmp .ne 8, 3) := by decide +kernel
theorem dM_bringIn_11 : decode cM_bringIn 11 = .ok (.aload_n 0, 1) := by decide +kernel
theorem dM_bringIn_12 : decode cM_bringIn 12 = .ok (.iconst (-1), 1) := by decide +kernel
theorem dM_bringIn_13 : decode cM_bringIn 13 = .ok (.invokevirtual 61, 3) := by decide +kernel
theorem dM_bringIn_16 : decode cM_bringIn 16 = .ok (.aload_n 0, 1) := by decide +kernel
theorem dM_bringIn_17 : decode cM_bringIn 17 = .ok (.getfield 26, 3) := by decide +kernel
theorem dM_bringIn_20 : decode cM_bringIn 20 = .ok (.iload_n 1, 1) := by decide +kernel
theorem dM_bringIn_21 : decode cM_bringIn 21 = .ok (.iconst 1, 1) := by decide +kernel
theorem dM_bringIn_22 : decode cM_bringIn 22 = .ok (.iastore, 1) := by decide +kernel
theorem dM_bringIn_23 : decode cM_bringIn 23 = .ok (.aload_n 0, 1) := by decide +kernel
theorem dM_bringIn_24 : decode cM_bringIn 24 = .ok (.getfield 29, 3) := by decide +kernel
theorem dM_bringIn_27 : decode cM_bringIn 27 = .ok (.iload_n 1, 1) := by decide +kernel
theorem dM_bringIn_28 : decode cM_bringIn 28 = .ok (.iconst 0, 1) := by decide +kernel
theorem dM_bringIn_29 : decode cM_bringIn 29 = .ok (.bastore, 1) := by decide +kernel
theorem dM_bringIn_30 : decode cM_bringIn 30 = .ok (.iconst 0, 1) := by decide +kernel
theorem dM_bringIn_31 : decode cM_bringIn 31 = .ok (.istore_n 2, 1) := by decide +kernel
theorem dM_bringIn_32 : decode cM_bringIn 32 = .ok (.iload_n 2, 1) := by decide +kernel
theorem dM_bringIn_33 : decode cM_bringIn 33 = .ok (.bipush 8, 2) := by decide +kernel
theorem dM_bringIn_35 : decode cM_bringIn 35 = .ok (.if_icmp .ge 56, 3) := by decide +kernel
theorem dM_bringIn_38 : decode cM_bringIn 38 = .ok (.iload_n 2, 1) := by decide +kernel
theorem dM_bringIn_39 : decode cM_bringIn 39 = .ok (.iload_n 1, 1) := by decide +kernel
theorem dM_bringIn_40 : decode cM_bringIn 40 = .ok (.if_icmp .eq 12, 3) := by decide +kernel
theorem dM_bringIn_43 : decode cM_bringIn 43 = .ok (.aload_n 0, 1) := by decide +kernel
theorem dM_bringIn_44 : decode cM_bringIn 44 = .ok (.iload_n 1, 1) := by decide +kernel
theorem dM_bringIn_45 : decode cM_bringIn 45 = .ok (.iload_n 2, 1) := by decide +kernel
theorem dM_bringIn_46 : decode cM_bringIn 46 = .ok (.invokevirtual 42, 3) := by decide +kernel
theorem dM_bringIn_49 : decode cM_bringIn 49 = .ok (.ifCond .eq 7, 3) := by decide +kernel
theorem dM_bringIn_52 : decode cM_bringIn 52 = .ok (.iconst 1, 1) := by decide +kernel
theorem dM_bringIn_53 : decode cM_bringIn 53 = .ok (.goto 4, 3) := by decide +kernel
theorem dM_bringIn_56 : decode cM_bringIn 56 = .ok (.iconst 0, 1) := by decide +kernel
theorem dM_bringIn_57 : decode cM_bringIn 57 = .ok (.istore_n 3, 1) := by decide +kernel
theorem dM_bringIn_58 : decode cM_bringIn 58 = .ok (.iload_n 3, 1) := by decide +kernel
theorem dM_bringIn_59 : decode cM_bringIn 59 = .ok (.ifCond .eq 26, 3) := by decide +kernel
theorem dM_bringIn_62 : decode cM_bringIn 62 = .ok (.aload_n 0, 1) := by decide +kernel
theorem dM_bringIn_63 : decode cM_bringIn 63 = .ok (.getfield 26, 3) := by decide +kernel
theorem dM_bringIn_66 : decode cM_bringIn 66 = .ok (.iload_n 2, 1) := by decide +kernel
theorem dM_bringIn_67 : decode cM_bringIn 67 = .ok (.iaload, 1) := by decide +kernel
theorem dM_bringIn_68 : decode cM_bringIn 68 = .ok (.iconst 1, 1) := by decide +kernel
theorem dM_bringIn_69 : decode cM_bringIn 69 = .ok (.if_icmp .ne 16, 3) := by decide +kernel
theorem dM_bringIn_72 : decode cM_bringIn 72 = .ok (.aload_n 0, 1) := by decide +kernel
theorem dM_bringIn_73 : decode cM_bringIn 73 = .ok (.iload_n 2, 1) := by decide +kernel
theorem dM_bringIn_74 : decode cM_bringIn 74 = .ok (.invokevirtual 64, 3) := by decide +kernel
theorem dM_bringIn_77 : decode cM_bringIn 77 = .ok (.ifCond .ne 8, 3) := by decide +kernel
theorem dM_bringIn_80 : decode cM_bringIn 80 = .ok (.aload_n 0, 1) := by decide +kernel
theorem dM_bringIn_81 : decode cM_bringIn 81 = .ok (.iload_n 2, 1) := by decide +kernel
theorem dM_bringIn_82 : decode cM_bringIn 82 = .ok (.invokevirtual 67, 3) := by decide +kernel
theorem dM_bringIn_85 : decode cM_bringIn 85 = .ok (.iinc 2 1, 3) := by decide +kernel
theorem dM_bringIn_88 : decode cM_bringIn 88 = .ok (.goto (-56), 3) := by decide +kernel
theorem dM_bringIn_91 : decode cM_bringIn 91 = .ok (.return_, 1) := by decide +kernel
theorem dM_touch_0 : decode cM_touch 0 = .ok (.aload_n 0, 1) := by decide +kernel
theorem dM_touch_1 : decode cM_touch 1 = .ok (.getfield 26, 3) := by decide +kernel
theorem dM_touch_4 : decode cM_touch 4 = .ok (.iload_n 1, 1) := by decide +kernel
theorem dM_touch_5 : decode cM_touch 5 = .ok (.iaload, 1) := by decide +kernel
theorem dM_touch_6 : decode cM_touch 6 = .ok (.iconst 2, 1) := by decide +kernel
theorem dM_touch_7 : decode cM_touch 7 = .ok (.if_icmp .ne 18, 3) := by decide +kernel
theorem dM_touch_10 : decode cM_touch 10 = .ok (.aload_n 0, 1) := by decide +kernel
theorem dM_touch_11 : decode cM_touch 11 = .ok (.dup, 1) := by decide +kernel
theorem dM_touch_12 : decode cM_touch 12 = .ok (.getfield 70, 3) := by decide +kernel
theorem dM_touch_15 : decode cM_touch 15 = .ok (.iconst 1, 1) := by decide +kernel
theorem dM_touch_16 : decode cM_touch 16 = .ok (.iadd, 1) := by decide +kernel
theorem dM_touch_17 : decode cM_touch 17 = .ok (.putfield 70, 3) := by decide +kernel
theorem dM_touch_20 : decode cM_touch 20 = .ok (.aload_n 0, 1) := by decide +kernel
theorem dM_touch_21 : decode cM_touch 21 = .ok (.iload_n 1, 1) := by decide +kernel
theorem dM_touch_22 : decode cM_touch 22 = .ok (.invokevirtual 73, 3) := by decide +kernel
theorem dM_touch_25 : decode cM_touch 25 = .ok (.aload_n 0, 1) := by decide +kernel
theorem dM_touch_26 : decode cM_touch 26 = .ok (.getfield 29, 3) := by decide +kernel
theorem dM_touch_29 : decode cM_touch 29 = .ok (.iload_n 1, 1) := by decide +kernel
theorem dM_touch_30 : decode cM_touch 30 = .ok (.iconst 1, 1) := by decide +kernel
theorem dM_touch_31 : decode cM_touch 31 = .ok (.bastore, 1) := by decide +kernel
theorem dM_touch_32 : decode cM_touch 32 = .ok (.return_, 1) := by decide +kernel
theorem dM_shrink_0 : decode cM_shrink 0 = .ok (.iconst 0, 1) := by decide +kernel
theorem dM_shrink_1 : decode cM_shrink 1 = .ok (.istore_n 2, 1) := by decide +kernel
theorem dM_shrink_2 : decode cM_shrink 2 = .ok (.aload_n 0, 1) := by decide +kernel
theorem dM_shrink_3 : decode cM_shrink 3 = .ok (.invokevirtual 57, 3) := by decide +kernel
theorem dM_shrink_6 : decode cM_shrink 6 = .ok (.aload_n 0, 1) := by decide +kernel
theorem dM_shrink_7 : decode cM_shrink 7 = .ok (.getfield 35, 3) := by decide +kernel
theorem dM_shrink_10 : decode cM_shrink 10 = .ok (.if_icmp .le 14, 3) := by decide +kernel
theorem dM_shrink_13 : decode cM_shrink 13 = .ok (.aload_n 0, 1) := by decide +kernel
theorem dM_shrink_14 : decode cM_shrink 14 = .ok (.iload_n 1, 1) := by decide +kernel
theorem dM_shrink_15 : decode cM_shrink 15 = .ok (.invokevirtual 61, 3) := by decide +kernel
theorem dM_shrink_18 : decode cM_shrink 18 = .ok (.iinc 2 1, 3) := by decide +kernel
theorem dM_shrink_21 : decode cM_shrink 21 = .ok (.goto (-19), 3) := by decide +kernel
theorem dM_shrink_24 : decode cM_shrink 24 = .ok (.iload_n 2, 1) := by decide +kernel
theorem dM_shrink_25 : decode cM_shrink 25 = .ok (.ireturn, 1) := by decide +kernel
theorem dM_held_0 : decode cM_held 0 = .ok (.aload_n 0, 1) := by decide +kernel
theorem dM_held_1 : decode cM_held 1 = .ok (.getfield 20, 3) := by decide +kernel
theorem dM_held_4 : decode cM_held 4 = .ok (.iload_n 1, 1) := by decide +kernel
theorem dM_held_5 : decode cM_held 5 = .ok (.baload, 1) := by decide +kernel
theorem dM_held_6 : decode cM_held 6 = .ok (.istore_n 2, 1) := by decide +kernel
theorem dM_held_7 : decode cM_held 7 = .ok (.iconst 0, 1) := by decide +kernel
theorem dM_held_8 : decode cM_held 8 = .ok (.istore_n 3, 1) := by decide +kernel
theorem dM_held_9 : decode cM_held 9 = .ok (.iload_n 3, 1) := by decide +kernel
theorem dM_held_10 : decode cM_held 10 = .ok (.iconst 4, 1) := by decide +kernel
theorem dM_held_11 : decode cM_held 11 = .ok (.if_icmp .ge 29, 3) := by decide +kernel
theorem dM_held_14 : decode cM_held 14 = .ok (.iload_n 2, 1) := by decide +kernel
theorem dM_held_15 : decode cM_held 15 = .ok (.ifCond .ne 13, 3) := by decide +kernel
theorem dM_held_18 : decode cM_held 18 = .ok (.aload_n 0, 1) := by decide +kernel
theorem dM_held_19 : decode cM_held 19 = .ok (.getfield 32, 3) := by decide +kernel
theorem dM_held_22 : decode cM_held 22 = .ok (.iload_n 3, 1) := by decide +kernel
theorem dM_held_23 : decode cM_held 23 = .ok (.iaload, 1) := by decide +kernel
theorem dM_held_24 : decode cM_held 24 = .ok (.iload_n 1, 1) := by decide +kernel
theorem dM_held_25 : decode cM_held 25 = .ok (.if_icmp .ne 7, 3) := by decide +kernel
theorem dM_held_28 : decode cM_held 28 = .ok (.iconst 1, 1) := by decide +kernel
theorem dM_held_29 : decode cM_held 29 = .ok (.goto 4, 3) := by decide +kernel
theorem dM_held_32 : decode cM_held 32 = .ok (.iconst 0, 1) := by decide +kernel
theorem dM_held_33 : decode cM_held 33 = .ok (.istore_n 2, 1) := by decide +kernel
theorem dM_held_34 : decode cM_held 34 = .ok (.iinc 3 1, 3) := by decide +kernel
theorem dM_held_37 : decode cM_held 37 = .ok (.goto (-28), 3) := by decide +kernel
theorem dM_held_40 : decode cM_held 40 = .ok (.iconst 0, 1) := by decide +kernel
theorem dM_held_41 : decode cM_held 41 = .ok (.istore_n 3, 1) := by decide +kernel
theorem dM_held_42 : decode cM_held 42 = .ok (.iload_n 3, 1) := by decide +kernel
theorem dM_held_43 : decode cM_held 43 = .ok (.bipush 64, 2) := by decide +kernel
theorem dM_held_45 : decode cM_held 45 = .ok (.if_icmp .ge 40, 3) := by decide +kernel
theorem dM_held_48 : decode cM_held 48 = .ok (.iload_n 2, 1) := by decide +kernel
theorem dM_held_49 : decode cM_held 49 = .ok (.ifCond .ne 24, 3) := by decide +kernel
theorem dM_held_52 : decode cM_held 52 = .ok (.aload_n 0, 1) := by decide +kernel
theorem dM_held_53 : decode cM_held 53 = .ok (.getfield 23, 3) := by decide +kernel
theorem dM_held_56 : decode cM_held 56 = .ok (.iload_n 3, 1) := by decide +kernel
theorem dM_held_57 : decode cM_held 57 = .ok (.iconst 2, 1) := by decide +kernel
theorem dM_held_58 : decode cM_held 58 = .ok (.idiv, 1) := by decide +kernel
theorem dM_held_59 : decode cM_held 59 = .ok (.baload, 1) := by decide +kernel
theorem dM_held_60 : decode cM_held 60 = .ok (.ifCond .eq 17, 3) := by decide +kernel
theorem dM_held_63 : decode cM_held 63 = .ok (.aload_n 0, 1) := by decide +kernel
theorem dM_held_64 : decode cM_held 64 = .ok (.getfield 17, 3) := by decide +kernel
theorem dM_held_67 : decode cM_held 67 = .ok (.iload_n 3, 1) := by decide +kernel
theorem dM_held_68 : decode cM_held 68 = .ok (.iaload, 1) := by decide +kernel
theorem dM_held_69 : decode cM_held 69 = .ok (.iload_n 1, 1) := by decide +kernel
theorem dM_held_70 : decode cM_held 70 = .ok (.if_icmp .ne 7, 3) := by decide +kernel
theorem dM_held_73 : decode cM_held 73 = .ok (.iconst 1, 1) := by decide +kernel
theorem dM_held_74 : decode cM_held 74 = .ok (.goto 4, 3) := by decide +kernel
theorem dM_held_77 : decode cM_held 77 = .ok (.iconst 0, 1) := by decide +kernel
theorem dM_held_78 : decode cM_held 78 = .ok (.istore_n 2, 1) := by decide +kernel
theorem dM_held_79 : decode cM_held 79 = .ok (.iinc 3 1, 3) := by decide +kernel
theorem dM_held_82 : decode cM_held 82 = .ok (.goto (-40), 3) := by decide +kernel
theorem dM_held_85 : decode cM_held 85 = .ok (.iload_n 2, 1) := by decide +kernel
theorem dM_held_86 : decode cM_held 86 = .ok (.ireturn, 1) := by decide +kernel
theorem dM_within_0 : decode cM_within 0 = .ok (.iconst 0, 1) := by decide +kernel
theorem dM_within_1 : decode cM_within 1 = .ok (.istore_n 1, 1) := by decide +kernel
theorem dM_within_2 : decode cM_within 2 = .ok (.iload_n 1, 1) := by decide +kernel
theorem dM_within_3 : decode cM_within 3 = .ok (.bipush 32, 2) := by decide +kernel
theorem dM_within_5 : decode cM_within 5 = .ok (.if_icmp .ge 16, 3) := by decide +kernel
theorem dM_within_8 : decode cM_within 8 = .ok (.aload_n 0, 1) := by decide +kernel
theorem dM_within_9 : decode cM_within 9 = .ok (.getfield 23, 3) := by decide +kernel
theorem dM_within_12 : decode cM_within 12 = .ok (.iload_n 1, 1) := by decide +kernel
theorem dM_within_13 : decode cM_within 13 = .ok (.iconst 0, 1) := by decide +kernel
theorem dM_within_14 : decode cM_within 14 = .ok (.bastore, 1) := by decide +kernel
theorem dM_within_15 : decode cM_within 15 = .ok (.iinc 1 1, 3) := by decide +kernel
theorem dM_within_18 : decode cM_within 18 = .ok (.goto (-16), 3) := by decide +kernel
theorem dM_within_21 : decode cM_within 21 = .ok (.iconst 1, 1) := by decide +kernel
theorem dM_within_22 : decode cM_within 22 = .ok (.istore_n 1, 1) := by decide +kernel
theorem dM_within_23 : decode cM_within 23 = .ok (.iload_n 1, 1) := by decide +kernel
theorem dM_within_24 : decode cM_within 24 = .ok (.ifCond .eq 69, 3) := by decide +kernel
theorem dM_within_27 : decode cM_within 27 = .ok (.iconst 0, 1) := by decide +kernel
theorem dM_within_28 : decode cM_within 28 = .ok (.istore_n 1, 1) := by decide +kernel
theorem dM_within_29 : decode cM_within 29 = .ok (.iconst 0, 1) := by decide +kernel
theorem dM_within_30 : decode cM_within 30 = .ok (.istore_n 2, 1) := by decide +kernel
theorem dM_within_31 : decode cM_within 31 = .ok (.iload_n 2, 1) := by decide +kernel
theorem dM_within_32 : decode cM_within 32 = .ok (.bipush 32, 2) := by decide +kernel
theorem dM_within_34 : decode cM_within 34 = .ok (.if_icmp .ge 56, 3) := by decide +kernel
theorem dM_within_37 : decode cM_within 37 = .ok (.aload_n 0, 1) := by decide +kernel
theorem dM_within_38 : decode cM_within 38 = .ok (.getfield 23, 3) := by decide +kernel
theorem dM_within_41 : decode cM_within 41 = .ok (.iload_n 2, 1) := by decide +kernel
theorem dM_within_42 : decode cM_within 42 = .ok (.baload, 1) := by decide +kernel
theorem dM_within_43 : decode cM_within 43 = .ok (.ifCond .ne 41, 3) := by decide +kernel
theorem dM_within_46 : decode cM_within 46 = .ok (.aload_n 0, 1) := by decide +kernel
theorem dM_within_47 : decode cM_within 47 = .ok (.getfield 7, 3) := by decide +kernel
theorem dM_within_50 : decode cM_within 50 = .ok (.iload_n 2, 1) := by decide +kernel
theorem dM_within_51 : decode cM_within 51 = .ok (.baload, 1) := by decide +kernel
theorem dM_within_52 : decode cM_within 52 = .ok (.ifCond .eq 32, 3) := by decide +kernel
theorem dM_within_55 : decode cM_within 55 = .ok (.aload_n 0, 1) := by decide +kernel
theorem dM_within_56 : decode cM_within 56 = .ok (.getfield 26, 3) := by decide +kernel
theorem dM_within_59 : decode cM_within 59 = .ok (.iload_n 2, 1) := by decide +kernel
theorem dM_within_60 : decode cM_within 60 = .ok (.iconst 4, 1) := by decide +kernel
theorem dM_within_61 : decode cM_within 61 = .ok (.idiv, 1) := by decide +kernel
theorem dM_within_62 : decode cM_within 62 = .ok (.iaload, 1) := by decide +kernel
theorem dM_within_63 : decode cM_within 63 = .ok (.iconst 1, 1) := by decide +kernel
theorem dM_within_64 : decode cM_within 64 = .ok (.if_icmp .ne 20, 3) := by decide +kernel
theorem dM_within_67 : decode cM_within 67 = .ok (.aload_n 0, 1) := by decide +kernel
theorem dM_within_68 : decode cM_within 68 = .ok (.iload_n 2, 1) := by decide +kernel
theorem dM_within_69 : decode cM_within 69 = .ok (.invokevirtual 76, 3) := by decide +kernel
theorem dM_within_72 : decode cM_within 72 = .ok (.ifCond .eq 12, 3) := by decide +kernel
theorem dM_within_75 : decode cM_within 75 = .ok (.aload_n 0, 1) := by decide +kernel
theorem dM_within_76 : decode cM_within 76 = .ok (.getfield 23, 3) := by decide +kernel
theorem dM_within_79 : decode cM_within 79 = .ok (.iload_n 2, 1) := by decide +kernel
theorem dM_within_80 : decode cM_within 80 = .ok (.iconst 1, 1) := by decide +kernel
theorem dM_within_81 : decode cM_within 81 = .ok (.bastore, 1) := by decide +kernel
theorem dM_within_82 : decode cM_within 82 = .ok (.iconst 1, 1) := by decide +kernel
theorem dM_within_83 : decode cM_within 83 = .ok (.istore_n 1, 1) := by decide +kernel
theorem dM_within_84 : decode cM_within 84 = .ok (.iinc 2 1, 3) := by decide +kernel
theorem dM_within_87 : decode cM_within 87 = .ok (.goto (-56), 3) := by decide +kernel
theorem dM_within_90 : decode cM_within 90 = .ok (.goto (-67), 3) := by decide +kernel
theorem dM_within_93 : decode cM_within 93 = .ok (.iconst 0, 1) := by decide +kernel
theorem dM_within_94 : decode cM_within 94 = .ok (.istore_n 2, 1) := by decide +kernel
theorem dM_within_95 : decode cM_within 95 = .ok (.iconst 0, 1) := by decide +kernel
theorem dM_within_96 : decode cM_within 96 = .ok (.istore_n 3, 1) := by decide +kernel
theorem dM_within_97 : decode cM_within 97 = .ok (.iload_n 3, 1) := by decide +kernel
theorem dM_within_98 : decode cM_within 98 = .ok (.bipush 32, 2) := by decide +kernel
theorem dM_within_100 : decode cM_within 100 = .ok (.if_icmp .ge 56, 3) := by decide +kernel
theorem dM_within_103 : decode cM_within 103 = .ok (.aload_n 0, 1) := by decide +kernel
theorem dM_within_104 : decode cM_within 104 = .ok (.getfield 7, 3) := by decide +kernel
theorem dM_within_107 : decode cM_within 107 = .ok (.iload_n 3, 1) := by decide +kernel
theorem dM_within_108 : decode cM_within 108 = .ok (.baload, 1) := by decide +kernel
theorem dM_within_109 : decode cM_within 109 = .ok (.ifCond .eq 41, 3) := by decide +kernel
theorem dM_within_112 : decode cM_within 112 = .ok (.aload_n 0, 1) := by decide +kernel
theorem dM_within_113 : decode cM_within 113 = .ok (.getfield 26, 3) := by decide +kernel
theorem dM_within_116 : decode cM_within 116 = .ok (.iload_n 3, 1) := by decide +kernel
theorem dM_within_117 : decode cM_within 117 = .ok (.iconst 4, 1) := by decide +kernel
theorem dM_within_118 : decode cM_within 118 = .ok (.idiv, 1) := by decide +kernel
theorem dM_within_119 : decode cM_within 119 = .ok (.iaload, 1) := by decide +kernel
theorem dM_within_120 : decode cM_within 120 = .ok (.iconst 1, 1) := by decide +kernel
theorem dM_within_121 : decode cM_within 121 = .ok (.if_icmp .ne 29, 3) := by decide +kernel
theorem dM_within_124 : decode cM_within 124 = .ok (.aload_n 0, 1) := by decide +kernel
theorem dM_within_125 : decode cM_within 125 = .ok (.getfield 23, 3) := by decide +kernel
theorem dM_within_128 : decode cM_within 128 = .ok (.iload_n 3, 1) := by decide +kernel
theorem dM_within_129 : decode cM_within 129 = .ok (.baload, 1) := by decide +kernel
theorem dM_within_130 : decode cM_within 130 = .ok (.ifCond .ne 20, 3) := by decide +kernel
theorem dM_within_133 : decode cM_within 133 = .ok (.aload_n 0, 1) := by decide +kernel
theorem dM_within_134 : decode cM_within 134 = .ok (.getfield 7, 3) := by decide +kernel
theorem dM_within_137 : decode cM_within 137 = .ok (.iload_n 3, 1) := by decide +kernel
theorem dM_within_138 : decode cM_within 138 = .ok (.iconst 0, 1) := by decide +kernel
theorem dM_within_139 : decode cM_within 139 = .ok (.bastore, 1) := by decide +kernel
theorem dM_within_140 : decode cM_within 140 = .ok (.aload_n 0, 1) := by decide +kernel
theorem dM_within_141 : decode cM_within 141 = .ok (.getfield 20, 3) := by decide +kernel
theorem dM_within_144 : decode cM_within 144 = .ok (.iload_n 3, 1) := by decide +kernel
theorem dM_within_145 : decode cM_within 145 = .ok (.iconst 0, 1) := by decide +kernel
theorem dM_within_146 : decode cM_within 146 = .ok (.bastore, 1) := by decide +kernel
theorem dM_within_147 : decode cM_within 147 = .ok (.iinc 2 1, 3) := by decide +kernel
theorem dM_within_150 : decode cM_within 150 = .ok (.iinc 3 1, 3) := by decide +kernel
theorem dM_within_153 : decode cM_within 153 = .ok (.goto (-56), 3) := by decide +kernel
theorem dM_within_156 : decode cM_within 156 = .ok (.iconst 0, 1) := by decide +kernel
theorem dM_within_157 : decode cM_within 157 = .ok (.istore_n 3, 1) := by decide +kernel
theorem dM_within_158 : decode cM_within 158 = .ok (.iload_n 3, 1) := by decide +kernel
theorem dM_within_159 : decode cM_within 159 = .ok (.bipush 8, 2) := by decide +kernel
theorem dM_within_161 : decode cM_within 161 = .ok (.if_icmp .ge 88, 3) := by decide +kernel
theorem dM_within_164 : decode cM_within 164 = .ok (.aload_n 0, 1) := by decide +kernel
theorem dM_within_165 : decode cM_within 165 = .ok (.getfield 26, 3) := by decide +kernel
theorem dM_within_168 : decode cM_within 168 = .ok (.iload_n 3, 1) := by decide +kernel
theorem dM_within_169 : decode cM_within 169 = .ok (.iaload, 1) := by decide +kernel
theorem dM_within_170 : decode cM_within 170 = .ok (.iconst 1, 1) := by decide +kernel
theorem dM_within_171 : decode cM_within 171 = .ok (.if_icmp .ne 7, 3) := by decide +kernel
theorem dM_within_174 : decode cM_within 174 = .ok (.iconst 1, 1) := by decide +kernel
theorem dM_within_175 : decode cM_within 175 = .ok (.goto 4, 3) := by decide +kernel
theorem dM_within_178 : decode cM_within 178 = .ok (.iconst 0, 1) := by decide +kernel
theorem dM_within_179 : decode cM_within 179 = .ok (.istore 4, 2) := by decide +kernel
theorem dM_within_181 : decode cM_within 181 = .ok (.iconst 4, 1) := by decide +kernel
theorem dM_within_182 : decode cM_within 182 = .ok (.iload_n 3, 1) := by decide +kernel
theorem dM_within_183 : decode cM_within 183 = .ok (.imul, 1) := by decide +kernel
theorem dM_within_184 : decode cM_within 184 = .ok (.istore 5, 2) := by decide +kernel
theorem dM_within_186 : decode cM_within 186 = .ok (.iload 5, 2) := by decide +kernel
theorem dM_within_188 : decode cM_within 188 = .ok (.iconst 4, 1) := by decide +kernel
theorem dM_within_189 : decode cM_within 189 = .ok (.iload_n 3, 1) := by decide +kernel
theorem dM_within_190 : decode cM_within 190 = .ok (.imul, 1) := by decide +kernel
theorem dM_within_191 : decode cM_within 191 = .ok (.iconst 4, 1) := by decide +kernel
theorem dM_within_192 : decode cM_within 192 = .ok (.iadd, 1) := by decide +kernel
theorem dM_within_193 : decode cM_within 193 = .ok (.if_icmp .ge 31, 3) := by decide +kernel
theorem dM_within_196 : decode cM_within 196 = .ok (.iload 4, 2) := by decide +kernel
theorem dM_within_198 : decode cM_within 198 = .ok (.ifCond .eq 17, 3) := by decide +kernel
theorem dM_within_201 : decode cM_within 201 = .ok (.aload_n 0, 1) := by decide +kernel
theorem dM_within_202 : decode cM_within 202 = .ok (.getfield 7, 3) := by decide +kernel
theorem dM_within_205 : decode cM_within 205 = .ok (.iload 5, 2) := by decide +kernel
theorem dM_within_207 : decode cM_within 207 = .ok (.baload, 1) := by decide +kernel
theorem dM_within_208 : decode cM_within 208 = .ok (.ifCond .ne 7, 3) := by decide +kernel
theorem dM_within_211 : decode cM_within 211 = .ok (.iconst 1, 1) := by decide +kernel
theorem dM_within_212 : decode cM_within 212 = .ok (.goto 4, 3) := by decide +kernel
theorem dM_within_215 : decode cM_within 215 = .ok (.iconst 0, 1) := by decide +kernel
theorem dM_within_216 : decode cM_within 216 = .ok (.istore 4, 2) := by decide +kernel
theorem dM_within_218 : decode cM_within 218 = .ok (.iinc 5 1, 3) := by decide +kernel
theorem dM_within_221 : decode cM_within 221 = .ok (.goto (-35), 3) := by decide +kernel
theorem dM_within_224 : decode cM_within 224 = .ok (.iload 4, 2) := by decide +kernel
theorem dM_within_226 : decode cM_within 226 = .ok (.ifCond .eq 17, 3) := by decide +kernel
theorem dM_within_229 : decode cM_within 229 = .ok (.aload_n 0, 1) := by decide +kernel
theorem dM_within_230 : decode cM_within 230 = .ok (.getfield 26, 3) := by decide +kernel
theorem dM_within_233 : decode cM_within 233 = .ok (.iload_n 3, 1) := by decide +kernel
theorem dM_within_234 : decode cM_within 234 = .ok (.iconst 0, 1) := by decide +kernel
theorem dM_within_235 : decode cM_within 235 = .ok (.iastore, 1) := by decide +kernel
theorem dM_within_236 : decode cM_within 236 = .ok (.aload_n 0, 1) := by decide +kernel
theorem dM_within_237 : decode cM_within 237 = .ok (.getfield 29, 3) := by decide +kernel
theorem dM_within_240 : decode cM_within 240 = .ok (.iload_n 3, 1) := by decide +kernel
theorem dM_within_241 : decode cM_within 241 = .ok (.iconst 0, 1) := by decide +kernel
theorem dM_within_242 : decode cM_within 242 = .ok (.bastore, 1) := by decide +kernel
theorem dM_within_243 : decode cM_within 243 = .ok (.iinc 3 1, 3) := by decide +kernel
theorem dM_within_246 : decode cM_within 246 = .ok (.goto (-88), 3) := by decide +kernel
theorem dM_within_249 : decode cM_within 249 = .ok (.iload_n 2, 1) := by decide +kernel
theorem dM_within_250 : decode cM_within 250 = .ok (.ireturn, 1) := by decide +kernel
theorem dM_all_0 : decode cM_all 0 = .ok (.iconst 0, 1) := by decide +kernel
theorem dM_all_1 : decode cM_all 1 = .ok (.istore_n 1, 1) := by decide +kernel
theorem dM_all_2 : decode cM_all 2 = .ok (.iload_n 1, 1) := by decide +kernel
theorem dM_all_3 : decode cM_all 3 = .ok (.bipush 8, 2) := by decide +kernel
theorem dM_all_5 : decode cM_all 5 = .ok (.if_icmp .ge 36, 3) := by decide +kernel
theorem dM_all_8 : decode cM_all 8 = .ok (.aload_n 0, 1) := by decide +kernel
theorem dM_all_9 : decode cM_all 9 = .ok (.getfield 26, 3) := by decide +kernel
theorem dM_all_12 : decode cM_all 12 = .ok (.iload_n 1, 1) := by decide +kernel
theorem dM_all_13 : decode cM_all 13 = .ok (.iaload, 1) := by decide +kernel
theorem dM_all_14 : decode cM_all 14 = .ok (.iconst 2, 1) := by decide +kernel
theorem dM_all_15 : decode cM_all 15 = .ok (.if_icmp .ne 20, 3) := by decide +kernel
theorem dM_all_18 : decode cM_all 18 = .ok (.aload_n 0, 1) := by decide +kernel
theorem dM_all_19 : decode cM_all 19 = .ok (.getfield 26, 3) := by decide +kernel
theorem dM_all_22 : decode cM_all 22 = .ok (.iload_n 1, 1) := by decide +kernel
theorem dM_all_23 : decode cM_all 23 = .ok (.iconst 1, 1) := by decide +kernel
theorem dM_all_24 : decode cM_all 24 = .ok (.iastore, 1) := by decide +kernel
theorem dM_all_25 : decode cM_all 25 = .ok (.aload_n 0, 1) := by decide +kernel
theorem dM_all_26 : decode cM_all 26 = .ok (.dup, 1) := by decide +kernel
theorem dM_all_27 : decode cM_all 27 = .ok (.getfield 70, 3) := by decide +kernel
theorem dM_all_30 : decode cM_all 30 = .ok (.iconst 1, 1) := by decide +kernel
theorem dM_all_31 : decode cM_all 31 = .ok (.iadd, 1) := by decide +kernel
theorem dM_all_32 : decode cM_all 32 = .ok (.putfield 70, 3) := by decide +kernel
theorem dM_all_35 : decode cM_all 35 = .ok (.iinc 1 1, 3) := by decide +kernel
theorem dM_all_38 : decode cM_all 38 = .ok (.goto (-36), 3) := by decide +kernel
theorem dM_all_41 : decode cM_all 41 = .ok (.iconst 0, 1) := by decide +kernel
theorem dM_all_42 : decode cM_all 42 = .ok (.istore_n 1, 1) := by decide +kernel
theorem dM_all_43 : decode cM_all 43 = .ok (.iload_n 1, 1) := by decide +kernel
theorem dM_all_44 : decode cM_all 44 = .ok (.bipush 32, 2) := by decide +kernel
theorem dM_all_46 : decode cM_all 46 = .ok (.if_icmp .ge 16, 3) := by decide +kernel
theorem dM_all_49 : decode cM_all 49 = .ok (.aload_n 0, 1) := by decide +kernel
theorem dM_all_50 : decode cM_all 50 = .ok (.getfield 20, 3) := by decide +kernel
theorem dM_all_53 : decode cM_all 53 = .ok (.iload_n 1, 1) := by decide +kernel
theorem dM_all_54 : decode cM_all 54 = .ok (.iconst 0, 1) := by decide +kernel
theorem dM_all_55 : decode cM_all 55 = .ok (.bastore, 1) := by decide +kernel
theorem dM_all_56 : decode cM_all 56 = .ok (.iinc 1 1, 3) := by decide +kernel
theorem dM_all_59 : decode cM_all 59 = .ok (.goto (-16), 3) := by decide +kernel
theorem dM_all_62 : decode cM_all 62 = .ok (.aload_n 0, 1) := by decide +kernel
theorem dM_all_63 : decode cM_all 63 = .ok (.invokevirtual 80, 3) := by decide +kernel
theorem dM_all_66 : decode cM_all 66 = .ok (.ireturn, 1) := by decide +kernel
theorem dM_freeOnPagesIn_0 : decode cM_freeOnPagesIn 0 = .ok (.iconst 0, 1) := by decide +kernel
theorem dM_freeOnPagesIn_1 : decode cM_freeOnPagesIn 1 = .ok (.istore_n 1, 1) := by decide +kernel
theorem dM_freeOnPagesIn_2 : decode cM_freeOnPagesIn 2 = .ok (.iload_n 1, 1) := by decide +kernel
theorem dM_freeOnPagesIn_3 : decode cM_freeOnPagesIn 3 = .ok (.bipush 32, 2) := by decide +kernel
theorem dM_freeOnPagesIn_5 : decode cM_freeOnPagesIn 5 = .ok (.if_icmp .ge 32, 3) := by decide +kernel
theorem dM_freeOnPagesIn_8 : decode cM_freeOnPagesIn 8 = .ok (.aload_n 0, 1) := by decide +kernel
theorem dM_freeOnPagesIn_9 : decode cM_freeOnPagesIn 9 = .ok (.getfield 7, 3) := by decide +kernel
theorem dM_freeOnPagesIn_12 : decode cM_freeOnPagesIn 12 = .ok (.iload_n 1, 1) := by decide +kernel
theorem dM_freeOnPagesIn_13 : decode cM_freeOnPagesIn 13 = .ok (.baload, 1) := by decide +kernel
theorem dM_freeOnPagesIn_14 : decode cM_freeOnPagesIn 14 = .ok (.ifCond .ne 17, 3) := by decide +kernel
theorem dM_freeOnPagesIn_17 : decode cM_freeOnPagesIn 17 = .ok (.aload_n 0, 1) := by decide +kernel
theorem dM_freeOnPagesIn_18 : decode cM_freeOnPagesIn 18 = .ok (.getfield 26, 3) := by decide +kernel
theorem dM_freeOnPagesIn_21 : decode cM_freeOnPagesIn 21 = .ok (.iload_n 1, 1) := by decide +kernel
theorem dM_freeOnPagesIn_22 : decode cM_freeOnPagesIn 22 = .ok (.iconst 4, 1) := by decide +kernel
theorem dM_freeOnPagesIn_23 : decode cM_freeOnPagesIn 23 = .ok (.idiv, 1) := by decide +kernel
theorem dM_freeOnPagesIn_24 : decode cM_freeOnPagesIn 24 = .ok (.iaload, 1) := by decide +kernel
theorem dM_freeOnPagesIn_25 : decode cM_freeOnPagesIn 25 = .ok (.iconst 1, 1) := by decide +kernel
theorem dM_freeOnPagesIn_26 : decode cM_freeOnPagesIn 26 = .ok (.if_icmp .ne 5, 3) := by decide +kernel
theorem dM_freeOnPagesIn_29 : decode cM_freeOnPagesIn 29 = .ok (.iload_n 1, 1) := by decide +kernel
theorem dM_freeOnPagesIn_30 : decode cM_freeOnPagesIn 30 = .ok (.ireturn, 1) := by decide +kernel
theorem dM_freeOnPagesIn_31 : decode cM_freeOnPagesIn 31 = .ok (.iinc 1 1, 3) := by decide +kernel
theorem dM_freeOnPagesIn_34 : decode cM_freeOnPagesIn 34 = .ok (.goto (-32), 3) := by decide +kernel
theorem dM_freeOnPagesIn_37 : decode cM_freeOnPagesIn 37 = .ok (.iconst (-1), 1) := by decide +kernel
theorem dM_freeOnPagesIn_38 : decode cM_freeOnPagesIn 38 = .ok (.ireturn, 1) := by decide +kernel
theorem dM_find_0 : decode cM_find 0 = .ok (.aload_n 0, 1) := by decide +kernel
theorem dM_find_1 : decode cM_find 1 = .ok (.invokevirtual 83, 3) := by decide +kernel
theorem dM_find_4 : decode cM_find 4 = .ok (.istore_n 2, 1) := by decide +kernel
theorem dM_find_5 : decode cM_find 5 = .ok (.iconst 0, 1) := by decide +kernel
theorem dM_find_6 : decode cM_find 6 = .ok (.istore_n 3, 1) := by decide +kernel
theorem dM_find_7 : decode cM_find 7 = .ok (.iload_n 3, 1) := by decide +kernel
theorem dM_find_8 : decode cM_find 8 = .ok (.bipush 8, 2) := by decide +kernel
theorem dM_find_10 : decode cM_find 10 = .ok (.if_icmp .ge 53, 3) := by decide +kernel
theorem dM_find_13 : decode cM_find 13 = .ok (.iload_n 2, 1) := by decide +kernel
theorem dM_find_14 : decode cM_find 14 = .ok (.ifCond .ge 49, 3) := by decide +kernel
theorem dM_find_17 : decode cM_find 17 = .ok (.aload_n 0, 1) := by decide +kernel
theorem dM_find_18 : decode cM_find 18 = .ok (.getfield 26, 3) := by decide +kernel
theorem dM_find_21 : decode cM_find 21 = .ok (.iload_n 3, 1) := by decide +kernel
theorem dM_find_22 : decode cM_find 22 = .ok (.iaload, 1) := by decide +kernel
theorem dM_find_23 : decode cM_find 23 = .ok (.ifCond .ne 34, 3) := by decide +kernel
theorem dM_find_26 : decode cM_find 26 = .ok (.iload_n 1, 1) := by decide +kernel
theorem dM_find_27 : decode cM_find 27 = .ok (.ifCond .eq 19, 3) := by decide +kernel
theorem dM_find_30 : decode cM_find 30 = .ok (.aload_n 0, 1) := by decide +kernel
theorem dM_find_31 : decode cM_find 31 = .ok (.invokevirtual 57, 3) := by decide +kernel
theorem dM_find_34 : decode cM_find 34 = .ok (.aload_n 0, 1) := by decide +kernel
theorem dM_find_35 : decode cM_find 35 = .ok (.getfield 35, 3) := by decide +kernel
theorem dM_find_38 : decode cM_find 38 = .ok (.if_icmp .ne 8, 3) := by decide +kernel
theorem dM_find_41 : decode cM_find 41 = .ok (.aload_n 0, 1) := by decide +kernel
theorem dM_find_42 : decode cM_find 42 = .ok (.iconst (-1), 1) := by decide +kernel
theorem dM_find_43 : decode cM_find 43 = .ok (.invokevirtual 61, 3) := by decide +kernel
theorem dM_find_46 : decode cM_find 46 = .ok (.aload_n 0, 1) := by decide +kernel
theorem dM_find_47 : decode cM_find 47 = .ok (.getfield 26, 3) := by decide +kernel
theorem dM_find_50 : decode cM_find 50 = .ok (.iload_n 3, 1) := by decide +kernel
theorem dM_find_51 : decode cM_find 51 = .ok (.iconst 1, 1) := by decide +kernel
theorem dM_find_52 : decode cM_find 52 = .ok (.iastore, 1) := by decide +kernel
theorem dM_find_53 : decode cM_find 53 = .ok (.iconst 4, 1) := by decide +kernel
theorem dM_find_54 : decode cM_find 54 = .ok (.iload_n 3, 1) := by decide +kernel
theorem dM_find_55 : decode cM_find 55 = .ok (.imul, 1) := by decide +kernel
theorem dM_find_56 : decode cM_find 56 = .ok (.istore_n 2, 1) := by decide +kernel
theorem dM_find_57 : decode cM_find 57 = .ok (.iinc 3 1, 3) := by decide +kernel
theorem dM_find_60 : decode cM_find 60 = .ok (.goto (-53), 3) := by decide +kernel
theorem dM_find_63 : decode cM_find 63 = .ok (.iload_n 2, 1) := by decide +kernel
theorem dM_find_64 : decode cM_find 64 = .ok (.ifCond .lt 12, 3) := by decide +kernel
theorem dM_find_67 : decode cM_find 67 = .ok (.aload_n 0, 1) := by decide +kernel
theorem dM_find_68 : decode cM_find 68 = .ok (.getfield 29, 3) := by decide +kernel
theorem dM_find_71 : decode cM_find 71 = .ok (.iload_n 2, 1) := by decide +kernel
theorem dM_find_72 : decode cM_find 72 = .ok (.iconst 4, 1) := by decide +kernel
theorem dM_find_73 : decode cM_find 73 = .ok (.idiv, 1) := by decide +kernel
theorem dM_find_74 : decode cM_find 74 = .ok (.iconst 1, 1) := by decide +kernel
theorem dM_find_75 : decode cM_find 75 = .ok (.bastore, 1) := by decide +kernel
theorem dM_find_76 : decode cM_find 76 = .ok (.iload_n 2, 1) := by decide +kernel
theorem dM_find_77 : decode cM_find 77 = .ok (.ireturn, 1) := by decide +kernel
theorem dM_place_0 : decode cM_place 0 = .ok (.aload_n 0, 1) := by decide +kernel
theorem dM_place_1 : decode cM_place 1 = .ok (.getfield 7, 3) := by decide +kernel
theorem dM_place_4 : decode cM_place 4 = .ok (.iload_n 1, 1) := by decide +kernel
theorem dM_place_5 : decode cM_place 5 = .ok (.iconst 1, 1) := by decide +kernel
theorem dM_place_6 : decode cM_place 6 = .ok (.bastore, 1) := by decide +kernel
theorem dM_place_7 : decode cM_place 7 = .ok (.aload_n 0, 1) := by decide +kernel
theorem dM_place_8 : decode cM_place 8 = .ok (.getfield 13, 3) := by decide +kernel
theorem dM_place_11 : decode cM_place 11 = .ok (.iload_n 1, 1) := by decide +kernel
theorem dM_place_12 : decode cM_place 12 = .ok (.iload_n 2, 1) := by decide +kernel
theorem dM_place_13 : decode cM_place 13 = .ok (.iastore, 1) := by decide +kernel
theorem dM_place_14 : decode cM_place 14 = .ok (.aload_n 0, 1) := by decide +kernel
theorem dM_place_15 : decode cM_place 15 = .ok (.getfield 17, 3) := by decide +kernel
theorem dM_place_18 : decode cM_place 18 = .ok (.iconst 2, 1) := by decide +kernel
theorem dM_place_19 : decode cM_place 19 = .ok (.iload_n 1, 1) := by decide +kernel
theorem dM_place_20 : decode cM_place 20 = .ok (.imul, 1) := by decide +kernel
theorem dM_place_21 : decode cM_place 21 = .ok (.iconst (-1), 1) := by decide +kernel
theorem dM_place_22 : decode cM_place 22 = .ok (.iastore, 1) := by decide +kernel
theorem dM_place_23 : decode cM_place 23 = .ok (.aload_n 0, 1) := by decide +kernel
theorem dM_place_24 : decode cM_place 24 = .ok (.getfield 17, 3) := by decide +kernel
theorem dM_place_27 : decode cM_place 27 = .ok (.iconst 2, 1) := by decide +kernel
theorem dM_place_28 : decode cM_place 28 = .ok (.iload_n 1, 1) := by decide +kernel
theorem dM_place_29 : decode cM_place 29 = .ok (.imul, 1) := by decide +kernel
theorem dM_place_30 : decode cM_place 30 = .ok (.iconst 1, 1) := by decide +kernel
theorem dM_place_31 : decode cM_place 31 = .ok (.iadd, 1) := by decide +kernel
theorem dM_place_32 : decode cM_place 32 = .ok (.iconst (-1), 1) := by decide +kernel
theorem dM_place_33 : decode cM_place 33 = .ok (.iastore, 1) := by decide +kernel
theorem dM_place_34 : decode cM_place 34 = .ok (.aload_n 0, 1) := by decide +kernel
theorem dM_place_35 : decode cM_place 35 = .ok (.getfield 20, 3) := by decide +kernel
theorem dM_place_38 : decode cM_place 38 = .ok (.iload_n 1, 1) := by decide +kernel
theorem dM_place_39 : decode cM_place 39 = .ok (.iconst 0, 1) := by decide +kernel
theorem dM_place_40 : decode cM_place 40 = .ok (.bastore, 1) := by decide +kernel
theorem dM_place_41 : decode cM_place 41 = .ok (.return_, 1) := by decide +kernel
theorem dM_make_0 : decode cM_make 0 = .ok (.aload_n 0, 1) := by decide +kernel
theorem dM_make_1 : decode cM_make 1 = .ok (.iconst 0, 1) := by decide +kernel
theorem dM_make_2 : decode cM_make 2 = .ok (.putfield 39, 3) := by decide +kernel
theorem dM_make_5 : decode cM_make 5 = .ok (.iload_n 1, 1) := by decide +kernel
theorem dM_make_6 : decode cM_make 6 = .ok (.invokestatic 86, 3) := by decide +kernel
theorem dM_make_9 : decode cM_make 9 = .ok (.ifCond .ne 9, 3) := by decide +kernel
theorem dM_make_12 : decode cM_make 12 = .ok (.aload_n 0, 1) := by decide +kernel
theorem dM_make_13 : decode cM_make 13 = .ok (.iconst 1, 1) := by decide +kernel
theorem dM_make_14 : decode cM_make 14 = .ok (.invokevirtual 89, 3) := by decide +kernel
theorem dM_make_17 : decode cM_make 17 = .ok (.ireturn, 1) := by decide +kernel
theorem dM_make_18 : decode cM_make 18 = .ok (.aload_n 0, 1) := by decide +kernel
theorem dM_make_19 : decode cM_make 19 = .ok (.iconst 1, 1) := by decide +kernel
theorem dM_make_20 : decode cM_make 20 = .ok (.invokevirtual 92, 3) := by decide +kernel
theorem dM_make_23 : decode cM_make 23 = .ok (.istore_n 3, 1) := by decide +kernel
theorem dM_make_24 : decode cM_make 24 = .ok (.iload_n 3, 1) := by decide +kernel
theorem dM_make_25 : decode cM_make 25 = .ok (.ifCond .ge 14, 3) := by decide +kernel
theorem dM_make_28 : decode cM_make 28 = .ok (.aload_n 0, 1) := by decide +kernel
theorem dM_make_29 : decode cM_make 29 = .ok (.invokevirtual 80, 3) := by decide +kernel
theorem dM_make_32 : decode cM_make 32 = .ok (.pop, 1) := by decide +kernel
theorem dM_make_33 : decode cM_make 33 = .ok (.aload_n 0, 1) := by decide +kernel
theorem dM_make_34 : decode cM_make 34 = .ok (.iconst 1, 1) := by decide +kernel
theorem dM_make_35 : decode cM_make 35 = .ok (.invokevirtual 92, 3) := by decide +kernel
theorem dM_make_38 : decode cM_make 38 = .ok (.istore_n 3, 1) := by decide +kernel
theorem dM_make_39 : decode cM_make 39 = .ok (.iload_n 3, 1) := by decide +kernel
theorem dM_make_40 : decode cM_make 40 = .ok (.ifCond .ge 7, 3) := by decide +kernel
theorem dM_make_43 : decode cM_make 43 = .ok (.iconst 1, 1) := by decide +kernel
theorem dM_make_44 : decode cM_make 44 = .ok (.goto 4, 3) := by decide +kernel
theorem dM_make_47 : decode cM_make 47 = .ok (.iconst 0, 1) := by decide +kernel
theorem dM_make_48 : decode cM_make 48 = .ok (.istore 4, 2) := by decide +kernel
theorem dM_make_50 : decode cM_make 50 = .ok (.iload 4, 2) := by decide +kernel
theorem dM_make_52 : decode cM_make 52 = .ok (.ifCond .eq 14, 3) := by decide +kernel
theorem dM_make_55 : decode cM_make 55 = .ok (.aload_n 0, 1) := by decide +kernel
theorem dM_make_56 : decode cM_make 56 = .ok (.invokevirtual 96, 3) := by decide +kernel
theorem dM_make_59 : decode cM_make 59 = .ok (.pop, 1) := by decide +kernel
theorem dM_make_60 : decode cM_make 60 = .ok (.aload_n 0, 1) := by decide +kernel
theorem dM_make_61 : decode cM_make 61 = .ok (.iconst 0, 1) := by decide +kernel
theorem dM_make_62 : decode cM_make 62 = .ok (.invokevirtual 92, 3) := by decide +kernel
theorem dM_make_65 : decode cM_make 65 = .ok (.istore_n 3, 1) := by decide +kernel
theorem dM_make_66 : decode cM_make 66 = .ok (.iload_n 3, 1) := by decide +kernel
theorem dM_make_67 : decode cM_make 67 = .ok (.ifCond .lt 9, 3) := by decide +kernel
theorem dM_make_70 : decode cM_make 70 = .ok (.aload_n 0, 1) := by decide +kernel
theorem dM_make_71 : decode cM_make 71 = .ok (.iload_n 3, 1) := by decide +kernel
theorem dM_make_72 : decode cM_make 72 = .ok (.iload_n 2, 1) := by decide +kernel
theorem dM_make_73 : decode cM_make 73 = .ok (.invokevirtual 99, 3) := by decide +kernel
theorem dM_make_76 : decode cM_make 76 = .ok (.iload 4, 2) := by decide +kernel
theorem dM_make_78 : decode cM_make 78 = .ok (.ifCond .eq 19, 3) := by decide +kernel
theorem dM_make_81 : decode cM_make 81 = .ok (.aload_n 0, 1) := by decide +kernel
theorem dM_make_82 : decode cM_make 82 = .ok (.iload_n 3, 1) := by decide +kernel
theorem dM_make_83 : decode cM_make 83 = .ok (.ifCond .ge 7, 3) := by decide +kernel
theorem dM_make_86 : decode cM_make 86 = .ok (.iconst (-1), 1) := by decide +kernel
theorem dM_make_87 : decode cM_make 87 = .ok (.goto 6, 3) := by decide +kernel
theorem dM_make_90 : decode cM_make 90 = .ok (.iload_n 3, 1) := by decide +kernel
theorem dM_make_91 : decode cM_make 91 = .ok (.iconst 4, 1) := by decide +kernel
theorem dM_make_92 : decode cM_make 92 = .ok (.idiv, 1) := by decide +kernel
theorem dM_make_93 : decode cM_make 93 = .ok (.invokevirtual 103, 3) := by decide +kernel
theorem dM_make_96 : decode cM_make 96 = .ok (.pop, 1) := by decide +kernel
theorem dM_make_97 : decode cM_make 97 = .ok (.iload_n 3, 1) := by decide +kernel
theorem dM_make_98 : decode cM_make 98 = .ok (.ifCond .ge 9, 3) := by decide +kernel
theorem dM_make_101 : decode cM_make 101 = .ok (.aload_n 0, 1) := by decide +kernel
theorem dM_make_102 : decode cM_make 102 = .ok (.iconst 2, 1) := by decide +kernel
theorem dM_make_103 : decode cM_make 103 = .ok (.invokevirtual 89, 3) := by decide +kernel
theorem dM_make_106 : decode cM_make 106 = .ok (.ireturn, 1) := by decide +kernel
theorem dM_make_107 : decode cM_make 107 = .ok (.aload_n 0, 1) := by decide +kernel
theorem dM_make_108 : decode cM_make 108 = .ok (.getfield 32, 3) := by decide +kernel
theorem dM_make_111 : decode cM_make 111 = .ok (.iload_n 1, 1) := by decide +kernel
theorem dM_make_112 : decode cM_make 112 = .ok (.iload_n 3, 1) := by decide +kernel
theorem dM_make_113 : decode cM_make 113 = .ok (.iastore, 1) := by decide +kernel
theorem dM_make_114 : decode cM_make 114 = .ok (.iload_n 3, 1) := by decide +kernel
theorem dM_make_115 : decode cM_make 115 = .ok (.ireturn, 1) := by decide +kernel
theorem dM_store_0 : decode cM_store 0 = .ok (.aload_n 0, 1) := by decide +kernel
theorem dM_store_1 : decode cM_store 1 = .ok (.iconst 0, 1) := by decide +kernel
theorem dM_store_2 : decode cM_store 2 = .ok (.putfield 39, 3) := by decide +kernel
theorem dM_store_5 : decode cM_store 5 = .ok (.iload_n 1, 1) := by decide +kernel
theorem dM_store_6 : decode cM_store 6 = .ok (.invokestatic 86, 3) := by decide +kernel
theorem dM_store_9 : decode cM_store 9 = .ok (.ifCond .eq 19, 3) := by decide +kernel
theorem dM_store_12 : decode cM_store 12 = .ok (.iload_n 2, 1) := by decide +kernel
theorem dM_store_13 : decode cM_store 13 = .ok (.ifCond .lt 15, 3) := by decide +kernel
theorem dM_store_16 : decode cM_store 16 = .ok (.iload_n 2, 1) := by decide +kernel
theorem dM_store_17 : decode cM_store 17 = .ok (.iconst 1, 1) := by decide +kernel
theorem dM_store_18 : decode cM_store 18 = .ok (.if_icmp .gt 10, 3) := by decide +kernel
theorem dM_store_21 : decode cM_store 21 = .ok (.iload_n 3, 1) := by decide +kernel
theorem dM_store_22 : decode cM_store 22 = .ok (.invokestatic 86, 3) := by decide +kernel
theorem dM_store_25 : decode cM_store 25 = .ok (.ifCond .ne 9, 3) := by decide +kernel
theorem dM_store_28 : decode cM_store 28 = .ok (.aload_n 0, 1) := by decide +kernel
theorem dM_store_29 : decode cM_store 29 = .ok (.iconst 1, 1) := by decide +kernel
theorem dM_store_30 : decode cM_store 30 = .ok (.invokevirtual 89, 3) := by decide +kernel
theorem dM_store_33 : decode cM_store 33 = .ok (.ireturn, 1) := by decide +kernel
theorem dM_store_34 : decode cM_store 34 = .ok (.aload_n 0, 1) := by decide +kernel
theorem dM_store_35 : decode cM_store 35 = .ok (.getfield 32, 3) := by decide +kernel
theorem dM_store_38 : decode cM_store 38 = .ok (.iload_n 1, 1) := by decide +kernel
theorem dM_store_39 : decode cM_store 39 = .ok (.iaload, 1) := by decide +kernel
theorem dM_store_40 : decode cM_store 40 = .ok (.ifCond .ge 9, 3) := by decide +kernel
theorem dM_store_43 : decode cM_store 43 = .ok (.aload_n 0, 1) := by decide +kernel
theorem dM_store_44 : decode cM_store 44 = .ok (.iconst 2, 1) := by decide +kernel
theorem dM_store_45 : decode cM_store 45 = .ok (.invokevirtual 89, 3) := by decide +kernel
theorem dM_store_48 : decode cM_store 48 = .ok (.ireturn, 1) := by decide +kernel
theorem dM_store_49 : decode cM_store 49 = .ok (.aload_n 0, 1) := by decide +kernel
theorem dM_store_50 : decode cM_store 50 = .ok (.aload_n 0, 1) := by decide +kernel
theorem dM_store_51 : decode cM_store 51 = .ok (.getfield 32, 3) := by decide +kernel
theorem dM_store_54 : decode cM_store 54 = .ok (.iload_n 1, 1) := by decide +kernel
theorem dM_store_55 : decode cM_store 55 = .ok (.iaload, 1) := by decide +kernel
theorem dM_store_56 : decode cM_store 56 = .ok (.iconst 4, 1) := by decide +kernel
theorem dM_store_57 : decode cM_store 57 = .ok (.idiv, 1) := by decide +kernel
theorem dM_store_58 : decode cM_store 58 = .ok (.invokevirtual 106, 3) := by decide +kernel
theorem dM_store_61 : decode cM_store 61 = .ok (.aload_n 0, 1) := by decide +kernel
theorem dM_store_62 : decode cM_store 62 = .ok (.getfield 17, 3) := by decide +kernel
theorem dM_store_65 : decode cM_store 65 = .ok (.iconst 2, 1) := by decide +kernel
theorem dM_store_66 : decode cM_store 66 = .ok (.aload_n 0, 1) := by decide +kernel
theorem dM_store_67 : decode cM_store 67 = .ok (.getfield 32, 3) := by decide +kernel
theorem dM_store_70 : decode cM_store 70 = .ok (.iload_n 1, 1) := by decide +kernel
theorem dM_store_71 : decode cM_store 71 = .ok (.iaload, 1) := by decide +kernel
theorem dM_store_72 : decode cM_store 72 = .ok (.imul, 1) := by decide +kernel
theorem dM_store_73 : decode cM_store 73 = .ok (.iload_n 2, 1) := by decide +kernel
theorem dM_store_74 : decode cM_store 74 = .ok (.iadd, 1) := by decide +kernel
theorem dM_store_75 : decode cM_store 75 = .ok (.aload_n 0, 1) := by decide +kernel
theorem dM_store_76 : decode cM_store 76 = .ok (.getfield 32, 3) := by decide +kernel
theorem dM_store_79 : decode cM_store 79 = .ok (.iload_n 3, 1) := by decide +kernel
theorem dM_store_80 : decode cM_store 80 = .ok (.iaload, 1) := by decide +kernel
theorem dM_store_81 : decode cM_store 81 = .ok (.iastore, 1) := by decide +kernel
theorem dM_store_82 : decode cM_store 82 = .ok (.aload_n 0, 1) := by decide +kernel
theorem dM_store_83 : decode cM_store 83 = .ok (.getfield 70, 3) := by decide +kernel
theorem dM_store_86 : decode cM_store 86 = .ok (.ireturn, 1) := by decide +kernel
theorem dM_load_0 : decode cM_load 0 = .ok (.aload_n 0, 1) := by decide +kernel
theorem dM_load_1 : decode cM_load 1 = .ok (.iconst 0, 1) := by decide +kernel
theorem dM_load_2 : decode cM_load 2 = .ok (.putfield 39, 3) := by decide +kernel
theorem dM_load_5 : decode cM_load 5 = .ok (.iload_n 1, 1) := by decide +kernel
theorem dM_load_6 : decode cM_load 6 = .ok (.invokestatic 86, 3) := by decide +kernel
theorem dM_load_9 : decode cM_load 9 = .ok (.ifCond .eq 19, 3) := by decide +kernel
theorem dM_load_12 : decode cM_load 12 = .ok (.iload_n 2, 1) := by decide +kernel
theorem dM_load_13 : decode cM_load 13 = .ok (.invokestatic 86, 3) := by decide +kernel
theorem dM_load_16 : decode cM_load 16 = .ok (.ifCond .eq 12, 3) := by decide +kernel
theorem dM_load_19 : decode cM_load 19 = .ok (.iload_n 3, 1) := by decide +kernel
theorem dM_load_20 : decode cM_load 20 = .ok (.ifCond .lt 8, 3) := by decide +kernel
theorem dM_load_23 : decode cM_load 23 = .ok (.iload_n 3, 1) := by decide +kernel
theorem dM_load_24 : decode cM_load 24 = .ok (.iconst 1, 1) := by decide +kernel
theorem dM_load_25 : decode cM_load 25 = .ok (.if_icmp .le 9, 3) := by decide +kernel
theorem dM_load_28 : decode cM_load 28 = .ok (.aload_n 0, 1) := by decide +kernel
theorem dM_load_29 : decode cM_load 29 = .ok (.iconst 1, 1) := by decide +kernel
theorem dM_load_30 : decode cM_load 30 = .ok (.invokevirtual 89, 3) := by decide +kernel
theorem dM_load_33 : decode cM_load 33 = .ok (.ireturn, 1) := by decide +kernel
theorem dM_load_34 : decode cM_load 34 = .ok (.aload_n 0, 1) := by decide +kernel
theorem dM_load_35 : decode cM_load 35 = .ok (.getfield 32, 3) := by decide +kernel
theorem dM_load_38 : decode cM_load 38 = .ok (.iload_n 2, 1) := by decide +kernel
theorem dM_load_39 : decode cM_load 39 = .ok (.iaload, 1) := by decide +kernel
theorem dM_load_40 : decode cM_load 40 = .ok (.ifCond .ge 9, 3) := by decide +kernel
theorem dM_load_43 : decode cM_load 43 = .ok (.aload_n 0, 1) := by decide +kernel
theorem dM_load_44 : decode cM_load 44 = .ok (.iconst 2, 1) := by decide +kernel
theorem dM_load_45 : decode cM_load 45 = .ok (.invokevirtual 89, 3) := by decide +kernel
theorem dM_load_48 : decode cM_load 48 = .ok (.ireturn, 1) := by decide +kernel
theorem dM_load_49 : decode cM_load 49 = .ok (.aload_n 0, 1) := by decide +kernel
theorem dM_load_50 : decode cM_load 50 = .ok (.aload_n 0, 1) := by decide +kernel
theorem dM_load_51 : decode cM_load 51 = .ok (.getfield 32, 3) := by decide +kernel
theorem dM_load_54 : decode cM_load 54 = .ok (.iload_n 2, 1) := by decide +kernel
theorem dM_load_55 : decode cM_load 55 = .ok (.iaload, 1) := by decide +kernel
theorem dM_load_56 : decode cM_load 56 = .ok (.iconst 4, 1) := by decide +kernel
theorem dM_load_57 : decode cM_load 57 = .ok (.idiv, 1) := by decide +kernel
theorem dM_load_58 : decode cM_load 58 = .ok (.invokevirtual 106, 3) := by decide +kernel
theorem dM_load_61 : decode cM_load 61 = .ok (.aload_n 0, 1) := by decide +kernel
theorem dM_load_62 : decode cM_load 62 = .ok (.getfield 32, 3) := by decide +kernel
theorem dM_load_65 : decode cM_load 65 = .ok (.iload_n 1, 1) := by decide +kernel
theorem dM_load_66 : decode cM_load 66 = .ok (.aload_n 0, 1) := by decide +kernel
theorem dM_load_67 : decode cM_load 67 = .ok (.getfield 17, 3) := by decide +kernel
theorem dM_load_70 : decode cM_load 70 = .ok (.iconst 2, 1) := by decide +kernel
theorem dM_load_71 : decode cM_load 71 = .ok (.aload_n 0, 1) := by decide +kernel
theorem dM_load_72 : decode cM_load 72 = .ok (.getfield 32, 3) := by decide +kernel
theorem dM_load_75 : decode cM_load 75 = .ok (.iload_n 2, 1) := by decide +kernel
theorem dM_load_76 : decode cM_load 76 = .ok (.iaload, 1) := by decide +kernel
theorem dM_load_77 : decode cM_load 77 = .ok (.imul, 1) := by decide +kernel
theorem dM_load_78 : decode cM_load 78 = .ok (.iload_n 3, 1) := by decide +kernel
theorem dM_load_79 : decode cM_load 79 = .ok (.iadd, 1) := by decide +kernel
theorem dM_load_80 : decode cM_load 80 = .ok (.iaload, 1) := by decide +kernel
theorem dM_load_81 : decode cM_load 81 = .ok (.iastore, 1) := by decide +kernel
theorem dM_load_82 : decode cM_load 82 = .ok (.aload_n 0, 1) := by decide +kernel
theorem dM_load_83 : decode cM_load 83 = .ok (.getfield 70, 3) := by decide +kernel
theorem dM_load_86 : decode cM_load 86 = .ok (.ireturn, 1) := by decide +kernel
theorem dM_value_0 : decode cM_value 0 = .ok (.aload_n 0, 1) := by decide +kernel
theorem dM_value_1 : decode cM_value 1 = .ok (.iconst 0, 1) := by decide +kernel
theorem dM_value_2 : decode cM_value 2 = .ok (.putfield 39, 3) := by decide +kernel
theorem dM_value_5 : decode cM_value 5 = .ok (.iload_n 1, 1) := by decide +kernel
theorem dM_value_6 : decode cM_value 6 = .ok (.invokestatic 86, 3) := by decide +kernel
theorem dM_value_9 : decode cM_value 9 = .ok (.ifCond .ne 9, 3) := by decide +kernel
theorem dM_value_12 : decode cM_value 12 = .ok (.aload_n 0, 1) := by decide +kernel
theorem dM_value_13 : decode cM_value 13 = .ok (.iconst 1, 1) := by decide +kernel
theorem dM_value_14 : decode cM_value 14 = .ok (.invokevirtual 89, 3) := by decide +kernel
theorem dM_value_17 : decode cM_value 17 = .ok (.ireturn, 1) := by decide +kernel
theorem dM_value_18 : decode cM_value 18 = .ok (.aload_n 0, 1) := by decide +kernel
theorem dM_value_19 : decode cM_value 19 = .ok (.getfield 32, 3) := by decide +kernel
theorem dM_value_22 : decode cM_value 22 = .ok (.iload_n 1, 1) := by decide +kernel
theorem dM_value_23 : decode cM_value 23 = .ok (.iaload, 1) := by decide +kernel
theorem dM_value_24 : decode cM_value 24 = .ok (.ifCond .ge 9, 3) := by decide +kernel
theorem dM_value_27 : decode cM_value 27 = .ok (.aload_n 0, 1) := by decide +kernel
theorem dM_value_28 : decode cM_value 28 = .ok (.iconst 2, 1) := by decide +kernel
theorem dM_value_29 : decode cM_value 29 = .ok (.invokevirtual 89, 3) := by decide +kernel
theorem dM_value_32 : decode cM_value 32 = .ok (.ireturn, 1) := by decide +kernel
theorem dM_value_33 : decode cM_value 33 = .ok (.aload_n 0, 1) := by decide +kernel
theorem dM_value_34 : decode cM_value 34 = .ok (.aload_n 0, 1) := by decide +kernel
theorem dM_value_35 : decode cM_value 35 = .ok (.getfield 32, 3) := by decide +kernel
theorem dM_value_38 : decode cM_value 38 = .ok (.iload_n 1, 1) := by decide +kernel
theorem dM_value_39 : decode cM_value 39 = .ok (.iaload, 1) := by decide +kernel
theorem dM_value_40 : decode cM_value 40 = .ok (.iconst 4, 1) := by decide +kernel
theorem dM_value_41 : decode cM_value 41 = .ok (.idiv, 1) := by decide +kernel
theorem dM_value_42 : decode cM_value 42 = .ok (.invokevirtual 106, 3) := by decide +kernel
theorem dM_value_45 : decode cM_value 45 = .ok (.aload_n 0, 1) := by decide +kernel
theorem dM_value_46 : decode cM_value 46 = .ok (.getfield 13, 3) := by decide +kernel
theorem dM_value_49 : decode cM_value 49 = .ok (.aload_n 0, 1) := by decide +kernel
theorem dM_value_50 : decode cM_value 50 = .ok (.getfield 32, 3) := by decide +kernel
theorem dM_value_53 : decode cM_value 53 = .ok (.iload_n 1, 1) := by decide +kernel
theorem dM_value_54 : decode cM_value 54 = .ok (.iaload, 1) := by decide +kernel
theorem dM_value_55 : decode cM_value 55 = .ok (.iaload, 1) := by decide +kernel
theorem dM_value_56 : decode cM_value 56 = .ok (.ireturn, 1) := by decide +kernel
theorem dM_copy_0 : decode cM_copy 0 = .ok (.aload_n 0, 1) := by decide +kernel
theorem dM_copy_1 : decode cM_copy 1 = .ok (.iconst 0, 1) := by decide +kernel
theorem dM_copy_2 : decode cM_copy 2 = .ok (.putfield 39, 3) := by decide +kernel
theorem dM_copy_5 : decode cM_copy 5 = .ok (.iload_n 1, 1) := by decide +kernel
theorem dM_copy_6 : decode cM_copy 6 = .ok (.invokestatic 86, 3) := by decide +kernel
theorem dM_copy_9 : decode cM_copy 9 = .ok (.ifCond .eq 10, 3) := by decide +kernel
theorem dM_copy_12 : decode cM_copy 12 = .ok (.iload_n 2, 1) := by decide +kernel
theorem dM_copy_13 : decode cM_copy 13 = .ok (.invokestatic 86, 3) := by decide +kernel
theorem dM_copy_16 : decode cM_copy 16 = .ok (.ifCond .ne 9, 3) := by decide +kernel
theorem dM_copy_19 : decode cM_copy 19 = .ok (.aload_n 0, 1) := by decide +kernel
theorem dM_copy_20 : decode cM_copy 20 = .ok (.iconst 1, 1) := by decide +kernel
theorem dM_copy_21 : decode cM_copy 21 = .ok (.invokevirtual 89, 3) := by decide +kernel
theorem dM_copy_24 : decode cM_copy 24 = .ok (.ireturn, 1) := by decide +kernel
theorem dM_copy_25 : decode cM_copy 25 = .ok (.aload_n 0, 1) := by decide +kernel
theorem dM_copy_26 : decode cM_copy 26 = .ok (.getfield 32, 3) := by decide +kernel
theorem dM_copy_29 : decode cM_copy 29 = .ok (.iload_n 1, 1) := by decide +kernel
theorem dM_copy_30 : decode cM_copy 30 = .ok (.aload_n 0, 1) := by decide +kernel
theorem dM_copy_31 : decode cM_copy 31 = .ok (.getfield 32, 3) := by decide +kernel
theorem dM_copy_34 : decode cM_copy 34 = .ok (.iload_n 2, 1) := by decide +kernel
theorem dM_copy_35 : decode cM_copy 35 = .ok (.iaload, 1) := by decide +kernel
theorem dM_copy_36 : decode cM_copy 36 = .ok (.iastore, 1) := by decide +kernel
theorem dM_copy_37 : decode cM_copy 37 = .ok (.aload_n 0, 1) := by decide +kernel
theorem dM_copy_38 : decode cM_copy 38 = .ok (.getfield 32, 3) := by decide +kernel
theorem dM_copy_41 : decode cM_copy 41 = .ok (.iload_n 1, 1) := by decide +kernel
theorem dM_copy_42 : decode cM_copy 42 = .ok (.iaload, 1) := by decide +kernel
theorem dM_copy_43 : decode cM_copy 43 = .ok (.ireturn, 1) := by decide +kernel
theorem dM_drop_0 : decode cM_drop 0 = .ok (.aload_n 0, 1) := by decide +kernel
theorem dM_drop_1 : decode cM_drop 1 = .ok (.iconst 0, 1) := by decide +kernel
theorem dM_drop_2 : decode cM_drop 2 = .ok (.putfield 39, 3) := by decide +kernel
theorem dM_drop_5 : decode cM_drop 5 = .ok (.iload_n 1, 1) := by decide +kernel
theorem dM_drop_6 : decode cM_drop 6 = .ok (.invokestatic 86, 3) := by decide +kernel
theorem dM_drop_9 : decode cM_drop 9 = .ok (.ifCond .ne 10, 3) := by decide +kernel
theorem dM_drop_12 : decode cM_drop 12 = .ok (.aload_n 0, 1) := by decide +kernel
theorem dM_drop_13 : decode cM_drop 13 = .ok (.iconst 1, 1) := by decide +kernel
theorem dM_drop_14 : decode cM_drop 14 = .ok (.putfield 39, 3) := by decide +kernel
theorem dM_drop_17 : decode cM_drop 17 = .ok (.iconst 0, 1) := by decide +kernel
theorem dM_drop_18 : decode cM_drop 18 = .ok (.ireturn, 1) := by decide +kernel
theorem dM_drop_19 : decode cM_drop 19 = .ok (.aload_n 0, 1) := by decide +kernel
theorem dM_drop_20 : decode cM_drop 20 = .ok (.getfield 32, 3) := by decide +kernel
theorem dM_drop_23 : decode cM_drop 23 = .ok (.iload_n 1, 1) := by decide +kernel
theorem dM_drop_24 : decode cM_drop 24 = .ok (.iaload, 1) := by decide +kernel
theorem dM_drop_25 : decode cM_drop 25 = .ok (.ifCond .lt 7, 3) := by decide +kernel
theorem dM_drop_28 : decode cM_drop 28 = .ok (.iconst 1, 1) := by decide +kernel
theorem dM_drop_29 : decode cM_drop 29 = .ok (.goto 4, 3) := by decide +kernel
theorem dM_drop_32 : decode cM_drop 32 = .ok (.iconst 0, 1) := by decide +kernel
theorem dM_drop_33 : decode cM_drop 33 = .ok (.istore_n 2, 1) := by decide +kernel
theorem dM_drop_34 : decode cM_drop 34 = .ok (.aload_n 0, 1) := by decide +kernel
theorem dM_drop_35 : decode cM_drop 35 = .ok (.getfield 32, 3) := by decide +kernel
theorem dM_drop_38 : decode cM_drop 38 = .ok (.iload_n 1, 1) := by decide +kernel
theorem dM_drop_39 : decode cM_drop 39 = .ok (.iconst (-1), 1) := by decide +kernel
theorem dM_drop_40 : decode cM_drop 40 = .ok (.iastore, 1) := by decide +kernel
theorem dM_drop_41 : decode cM_drop 41 = .ok (.iload_n 2, 1) := by decide +kernel
theorem dM_drop_42 : decode cM_drop 42 = .ok (.ireturn, 1) := by decide +kernel
theorem dM_budget_0 : decode cM_budget 0 = .ok (.aload_n 0, 1) := by decide +kernel
theorem dM_budget_1 : decode cM_budget 1 = .ok (.iconst 0, 1) := by decide +kernel
theorem dM_budget_2 : decode cM_budget 2 = .ok (.putfield 39, 3) := by decide +kernel
theorem dM_budget_5 : decode cM_budget 5 = .ok (.iload_n 1, 1) := by decide +kernel
theorem dM_budget_6 : decode cM_budget 6 = .ok (.iconst 2, 1) := by decide +kernel
theorem dM_budget_7 : decode cM_budget 7 = .ok (.if_icmp .lt 9, 3) := by decide +kernel
theorem dM_budget_10 : decode cM_budget 10 = .ok (.iload_n 1, 1) := by decide +kernel
theorem dM_budget_11 : decode cM_budget 11 = .ok (.bipush 8, 2) := by decide +kernel
theorem dM_budget_13 : decode cM_budget 13 = .ok (.if_icmp .le 9, 3) := by decide +kernel
theorem dM_budget_16 : decode cM_budget 16 = .ok (.aload_n 0, 1) := by decide +kernel
theorem dM_budget_17 : decode cM_budget 17 = .ok (.iconst 1, 1) := by decide +kernel
theorem dM_budget_18 : decode cM_budget 18 = .ok (.invokevirtual 89, 3) := by decide +kernel
theorem dM_budget_21 : decode cM_budget 21 = .ok (.ireturn, 1) := by decide +kernel
theorem dM_budget_22 : decode cM_budget 22 = .ok (.aload_n 0, 1) := by decide +kernel
theorem dM_budget_23 : decode cM_budget 23 = .ok (.iload_n 1, 1) := by decide +kernel
theorem dM_budget_24 : decode cM_budget 24 = .ok (.putfield 35, 3) := by decide +kernel
theorem dM_budget_27 : decode cM_budget 27 = .ok (.aload_n 0, 1) := by decide +kernel
theorem dM_budget_28 : decode cM_budget 28 = .ok (.iconst (-1), 1) := by decide +kernel
theorem dM_budget_29 : decode cM_budget 29 = .ok (.invokevirtual 103, 3) := by decide +kernel
theorem dM_budget_32 : decode cM_budget 32 = .ok (.ireturn, 1) := by decide +kernel
theorem dM_collect_0 : decode cM_collect 0 = .ok (.aload_n 0, 1) := by decide +kernel
theorem dM_collect_1 : decode cM_collect 1 = .ok (.iconst 0, 1) := by decide +kernel
theorem dM_collect_2 : decode cM_collect 2 = .ok (.putfield 39, 3) := by decide +kernel
theorem dM_collect_5 : decode cM_collect 5 = .ok (.aload_n 0, 1) := by decide +kernel
theorem dM_collect_6 : decode cM_collect 6 = .ok (.invokevirtual 80, 3) := by decide +kernel
theorem dM_collect_9 : decode cM_collect 9 = .ok (.ireturn, 1) := by decide +kernel
theorem dM_thorough_0 : decode cM_thorough 0 = .ok (.aload_n 0, 1) := by decide +kernel
theorem dM_thorough_1 : decode cM_thorough 1 = .ok (.iconst 0, 1) := by decide +kernel
theorem dM_thorough_2 : decode cM_thorough 2 = .ok (.putfield 39, 3) := by decide +kernel
theorem dM_thorough_5 : decode cM_thorough 5 = .ok (.aload_n 0, 1) := by decide +kernel
theorem dM_thorough_6 : decode cM_thorough 6 = .ok (.invokevirtual 96, 3) := by decide +kernel
theorem dM_thorough_9 : decode cM_thorough 9 = .ok (.istore_n 1, 1) := by decide +kernel
theorem dM_thorough_10 : decode cM_thorough 10 = .ok (.aload_n 0, 1) := by decide +kernel
theorem dM_thorough_11 : decode cM_thorough 11 = .ok (.iconst (-1), 1) := by decide +kernel
theorem dM_thorough_12 : decode cM_thorough 12 = .ok (.invokevirtual 103, 3) := by decide +kernel
theorem dM_thorough_15 : decode cM_thorough 15 = .ok (.pop, 1) := by decide +kernel
theorem dM_thorough_16 : decode cM_thorough 16 = .ok (.iload_n 1, 1) := by decide +kernel
theorem dM_thorough_17 : decode cM_thorough 17 = .ok (.ireturn, 1) := by decide +kernel
theorem dM_faults_0 : decode cM_faults 0 = .ok (.aload_n 0, 1) := by decide +kernel
theorem dM_faults_1 : decode cM_faults 1 = .ok (.iconst 0, 1) := by decide +kernel
theorem dM_faults_2 : decode cM_faults 2 = .ok (.putfield 39, 3) := by decide +kernel
theorem dM_faults_5 : decode cM_faults 5 = .ok (.aload_n 0, 1) := by decide +kernel
theorem dM_faults_6 : decode cM_faults 6 = .ok (.getfield 70, 3) := by decide +kernel
theorem dM_faults_9 : decode cM_faults 9 = .ok (.ireturn, 1) := by decide +kernel
theorem dM_objects_0 : decode cM_objects 0 = .ok (.aload_n 0, 1) := by decide +kernel
theorem dM_objects_1 : decode cM_objects 1 = .ok (.iconst 0, 1) := by decide +kernel
theorem dM_objects_2 : decode cM_objects 2 = .ok (.putfield 39, 3) := by decide +kernel
theorem dM_objects_5 : decode cM_objects 5 = .ok (.iconst 0, 1) := by decide +kernel
theorem dM_objects_6 : decode cM_objects 6 = .ok (.istore_n 1, 1) := by decide +kernel
theorem dM_objects_7 : decode cM_objects 7 = .ok (.iconst 0, 1) := by decide +kernel
theorem dM_objects_8 : decode cM_objects 8 = .ok (.istore_n 2, 1) := by decide +kernel
theorem dM_objects_9 : decode cM_objects 9 = .ok (.iload_n 2, 1) := by decide +kernel
theorem dM_objects_10 : decode cM_objects 10 = .ok (.bipush 32, 2) := by decide +kernel
theorem dM_objects_12 : decode cM_objects 12 = .ok (.if_icmp .ge 26, 3) := by decide +kernel
theorem dM_objects_15 : decode cM_objects 15 = .ok (.aload_n 0, 1) := by decide +kernel
theorem dM_objects_16 : decode cM_objects 16 = .ok (.getfield 7, 3) := by decide +kernel
theorem dM_objects_19 : decode cM_objects 19 = .ok (.iload_n 2, 1) := by decide +kernel
theorem dM_objects_20 : decode cM_objects 20 = .ok (.baload, 1) := by decide +kernel
theorem dM_objects_21 : decode cM_objects 21 = .ok (.ifCond .eq 9, 3) := by decide +kernel
theorem dM_objects_24 : decode cM_objects 24 = .ok (.iload_n 1, 1) := by decide +kernel
theorem dM_objects_25 : decode cM_objects 25 = .ok (.iconst 1, 1) := by decide +kernel
theorem dM_objects_26 : decode cM_objects 26 = .ok (.iadd, 1) := by decide +kernel
theorem dM_objects_27 : decode cM_objects 27 = .ok (.goto 4, 3) := by decide +kernel
theorem dM_objects_30 : decode cM_objects 30 = .ok (.iload_n 1, 1) := by decide +kernel
theorem dM_objects_31 : decode cM_objects 31 = .ok (.istore_n 1, 1) := by decide +kernel
theorem dM_objects_32 : decode cM_objects 32 = .ok (.iinc 2 1, 3) := by decide +kernel
theorem dM_objects_35 : decode cM_objects 35 = .ok (.goto (-26), 3) := by decide +kernel
theorem dM_objects_38 : decode cM_objects 38 = .ok (.iload_n 1, 1) := by decide +kernel
theorem dM_objects_39 : decode cM_objects 39 = .ok (.ireturn, 1) := by decide +kernel
theorem dM_isPage_0 : decode cM_isPage 0 = .ok (.iload_n 0, 1) := by decide +kernel
theorem dM_isPage_1 : decode cM_isPage 1 = .ok (.ifCond .lt 13, 3) := by decide +kernel
theorem dM_isPage_4 : decode cM_isPage 4 = .ok (.iload_n 0, 1) := by decide +kernel
theorem dM_isPage_5 : decode cM_isPage 5 = .ok (.bipush 8, 2) := by decide +kernel
theorem dM_isPage_7 : decode cM_isPage 7 = .ok (.if_icmp .ge 7, 3) := by decide +kernel
theorem dM_isPage_10 : decode cM_isPage 10 = .ok (.iconst 1, 1) := by decide +kernel
theorem dM_isPage_11 : decode cM_isPage 11 = .ok (.goto 4, 3) := by decide +kernel
theorem dM_isPage_14 : decode cM_isPage 14 = .ok (.iconst 0, 1) := by decide +kernel
theorem dM_isPage_15 : decode cM_isPage 15 = .ok (.ireturn, 1) := by decide +kernel
theorem dM_page_0 : decode cM_page 0 = .ok (.aload_n 0, 1) := by decide +kernel
theorem dM_page_1 : decode cM_page 1 = .ok (.iconst 0, 1) := by decide +kernel
theorem dM_page_2 : decode cM_page 2 = .ok (.putfield 39, 3) := by decide +kernel
theorem dM_page_5 : decode cM_page 5 = .ok (.iload_n 1, 1) := by decide +kernel
theorem dM_page_6 : decode cM_page 6 = .ok (.invokestatic 109, 3) := by decide +kernel
theorem dM_page_9 : decode cM_page 9 = .ok (.ifCond .ne 5, 3) := by decide +kernel
theorem dM_page_12 : decode cM_page 12 = .ok (.iconst (-1), 1) := by decide +kernel
theorem dM_page_13 : decode cM_page 13 = .ok (.ireturn, 1) := by decide +kernel
theorem dM_page_14 : decode cM_page 14 = .ok (.aload_n 0, 1) := by decide +kernel
theorem dM_page_15 : decode cM_page 15 = .ok (.getfield 26, 3) := by decide +kernel
theorem dM_page_18 : decode cM_page 18 = .ok (.iload_n 1, 1) := by decide +kernel
theorem dM_page_19 : decode cM_page 19 = .ok (.iaload, 1) := by decide +kernel
theorem dM_page_20 : decode cM_page 20 = .ok (.ifCond .ne 7, 3) := by decide +kernel
theorem dM_page_23 : decode cM_page 23 = .ok (.iconst 0, 1) := by decide +kernel
theorem dM_page_24 : decode cM_page 24 = .ok (.goto 31, 3) := by decide +kernel
theorem dM_page_27 : decode cM_page 27 = .ok (.aload_n 0, 1) := by decide +kernel
theorem dM_page_28 : decode cM_page 28 = .ok (.getfield 26, 3) := by decide +kernel
theorem dM_page_31 : decode cM_page 31 = .ok (.iload_n 1, 1) := by decide +kernel
theorem dM_page_32 : decode cM_page 32 = .ok (.iaload, 1) := by decide +kernel
theorem dM_page_33 : decode cM_page 33 = .ok (.iconst 2, 1) := by decide +kernel
theorem dM_page_34 : decode cM_page 34 = .ok (.if_icmp .ne 7, 3) := by decide +kernel
theorem dM_page_37 : decode cM_page 37 = .ok (.iconst 3, 1) := by decide +kernel
theorem dM_page_38 : decode cM_page 38 = .ok (.goto 17, 3) := by decide +kernel
theorem dM_page_41 : decode cM_page 41 = .ok (.aload_n 0, 1) := by decide +kernel
theorem dM_page_42 : decode cM_page 42 = .ok (.getfield 29, 3) := by decide +kernel
theorem dM_page_45 : decode cM_page 45 = .ok (.iload_n 1, 1) := by decide +kernel
theorem dM_page_46 : decode cM_page 46 = .ok (.baload, 1) := by decide +kernel
theorem dM_page_47 : decode cM_page 47 = .ok (.ifCond .eq 7, 3) := by decide +kernel
theorem dM_page_50 : decode cM_page 50 = .ok (.iconst 2, 1) := by decide +kernel
theorem dM_page_51 : decode cM_page 51 = .ok (.goto 4, 3) := by decide +kernel
theorem dM_page_54 : decode cM_page 54 = .ok (.iconst 1, 1) := by decide +kernel
theorem dM_page_55 : decode cM_page 55 = .ok (.ireturn, 1) := by decide +kernel
theorem dM_count_0 : decode cM_count 0 = .ok (.aload_n 0, 1) := by decide +kernel
theorem dM_count_1 : decode cM_count 1 = .ok (.iconst 0, 1) := by decide +kernel
theorem dM_count_2 : decode cM_count 2 = .ok (.putfield 39, 3) := by decide +kernel
theorem dM_count_5 : decode cM_count 5 = .ok (.iload_n 1, 1) := by decide +kernel
theorem dM_count_6 : decode cM_count 6 = .ok (.invokestatic 109, 3) := by decide +kernel
theorem dM_count_9 : decode cM_count 9 = .ok (.ifCond .eq 11, 3) := by decide +kernel
theorem dM_count_12 : decode cM_count 12 = .ok (.aload_n 0, 1) := by decide +kernel
theorem dM_count_13 : decode cM_count 13 = .ok (.iload_n 1, 1) := by decide +kernel
theorem dM_count_14 : decode cM_count 14 = .ok (.invokevirtual 64, 3) := by decide +kernel
theorem dM_count_17 : decode cM_count 17 = .ok (.goto 4, 3) := by decide +kernel
theorem dM_count_20 : decode cM_count 20 = .ok (.iconst (-1), 1) := by decide +kernel
theorem dM_count_21 : decode cM_count 21 = .ok (.ireturn, 1) := by decide +kernel
theorem dM_places_0 : decode cM_places 0 = .ok (.aload_n 0, 1) := by decide +kernel
theorem dM_places_1 : decode cM_places 1 = .ok (.iconst 0, 1) := by decide +kernel
theorem dM_places_2 : decode cM_places 2 = .ok (.putfield 39, 3) := by decide +kernel
theorem dM_places_5 : decode cM_places 5 = .ok (.iload_n 1, 1) := by decide +kernel
theorem dM_places_6 : decode cM_places 6 = .ok (.invokestatic 109, 3) := by decide +kernel
theorem dM_places_9 : decode cM_places 9 = .ok (.ifCond .ne 5, 3) := by decide +kernel
theorem dM_places_12 : decode cM_places 12 = .ok (.iconst (-1), 1) := by decide +kernel
theorem dM_places_13 : decode cM_places 13 = .ok (.ireturn, 1) := by decide +kernel
theorem dM_places_14 : decode cM_places 14 = .ok (.iconst 0, 1) := by decide +kernel
theorem dM_places_15 : decode cM_places 15 = .ok (.istore_n 2, 1) := by decide +kernel
theorem dM_places_16 : decode cM_places 16 = .ok (.iconst 3, 1) := by decide +kernel
theorem dM_places_17 : decode cM_places 17 = .ok (.istore_n 3, 1) := by decide +kernel
theorem dM_places_18 : decode cM_places 18 = .ok (.iload_n 3, 1) := by decide +kernel
theorem dM_places_19 : decode cM_places 19 = .ok (.ifCond .lt 32, 3) := by decide +kernel
theorem dM_places_22 : decode cM_places 22 = .ok (.iconst 2, 1) := by decide +kernel
theorem dM_places_23 : decode cM_places 23 = .ok (.iload_n 2, 1) := by decide +kernel
theorem dM_places_24 : decode cM_places 24 = .ok (.imul, 1) := by decide +kernel
theorem dM_places_25 : decode cM_places 25 = .ok (.aload_n 0, 1) := by decide +kernel
theorem dM_places_26 : decode cM_places 26 = .ok (.getfield 7, 3) := by decide +kernel
theorem dM_places_29 : decode cM_places 29 = .ok (.iconst 4, 1) := by decide +kernel
theorem dM_places_30 : decode cM_places 30 = .ok (.iload_n 1, 1) := by decide +kernel
theorem dM_places_31 : decode cM_places 31 = .ok (.imul, 1) := by decide +kernel
theorem dM_places_32 : decode cM_places 32 = .ok (.iload_n 3, 1) := by decide +kernel
theorem dM_places_33 : decode cM_places 33 = .ok (.iadd, 1) := by decide +kernel
theorem dM_places_34 : decode cM_places 34 = .ok (.baload, 1) := by decide +kernel
theorem dM_places_35 : decode cM_places 35 = .ok (.ifCond .eq 7, 3) := by decide +kernel
theorem dM_places_38 : decode cM_places 38 = .ok (.iconst 1, 1) := by decide +kernel
theorem dM_places_39 : decode cM_places 39 = .ok (.goto 4, 3) := by decide +kernel
theorem dM_places_42 : decode cM_places 42 = .ok (.iconst 0, 1) := by decide +kernel
theorem dM_places_43 : decode cM_places 43 = .ok (.iadd, 1) := by decide +kernel
theorem dM_places_44 : decode cM_places 44 = .ok (.istore_n 2, 1) := by decide +kernel
theorem dM_places_45 : decode cM_places 45 = .ok (.iinc 3 (-1), 3) := by decide +kernel
theorem dM_places_48 : decode cM_places 48 = .ok (.goto (-30), 3) := by decide +kernel
theorem dM_places_51 : decode cM_places 51 = .ok (.iconst 0, 1) := by decide +kernel
theorem dM_places_52 : decode cM_places 52 = .ok (.istore_n 3, 1) := by decide +kernel
theorem dM_places_53 : decode cM_places 53 = .ok (.iload_n 3, 1) := by decide +kernel
theorem dM_places_54 : decode cM_places 54 = .ok (.iconst 4, 1) := by decide +kernel
theorem dM_places_55 : decode cM_places 55 = .ok (.if_icmp .ge 46, 3) := by decide +kernel
theorem dM_places_58 : decode cM_places 58 = .ok (.aload_n 0, 1) := by decide +kernel
theorem dM_places_59 : decode cM_places 59 = .ok (.getfield 7, 3) := by decide +kernel
theorem dM_places_62 : decode cM_places 62 = .ok (.iconst 4, 1) := by decide +kernel
theorem dM_places_63 : decode cM_places 63 = .ok (.iload_n 1, 1) := by decide +kernel
theorem dM_places_64 : decode cM_places 64 = .ok (.imul, 1) := by decide +kernel
theorem dM_places_65 : decode cM_places 65 = .ok (.iload_n 3, 1) := by decide +kernel
theorem dM_places_66 : decode cM_places 66 = .ok (.iadd, 1) := by decide +kernel
theorem dM_places_67 : decode cM_places 67 = .ok (.baload, 1) := by decide +kernel
theorem dM_places_68 : decode cM_places 68 = .ok (.ifCond .eq 25, 3) := by decide +kernel
theorem dM_places_71 : decode cM_places 71 = .ok (.aload_n 0, 1) := by decide +kernel
theorem dM_places_72 : decode cM_places 72 = .ok (.getfield 20, 3) := by decide +kernel
theorem dM_places_75 : decode cM_places 75 = .ok (.iconst 4, 1) := by decide +kernel
theorem dM_places_76 : decode cM_places 76 = .ok (.iload_n 1, 1) := by decide +kernel
theorem dM_places_77 : decode cM_places 77 = .ok (.imul, 1) := by decide +kernel
theorem dM_places_78 : decode cM_places 78 = .ok (.iload_n 3, 1) := by decide +kernel
theorem dM_places_79 : decode cM_places 79 = .ok (.iadd, 1) := by decide +kernel
theorem dM_places_80 : decode cM_places 80 = .ok (.baload, 1) := by decide +kernel
theorem dM_places_81 : decode cM_places 81 = .ok (.ifCond .eq 12, 3) := by decide +kernel
theorem dM_places_84 : decode cM_places 84 = .ok (.iload_n 2, 1) := by decide +kernel
theorem dM_places_85 : decode cM_places 85 = .ok (.bipush 16, 2) := by decide +kernel
theorem dM_places_87 : decode cM_places 87 = .ok (.iload_n 3, 1) := by decide +kernel
theorem dM_places_88 : decode cM_places 88 = .ok (.ishl, 1) := by decide +kernel
theorem dM_places_89 : decode cM_places 89 = .ok (.iadd, 1) := by decide +kernel
theorem dM_places_90 : decode cM_places 90 = .ok (.goto 4, 3) := by decide +kernel
theorem dM_places_93 : decode cM_places 93 = .ok (.iload_n 2, 1) := by decide +kernel
theorem dM_places_94 : decode cM_places 94 = .ok (.istore_n 2, 1) := by decide +kernel
theorem dM_places_95 : decode cM_places 95 = .ok (.iinc 3 1, 3) := by decide +kernel
theorem dM_places_98 : decode cM_places 98 = .ok (.goto (-45), 3) := by decide +kernel
theorem dM_places_101 : decode cM_places 101 = .ok (.iload_n 2, 1) := by decide +kernel
theorem dM_places_102 : decode cM_places 102 = .ok (.ireturn, 1) := by decide +kernel
theorem dM_hand_0 : decode cM_hand 0 = .ok (.aload_n 0, 1) := by decide +kernel
theorem dM_hand_1 : decode cM_hand 1 = .ok (.iconst 0, 1) := by decide +kernel
theorem dM_hand_2 : decode cM_hand 2 = .ok (.putfield 39, 3) := by decide +kernel
theorem dM_hand_5 : decode cM_hand 5 = .ok (.aload_n 0, 1) := by decide +kernel
theorem dM_hand_6 : decode cM_hand 6 = .ok (.getfield 46, 3) := by decide +kernel
theorem dM_hand_9 : decode cM_hand 9 = .ok (.ireturn, 1) := by decide +kernel
end
section
-- decode rows: written by wip/whole/names.py
theorem dL_make_0 : decode cL_make 0 = .ok (.aload_n 3, 1) := by decide +kernel
theorem dL_make_1 : decode cL_make 1 = .ok (.iconst 0, 1) := by decide +kernel
theorem dL_make_2 : decode cL_make 2 = .ok (.aload_n 0, 1) := by decide +kernel
theorem dL_make_3 : decode cL_make 3 = .ok (.iload_n 1, 1) := by decide +kernel
theorem dL_make_4 : decode cL_make 4 = .ok (.iload_n 2, 1) := by decide +kernel
theorem dL_make_5 : decode cL_make 5 = .ok (.invokevirtual 7, 3) := by decide +kernel
theorem dL_make_8 : decode cL_make 8 = .ok (.i2l, 1) := by decide +kernel
theorem dL_make_9 : decode cL_make 9 = .ok (.lastore, 1) := by decide +kernel
theorem dL_make_10 : decode cL_make 10 = .ok (.goto 11, 3) := by decide +kernel
theorem dL_make_13 : decode cL_make 13 = .ok (.astore 4, 2) := by decide +kernel
theorem dL_make_15 : decode cL_make 15 = .ok (.iconst 1, 1) := by decide +kernel
theorem dL_make_16 : decode cL_make 16 = .ok (.ireturn, 1) := by decide +kernel
theorem dL_make_17 : decode cL_make 17 = .ok (.astore 4, 2) := by decide +kernel
theorem dL_make_19 : decode cL_make 19 = .ok (.iconst 2, 1) := by decide +kernel
theorem dL_make_20 : decode cL_make 20 = .ok (.ireturn, 1) := by decide +kernel
theorem dL_make_21 : decode cL_make 21 = .ok (.iconst 0, 1) := by decide +kernel
theorem dL_make_22 : decode cL_make 22 = .ok (.ireturn, 1) := by decide +kernel
theorem dL_store_0 : decode cL_store 0 = .ok (.aload 4, 2) := by decide +kernel
theorem dL_store_2 : decode cL_store 2 = .ok (.iconst 0, 1) := by decide +kernel
theorem dL_store_3 : decode cL_store 3 = .ok (.aload_n 0, 1) := by decide +kernel
theorem dL_store_4 : decode cL_store 4 = .ok (.iload_n 1, 1) := by decide +kernel
theorem dL_store_5 : decode cL_store 5 = .ok (.iload_n 2, 1) := by decide +kernel
theorem dL_store_6 : decode cL_store 6 = .ok (.iload_n 3, 1) := by decide +kernel
theorem dL_store_7 : decode cL_store 7 = .ok (.invokevirtual 17, 3) := by decide +kernel
theorem dL_store_10 : decode cL_store 10 = .ok (.i2l, 1) := by decide +kernel
theorem dL_store_11 : decode cL_store 11 = .ok (.lastore, 1) := by decide +kernel
theorem dL_store_12 : decode cL_store 12 = .ok (.goto 11, 3) := by decide +kernel
theorem dL_store_15 : decode cL_store 15 = .ok (.astore 5, 2) := by decide +kernel
theorem dL_store_17 : decode cL_store 17 = .ok (.iconst 1, 1) := by decide +kernel
theorem dL_store_18 : decode cL_store 18 = .ok (.ireturn, 1) := by decide +kernel
theorem dL_store_19 : decode cL_store 19 = .ok (.astore 5, 2) := by decide +kernel
theorem dL_store_21 : decode cL_store 21 = .ok (.iconst 2, 1) := by decide +kernel
theorem dL_store_22 : decode cL_store 22 = .ok (.ireturn, 1) := by decide +kernel
theorem dL_store_23 : decode cL_store 23 = .ok (.iconst 0, 1) := by decide +kernel
theorem dL_store_24 : decode cL_store 24 = .ok (.ireturn, 1) := by decide +kernel
theorem dL_load_0 : decode cL_load 0 = .ok (.aload 4, 2) := by decide +kernel
theorem dL_load_2 : decode cL_load 2 = .ok (.iconst 0, 1) := by decide +kernel
theorem dL_load_3 : decode cL_load 3 = .ok (.aload_n 0, 1) := by decide +kernel
theorem dL_load_4 : decode cL_load 4 = .ok (.iload_n 1, 1) := by decide +kernel
theorem dL_load_5 : decode cL_load 5 = .ok (.iload_n 2, 1) := by decide +kernel
theorem dL_load_6 : decode cL_load 6 = .ok (.iload_n 3, 1) := by decide +kernel
theorem dL_load_7 : decode cL_load 7 = .ok (.invokevirtual 23, 3) := by decide +kernel
theorem dL_load_10 : decode cL_load 10 = .ok (.i2l, 1) := by decide +kernel
theorem dL_load_11 : decode cL_load 11 = .ok (.lastore, 1) := by decide +kernel
theorem dL_load_12 : decode cL_load 12 = .ok (.goto 11, 3) := by decide +kernel
theorem dL_load_15 : decode cL_load 15 = .ok (.astore 5, 2) := by decide +kernel
theorem dL_load_17 : decode cL_load 17 = .ok (.iconst 1, 1) := by decide +kernel
theorem dL_load_18 : decode cL_load 18 = .ok (.ireturn, 1) := by decide +kernel
theorem dL_load_19 : decode cL_load 19 = .ok (.astore 5, 2) := by decide +kernel
theorem dL_load_21 : decode cL_load 21 = .ok (.iconst 2, 1) := by decide +kernel
theorem dL_load_22 : decode cL_load 22 = .ok (.ireturn, 1) := by decide +kernel
theorem dL_load_23 : decode cL_load 23 = .ok (.iconst 0, 1) := by decide +kernel
theorem dL_load_24 : decode cL_load 24 = .ok (.ireturn, 1) := by decide +kernel
theorem dL_value_0 : decode cL_value 0 = .ok (.aload_n 2, 1) := by decide +kernel
theorem dL_value_1 : decode cL_value 1 = .ok (.iconst 0, 1) := by decide +kernel
theorem dL_value_2 : decode cL_value 2 = .ok (.aload_n 0, 1) := by decide +kernel
theorem dL_value_3 : decode cL_value 3 = .ok (.iload_n 1, 1) := by decide +kernel
theorem dL_value_4 : decode cL_value 4 = .ok (.invokevirtual 26, 3) := by decide +kernel
theorem dL_value_7 : decode cL_value 7 = .ok (.i2l, 1) := by decide +kernel
theorem dL_value_8 : decode cL_value 8 = .ok (.lastore, 1) := by decide +kernel
theorem dL_value_9 : decode cL_value 9 = .ok (.goto 9, 3) := by decide +kernel
theorem dL_value_12 : decode cL_value 12 = .ok (.astore_n 3, 1) := by decide +kernel
theorem dL_value_13 : decode cL_value 13 = .ok (.iconst 1, 1) := by decide +kernel
theorem dL_value_14 : decode cL_value 14 = .ok (.ireturn, 1) := by decide +kernel
theorem dL_value_15 : decode cL_value 15 = .ok (.astore_n 3, 1) := by decide +kernel
theorem dL_value_16 : decode cL_value 16 = .ok (.iconst 2, 1) := by decide +kernel
theorem dL_value_17 : decode cL_value 17 = .ok (.ireturn, 1) := by decide +kernel
theorem dL_value_18 : decode cL_value 18 = .ok (.iconst 0, 1) := by decide +kernel
theorem dL_value_19 : decode cL_value 19 = .ok (.ireturn, 1) := by decide +kernel
theorem dL_copy_0 : decode cL_copy 0 = .ok (.aload_n 3, 1) := by decide +kernel
theorem dL_copy_1 : decode cL_copy 1 = .ok (.iconst 0, 1) := by decide +kernel
theorem dL_copy_2 : decode cL_copy 2 = .ok (.aload_n 0, 1) := by decide +kernel
theorem dL_copy_3 : decode cL_copy 3 = .ok (.iload_n 1, 1) := by decide +kernel
theorem dL_copy_4 : decode cL_copy 4 = .ok (.iload_n 2, 1) := by decide +kernel
theorem dL_copy_5 : decode cL_copy 5 = .ok (.invokevirtual 30, 3) := by decide +kernel
theorem dL_copy_8 : decode cL_copy 8 = .ok (.i2l, 1) := by decide +kernel
theorem dL_copy_9 : decode cL_copy 9 = .ok (.lastore, 1) := by decide +kernel
theorem dL_copy_10 : decode cL_copy 10 = .ok (.goto 7, 3) := by decide +kernel
theorem dL_copy_13 : decode cL_copy 13 = .ok (.astore 4, 2) := by decide +kernel
theorem dL_copy_15 : decode cL_copy 15 = .ok (.iconst 1, 1) := by decide +kernel
theorem dL_copy_16 : decode cL_copy 16 = .ok (.ireturn, 1) := by decide +kernel
theorem dL_copy_17 : decode cL_copy 17 = .ok (.iconst 0, 1) := by decide +kernel
theorem dL_copy_18 : decode cL_copy 18 = .ok (.ireturn, 1) := by decide +kernel
theorem dL_drop_0 : decode cL_drop 0 = .ok (.aload_n 2, 1) := by decide +kernel
theorem dL_drop_1 : decode cL_drop 1 = .ok (.iconst 0, 1) := by decide +kernel
theorem dL_drop_2 : decode cL_drop 2 = .ok (.aload_n 0, 1) := by decide +kernel
theorem dL_drop_3 : decode cL_drop 3 = .ok (.iload_n 1, 1) := by decide +kernel
theorem dL_drop_4 : decode cL_drop 4 = .ok (.invokevirtual 33, 3) := by decide +kernel
theorem dL_drop_7 : decode cL_drop 7 = .ok (.ifCond .eq 7, 3) := by decide +kernel
theorem dL_drop_10 : decode cL_drop 10 = .ok (.lconst 1, 1) := by decide +kernel
theorem dL_drop_11 : decode cL_drop 11 = .ok (.goto 4, 3) := by decide +kernel
theorem dL_drop_14 : decode cL_drop 14 = .ok (.lconst 0, 1) := by decide +kernel
theorem dL_drop_15 : decode cL_drop 15 = .ok (.lastore, 1) := by decide +kernel
theorem dL_drop_16 : decode cL_drop 16 = .ok (.goto 6, 3) := by decide +kernel
theorem dL_drop_19 : decode cL_drop 19 = .ok (.astore_n 3, 1) := by decide +kernel
theorem dL_drop_20 : decode cL_drop 20 = .ok (.iconst 1, 1) := by decide +kernel
theorem dL_drop_21 : decode cL_drop 21 = .ok (.ireturn, 1) := by decide +kernel
theorem dL_drop_22 : decode cL_drop 22 = .ok (.iconst 0, 1) := by decide +kernel
theorem dL_drop_23 : decode cL_drop 23 = .ok (.ireturn, 1) := by decide +kernel
theorem dL_budget_0 : decode cL_budget 0 = .ok (.aload_n 2, 1) := by decide +kernel
theorem dL_budget_1 : decode cL_budget 1 = .ok (.iconst 0, 1) := by decide +kernel
theorem dL_budget_2 : decode cL_budget 2 = .ok (.aload_n 0, 1) := by decide +kernel
theorem dL_budget_3 : decode cL_budget 3 = .ok (.iload_n 1, 1) := by decide +kernel
theorem dL_budget_4 : decode cL_budget 4 = .ok (.invokevirtual 37, 3) := by decide +kernel
theorem dL_budget_7 : decode cL_budget 7 = .ok (.i2l, 1) := by decide +kernel
theorem dL_budget_8 : decode cL_budget 8 = .ok (.lastore, 1) := by decide +kernel
theorem dL_budget_9 : decode cL_budget 9 = .ok (.goto 6, 3) := by decide +kernel
theorem dL_budget_12 : decode cL_budget 12 = .ok (.astore_n 3, 1) := by decide +kernel
theorem dL_budget_13 : decode cL_budget 13 = .ok (.iconst 1, 1) := by decide +kernel
theorem dL_budget_14 : decode cL_budget 14 = .ok (.ireturn, 1) := by decide +kernel
theorem dL_budget_15 : decode cL_budget 15 = .ok (.iconst 0, 1) := by decide +kernel
theorem dL_budget_16 : decode cL_budget 16 = .ok (.ireturn, 1) := by decide +kernel
theorem dL_law_0 : decode cL_law 0 = .ok (.new 8, 3) := by decide +kernel
theorem dL_law_3 : decode cL_law 3 = .ok (.dup, 1) := by decide +kernel
theorem dL_law_4 : decode cL_law 4 = .ok (.invokespecial 40, 3) := by decide +kernel
theorem dL_law_7 : decode cL_law 7 = .ok (.astore_n 1, 1) := by decide +kernel
theorem dL_law_8 : decode cL_law 8 = .ok (.new 41, 3) := by decide +kernel
theorem dL_law_11 : decode cL_law 11 = .ok (.dup, 1) := by decide +kernel
theorem dL_law_12 : decode cL_law 12 = .ok (.invokespecial 43, 3) := by decide +kernel
theorem dL_law_15 : decode cL_law 15 = .ok (.astore_n 2, 1) := by decide +kernel
theorem dL_law_16 : decode cL_law 16 = .ok (.iconst 1, 1) := by decide +kernel
theorem dL_law_17 : decode cL_law 17 = .ok (.newarray .long, 2) := by decide +kernel
theorem dL_law_19 : decode cL_law 19 = .ok (.astore_n 3, 1) := by decide +kernel
theorem dL_law_20 : decode cL_law 20 = .ok (.iconst 0, 1) := by decide +kernel
theorem dL_law_21 : decode cL_law 21 = .ok (.istore 4, 2) := by decide +kernel
theorem dL_law_23 : decode cL_law 23 = .ok (.iload 4, 2) := by decide +kernel
theorem dL_law_25 : decode cL_law 25 = .ok (.aload_n 0, 1) := by decide +kernel
theorem dL_law_26 : decode cL_law 26 = .ok (.arraylength, 1) := by decide +kernel
theorem dL_law_27 : decode cL_law 27 = .ok (.iconst 4, 1) := by decide +kernel
theorem dL_law_28 : decode cL_law 28 = .ok (.isub, 1) := by decide +kernel
theorem dL_law_29 : decode cL_law 29 = .ok (.if_icmp .gt 700, 3) := by decide +kernel
theorem dL_law_32 : decode cL_law 32 = .ok (.aload_n 0, 1) := by decide +kernel
theorem dL_law_33 : decode cL_law 33 = .ok (.iload 4, 2) := by decide +kernel
theorem dL_law_35 : decode cL_law 35 = .ok (.iaload, 1) := by decide +kernel
theorem dL_law_36 : decode cL_law 36 = .ok (.bipush 15, 2) := by decide +kernel
theorem dL_law_38 : decode cL_law 38 = .ok (.iand, 1) := by decide +kernel
theorem dL_law_39 : decode cL_law 39 = .ok (.tableswitch 684 0 14 #[73, 141, 221, 301, 357, 425, 488, 544, 557, 570, 583, 596, 621, 646, 671], 73) := by decide +kernel
theorem dL_law_112 : decode cL_law 112 = .ok (.aload_n 1, 1) := by decide +kernel
theorem dL_law_113 : decode cL_law 113 = .ok (.aload_n 0, 1) := by decide +kernel
theorem dL_law_114 : decode cL_law 114 = .ok (.iload 4, 2) := by decide +kernel
theorem dL_law_116 : decode cL_law 116 = .ok (.iconst 1, 1) := by decide +kernel
theorem dL_law_117 : decode cL_law 117 = .ok (.iadd, 1) := by decide +kernel
theorem dL_law_118 : decode cL_law 118 = .ok (.iaload, 1) := by decide +kernel
theorem dL_law_119 : decode cL_law 119 = .ok (.aload_n 0, 1) := by decide +kernel
theorem dL_law_120 : decode cL_law 120 = .ok (.iload 4, 2) := by decide +kernel
theorem dL_law_122 : decode cL_law 122 = .ok (.iconst 2, 1) := by decide +kernel
theorem dL_law_123 : decode cL_law 123 = .ok (.iadd, 1) := by decide +kernel
theorem dL_law_124 : decode cL_law 124 = .ok (.iaload, 1) := by decide +kernel
theorem dL_law_125 : decode cL_law 125 = .ok (.aload_n 3, 1) := by decide +kernel
theorem dL_law_126 : decode cL_law 126 = .ok (.invokestatic 44, 3) := by decide +kernel
theorem dL_law_129 : decode cL_law 129 = .ok (.istore 5, 2) := by decide +kernel
theorem dL_law_131 : decode cL_law 131 = .ok (.aload_n 2, 1) := by decide +kernel
theorem dL_law_132 : decode cL_law 132 = .ok (.aload_n 0, 1) := by decide +kernel
theorem dL_law_133 : decode cL_law 133 = .ok (.iload 4, 2) := by decide +kernel
theorem dL_law_135 : decode cL_law 135 = .ok (.iconst 1, 1) := by decide +kernel
theorem dL_law_136 : decode cL_law 136 = .ok (.iadd, 1) := by decide +kernel
theorem dL_law_137 : decode cL_law 137 = .ok (.iaload, 1) := by decide +kernel
theorem dL_law_138 : decode cL_law 138 = .ok (.aload_n 0, 1) := by decide +kernel
theorem dL_law_139 : decode cL_law 139 = .ok (.iload 4, 2) := by decide +kernel
theorem dL_law_141 : decode cL_law 141 = .ok (.iconst 2, 1) := by decide +kernel
theorem dL_law_142 : decode cL_law 142 = .ok (.iadd, 1) := by decide +kernel
theorem dL_law_143 : decode cL_law 143 = .ok (.iaload, 1) := by decide +kernel
theorem dL_law_144 : decode cL_law 144 = .ok (.invokevirtual 49, 3) := by decide +kernel
theorem dL_law_147 : decode cL_law 147 = .ok (.istore 6, 2) := by decide +kernel
theorem dL_law_149 : decode cL_law 149 = .ok (.aload_n 2, 1) := by decide +kernel
theorem dL_law_150 : decode cL_law 150 = .ok (.invokevirtual 50, 3) := by decide +kernel
theorem dL_law_153 : decode cL_law 153 = .ok (.iload 5, 2) := by decide +kernel
theorem dL_law_155 : decode cL_law 155 = .ok (.if_icmp .eq 5, 3) := by decide +kernel
theorem dL_law_158 : decode cL_law 158 = .ok (.iconst 0, 1) := by decide +kernel
theorem dL_law_159 : decode cL_law 159 = .ok (.ireturn, 1) := by decide +kernel
theorem dL_law_160 : decode cL_law 160 = .ok (.iload 5, 2) := by decide +kernel
theorem dL_law_162 : decode cL_law 162 = .ok (.ifCond .ne 15, 3) := by decide +kernel
theorem dL_law_165 : decode cL_law 165 = .ok (.aload_n 3, 1) := by decide +kernel
theorem dL_law_166 : decode cL_law 166 = .ok (.iconst 0, 1) := by decide +kernel
theorem dL_law_167 : decode cL_law 167 = .ok (.laload, 1) := by decide +kernel
theorem dL_law_168 : decode cL_law 168 = .ok (.iload 6, 2) := by decide +kernel
theorem dL_law_170 : decode cL_law 170 = .ok (.i2l, 1) := by decide +kernel
theorem dL_law_171 : decode cL_law 171 = .ok (.lcmp, 1) := by decide +kernel
theorem dL_law_172 : decode cL_law 172 = .ok (.ifCond .eq 5, 3) := by decide +kernel
theorem dL_law_175 : decode cL_law 175 = .ok (.iconst 0, 1) := by decide +kernel
theorem dL_law_176 : decode cL_law 176 = .ok (.ireturn, 1) := by decide +kernel
theorem dL_law_177 : decode cL_law 177 = .ok (.goto 546, 3) := by decide +kernel
theorem dL_law_180 : decode cL_law 180 = .ok (.aload_n 1, 1) := by decide +kernel
theorem dL_law_181 : decode cL_law 181 = .ok (.aload_n 0, 1) := by decide +kernel
theorem dL_law_182 : decode cL_law 182 = .ok (.iload 4, 2) := by decide +kernel
theorem dL_law_184 : decode cL_law 184 = .ok (.iconst 1, 1) := by decide +kernel
theorem dL_law_185 : decode cL_law 185 = .ok (.iadd, 1) := by decide +kernel
theorem dL_law_186 : decode cL_law 186 = .ok (.iaload, 1) := by decide +kernel
theorem dL_law_187 : decode cL_law 187 = .ok (.aload_n 0, 1) := by decide +kernel
theorem dL_law_188 : decode cL_law 188 = .ok (.iload 4, 2) := by decide +kernel
theorem dL_law_190 : decode cL_law 190 = .ok (.iconst 2, 1) := by decide +kernel
theorem dL_law_191 : decode cL_law 191 = .ok (.iadd, 1) := by decide +kernel
theorem dL_law_192 : decode cL_law 192 = .ok (.iaload, 1) := by decide +kernel
theorem dL_law_193 : decode cL_law 193 = .ok (.aload_n 0, 1) := by decide +kernel
theorem dL_law_194 : decode cL_law 194 = .ok (.iload 4, 2) := by decide +kernel
theorem dL_law_196 : decode cL_law 196 = .ok (.iconst 3, 1) := by decide +kernel
theorem dL_law_197 : decode cL_law 197 = .ok (.iadd, 1) := by decide +kernel
theorem dL_law_198 : decode cL_law 198 = .ok (.iaload, 1) := by decide +kernel
theorem dL_law_199 : decode cL_law 199 = .ok (.aload_n 3, 1) := by decide +kernel
theorem dL_law_200 : decode cL_law 200 = .ok (.invokestatic 54, 3) := by decide +kernel
theorem dL_law_203 : decode cL_law 203 = .ok (.istore 5, 2) := by decide +kernel
theorem dL_law_205 : decode cL_law 205 = .ok (.aload_n 2, 1) := by decide +kernel
theorem dL_law_206 : decode cL_law 206 = .ok (.aload_n 0, 1) := by decide +kernel
theorem dL_law_207 : decode cL_law 207 = .ok (.iload 4, 2) := by decide +kernel
theorem dL_law_209 : decode cL_law 209 = .ok (.iconst 1, 1) := by decide +kernel
theorem dL_law_210 : decode cL_law 210 = .ok (.iadd, 1) := by decide +kernel
theorem dL_law_211 : decode cL_law 211 = .ok (.iaload, 1) := by decide +kernel
theorem dL_law_212 : decode cL_law 212 = .ok (.aload_n 0, 1) := by decide +kernel
theorem dL_law_213 : decode cL_law 213 = .ok (.iload 4, 2) := by decide +kernel
theorem dL_law_215 : decode cL_law 215 = .ok (.iconst 2, 1) := by decide +kernel
theorem dL_law_216 : decode cL_law 216 = .ok (.iadd, 1) := by decide +kernel
theorem dL_law_217 : decode cL_law 217 = .ok (.iaload, 1) := by decide +kernel
theorem dL_law_218 : decode cL_law 218 = .ok (.aload_n 0, 1) := by decide +kernel
theorem dL_law_219 : decode cL_law 219 = .ok (.iload 4, 2) := by decide +kernel
theorem dL_law_221 : decode cL_law 221 = .ok (.iconst 3, 1) := by decide +kernel
theorem dL_law_222 : decode cL_law 222 = .ok (.iadd, 1) := by decide +kernel
theorem dL_law_223 : decode cL_law 223 = .ok (.iaload, 1) := by decide +kernel
theorem dL_law_224 : decode cL_law 224 = .ok (.invokevirtual 57, 3) := by decide +kernel
theorem dL_law_227 : decode cL_law 227 = .ok (.istore 6, 2) := by decide +kernel
theorem dL_law_229 : decode cL_law 229 = .ok (.aload_n 2, 1) := by decide +kernel
theorem dL_law_230 : decode cL_law 230 = .ok (.invokevirtual 50, 3) := by decide +kernel
theorem dL_law_233 : decode cL_law 233 = .ok (.iload 5, 2) := by decide +kernel
theorem dL_law_235 : decode cL_law 235 = .ok (.if_icmp .eq 5, 3) := by decide +kernel
theorem dL_law_238 : decode cL_law 238 = .ok (.iconst 0, 1) := by decide +kernel
theorem dL_law_239 : decode cL_law 239 = .ok (.ireturn, 1) := by decide +kernel
theorem dL_law_240 : decode cL_law 240 = .ok (.iload 5, 2) := by decide +kernel
theorem dL_law_242 : decode cL_law 242 = .ok (.ifCond .ne 15, 3) := by decide +kernel
theorem dL_law_245 : decode cL_law 245 = .ok (.aload_n 3, 1) := by decide +kernel
theorem dL_law_246 : decode cL_law 246 = .ok (.iconst 0, 1) := by decide +kernel
theorem dL_law_247 : decode cL_law 247 = .ok (.laload, 1) := by decide +kernel
theorem dL_law_248 : decode cL_law 248 = .ok (.iload 6, 2) := by decide +kernel
theorem dL_law_250 : decode cL_law 250 = .ok (.i2l, 1) := by decide +kernel
theorem dL_law_251 : decode cL_law 251 = .ok (.lcmp, 1) := by decide +kernel
theorem dL_law_252 : decode cL_law 252 = .ok (.ifCond .eq 5, 3) := by decide +kernel
theorem dL_law_255 : decode cL_law 255 = .ok (.iconst 0, 1) := by decide +kernel
theorem dL_law_256 : decode cL_law 256 = .ok (.ireturn, 1) := by decide +kernel
theorem dL_law_257 : decode cL_law 257 = .ok (.goto 466, 3) := by decide +kernel
theorem dL_law_260 : decode cL_law 260 = .ok (.aload_n 1, 1) := by decide +kernel
theorem dL_law_261 : decode cL_law 261 = .ok (.aload_n 0, 1) := by decide +kernel
theorem dL_law_262 : decode cL_law 262 = .ok (.iload 4, 2) := by decide +kernel
theorem dL_law_264 : decode cL_law 264 = .ok (.iconst 1, 1) := by decide +kernel
theorem dL_law_265 : decode cL_law 265 = .ok (.iadd, 1) := by decide +kernel
theorem dL_law_266 : decode cL_law 266 = .ok (.iaload, 1) := by decide +kernel
theorem dL_law_267 : decode cL_law 267 = .ok (.aload_n 0, 1) := by decide +kernel
theorem dL_law_268 : decode cL_law 268 = .ok (.iload 4, 2) := by decide +kernel
theorem dL_law_270 : decode cL_law 270 = .ok (.iconst 2, 1) := by decide +kernel
theorem dL_law_271 : decode cL_law 271 = .ok (.iadd, 1) := by decide +kernel
theorem dL_law_272 : decode cL_law 272 = .ok (.iaload, 1) := by decide +kernel
theorem dL_law_273 : decode cL_law 273 = .ok (.aload_n 0, 1) := by decide +kernel
theorem dL_law_274 : decode cL_law 274 = .ok (.iload 4, 2) := by decide +kernel
theorem dL_law_276 : decode cL_law 276 = .ok (.iconst 3, 1) := by decide +kernel
theorem dL_law_277 : decode cL_law 277 = .ok (.iadd, 1) := by decide +kernel
theorem dL_law_278 : decode cL_law 278 = .ok (.iaload, 1) := by decide +kernel
theorem dL_law_279 : decode cL_law 279 = .ok (.aload_n 3, 1) := by decide +kernel
theorem dL_law_280 : decode cL_law 280 = .ok (.invokestatic 58, 3) := by decide +kernel
theorem dL_law_283 : decode cL_law 283 = .ok (.istore 5, 2) := by decide +kernel
theorem dL_law_285 : decode cL_law 285 = .ok (.aload_n 2, 1) := by decide +kernel
theorem dL_law_286 : decode cL_law 286 = .ok (.aload_n 0, 1) := by decide +kernel
theorem dL_law_287 : decode cL_law 287 = .ok (.iload 4, 2) := by decide +kernel
theorem dL_law_289 : decode cL_law 289 = .ok (.iconst 1, 1) := by decide +kernel
theorem dL_law_290 : decode cL_law 290 = .ok (.iadd, 1) := by decide +kernel
theorem dL_law_291 : decode cL_law 291 = .ok (.iaload, 1) := by decide +kernel
theorem dL_law_292 : decode cL_law 292 = .ok (.aload_n 0, 1) := by decide +kernel
theorem dL_law_293 : decode cL_law 293 = .ok (.iload 4, 2) := by decide +kernel
theorem dL_law_295 : decode cL_law 295 = .ok (.iconst 2, 1) := by decide +kernel
theorem dL_law_296 : decode cL_law 296 = .ok (.iadd, 1) := by decide +kernel
theorem dL_law_297 : decode cL_law 297 = .ok (.iaload, 1) := by decide +kernel
theorem dL_law_298 : decode cL_law 298 = .ok (.aload_n 0, 1) := by decide +kernel
theorem dL_law_299 : decode cL_law 299 = .ok (.iload 4, 2) := by decide +kernel
theorem dL_law_301 : decode cL_law 301 = .ok (.iconst 3, 1) := by decide +kernel
theorem dL_law_302 : decode cL_law 302 = .ok (.iadd, 1) := by decide +kernel
theorem dL_law_303 : decode cL_law 303 = .ok (.iaload, 1) := by decide +kernel
theorem dL_law_304 : decode cL_law 304 = .ok (.invokevirtual 60, 3) := by decide +kernel
theorem dL_law_307 : decode cL_law 307 = .ok (.istore 6, 2) := by decide +kernel
theorem dL_law_309 : decode cL_law 309 = .ok (.aload_n 2, 1) := by decide +kernel
theorem dL_law_310 : decode cL_law 310 = .ok (.invokevirtual 50, 3) := by decide +kernel
theorem dL_law_313 : decode cL_law 313 = .ok (.iload 5, 2) := by decide +kernel
theorem dL_law_315 : decode cL_law 315 = .ok (.if_icmp .eq 5, 3) := by decide +kernel
theorem dL_law_318 : decode cL_law 318 = .ok (.iconst 0, 1) := by decide +kernel
theorem dL_law_319 : decode cL_law 319 = .ok (.ireturn, 1) := by decide +kernel
theorem dL_law_320 : decode cL_law 320 = .ok (.iload 5, 2) := by decide +kernel
theorem dL_law_322 : decode cL_law 322 = .ok (.ifCond .ne 15, 3) := by decide +kernel
theorem dL_law_325 : decode cL_law 325 = .ok (.aload_n 3, 1) := by decide +kernel
theorem dL_law_326 : decode cL_law 326 = .ok (.iconst 0, 1) := by decide +kernel
theorem dL_law_327 : decode cL_law 327 = .ok (.laload, 1) := by decide +kernel
theorem dL_law_328 : decode cL_law 328 = .ok (.iload 6, 2) := by decide +kernel
theorem dL_law_330 : decode cL_law 330 = .ok (.i2l, 1) := by decide +kernel
theorem dL_law_331 : decode cL_law 331 = .ok (.lcmp, 1) := by decide +kernel
theorem dL_law_332 : decode cL_law 332 = .ok (.ifCond .eq 5, 3) := by decide +kernel
theorem dL_law_335 : decode cL_law 335 = .ok (.iconst 0, 1) := by decide +kernel
theorem dL_law_336 : decode cL_law 336 = .ok (.ireturn, 1) := by decide +kernel
theorem dL_law_337 : decode cL_law 337 = .ok (.goto 386, 3) := by decide +kernel
theorem dL_law_340 : decode cL_law 340 = .ok (.aload_n 1, 1) := by decide +kernel
theorem dL_law_341 : decode cL_law 341 = .ok (.aload_n 0, 1) := by decide +kernel
theorem dL_law_342 : decode cL_law 342 = .ok (.iload 4, 2) := by decide +kernel
theorem dL_law_344 : decode cL_law 344 = .ok (.iconst 1, 1) := by decide +kernel
theorem dL_law_345 : decode cL_law 345 = .ok (.iadd, 1) := by decide +kernel
theorem dL_law_346 : decode cL_law 346 = .ok (.iaload, 1) := by decide +kernel
theorem dL_law_347 : decode cL_law 347 = .ok (.aload_n 3, 1) := by decide +kernel
theorem dL_law_348 : decode cL_law 348 = .ok (.invokestatic 61, 3) := by decide +kernel
theorem dL_law_351 : decode cL_law 351 = .ok (.istore 5, 2) := by decide +kernel
theorem dL_law_353 : decode cL_law 353 = .ok (.aload_n 2, 1) := by decide +kernel
theorem dL_law_354 : decode cL_law 354 = .ok (.aload_n 0, 1) := by decide +kernel
theorem dL_law_355 : decode cL_law 355 = .ok (.iload 4, 2) := by decide +kernel
theorem dL_law_357 : decode cL_law 357 = .ok (.iconst 1, 1) := by decide +kernel
theorem dL_law_358 : decode cL_law 358 = .ok (.iadd, 1) := by decide +kernel
theorem dL_law_359 : decode cL_law 359 = .ok (.iaload, 1) := by decide +kernel
theorem dL_law_360 : decode cL_law 360 = .ok (.invokevirtual 64, 3) := by decide +kernel
theorem dL_law_363 : decode cL_law 363 = .ok (.istore 6, 2) := by decide +kernel
theorem dL_law_365 : decode cL_law 365 = .ok (.aload_n 2, 1) := by decide +kernel
theorem dL_law_366 : decode cL_law 366 = .ok (.invokevirtual 50, 3) := by decide +kernel
theorem dL_law_369 : decode cL_law 369 = .ok (.iload 5, 2) := by decide +kernel
theorem dL_law_371 : decode cL_law 371 = .ok (.if_icmp .eq 5, 3) := by decide +kernel
theorem dL_law_374 : decode cL_law 374 = .ok (.iconst 0, 1) := by decide +kernel
theorem dL_law_375 : decode cL_law 375 = .ok (.ireturn, 1) := by decide +kernel
theorem dL_law_376 : decode cL_law 376 = .ok (.iload 5, 2) := by decide +kernel
theorem dL_law_378 : decode cL_law 378 = .ok (.ifCond .ne 15, 3) := by decide +kernel
theorem dL_law_381 : decode cL_law 381 = .ok (.aload_n 3, 1) := by decide +kernel
theorem dL_law_382 : decode cL_law 382 = .ok (.iconst 0, 1) := by decide +kernel
theorem dL_law_383 : decode cL_law 383 = .ok (.laload, 1) := by decide +kernel
theorem dL_law_384 : decode cL_law 384 = .ok (.iload 6, 2) := by decide +kernel
theorem dL_law_386 : decode cL_law 386 = .ok (.i2l, 1) := by decide +kernel
theorem dL_law_387 : decode cL_law 387 = .ok (.lcmp, 1) := by decide +kernel
theorem dL_law_388 : decode cL_law 388 = .ok (.ifCond .eq 5, 3) := by decide +kernel
theorem dL_law_391 : decode cL_law 391 = .ok (.iconst 0, 1) := by decide +kernel
theorem dL_law_392 : decode cL_law 392 = .ok (.ireturn, 1) := by decide +kernel
theorem dL_law_393 : decode cL_law 393 = .ok (.goto 330, 3) := by decide +kernel
theorem dL_law_396 : decode cL_law 396 = .ok (.aload_n 1, 1) := by decide +kernel
theorem dL_law_397 : decode cL_law 397 = .ok (.aload_n 0, 1) := by decide +kernel
theorem dL_law_398 : decode cL_law 398 = .ok (.iload 4, 2) := by decide +kernel
theorem dL_law_400 : decode cL_law 400 = .ok (.iconst 1, 1) := by decide +kernel
theorem dL_law_401 : decode cL_law 401 = .ok (.iadd, 1) := by decide +kernel
theorem dL_law_402 : decode cL_law 402 = .ok (.iaload, 1) := by decide +kernel
theorem dL_law_403 : decode cL_law 403 = .ok (.aload_n 0, 1) := by decide +kernel
theorem dL_law_404 : decode cL_law 404 = .ok (.iload 4, 2) := by decide +kernel
theorem dL_law_406 : decode cL_law 406 = .ok (.iconst 2, 1) := by decide +kernel
theorem dL_law_407 : decode cL_law 407 = .ok (.iadd, 1) := by decide +kernel
theorem dL_law_408 : decode cL_law 408 = .ok (.iaload, 1) := by decide +kernel
theorem dL_law_409 : decode cL_law 409 = .ok (.aload_n 3, 1) := by decide +kernel
theorem dL_law_410 : decode cL_law 410 = .ok (.invokestatic 65, 3) := by decide +kernel
theorem dL_law_413 : decode cL_law 413 = .ok (.istore 5, 2) := by decide +kernel
theorem dL_law_415 : decode cL_law 415 = .ok (.aload_n 2, 1) := by decide +kernel
theorem dL_law_416 : decode cL_law 416 = .ok (.aload_n 0, 1) := by decide +kernel
theorem dL_law_417 : decode cL_law 417 = .ok (.iload 4, 2) := by decide +kernel
theorem dL_law_419 : decode cL_law 419 = .ok (.iconst 1, 1) := by decide +kernel
theorem dL_law_420 : decode cL_law 420 = .ok (.iadd, 1) := by decide +kernel
theorem dL_law_421 : decode cL_law 421 = .ok (.iaload, 1) := by decide +kernel
theorem dL_law_422 : decode cL_law 422 = .ok (.aload_n 0, 1) := by decide +kernel
theorem dL_law_423 : decode cL_law 423 = .ok (.iload 4, 2) := by decide +kernel
theorem dL_law_425 : decode cL_law 425 = .ok (.iconst 2, 1) := by decide +kernel
theorem dL_law_426 : decode cL_law 426 = .ok (.iadd, 1) := by decide +kernel
theorem dL_law_427 : decode cL_law 427 = .ok (.iaload, 1) := by decide +kernel
theorem dL_law_428 : decode cL_law 428 = .ok (.invokevirtual 67, 3) := by decide +kernel
theorem dL_law_431 : decode cL_law 431 = .ok (.istore 6, 2) := by decide +kernel
theorem dL_law_433 : decode cL_law 433 = .ok (.aload_n 2, 1) := by decide +kernel
theorem dL_law_434 : decode cL_law 434 = .ok (.invokevirtual 50, 3) := by decide +kernel
theorem dL_law_437 : decode cL_law 437 = .ok (.iload 5, 2) := by decide +kernel
theorem dL_law_439 : decode cL_law 439 = .ok (.if_icmp .eq 5, 3) := by decide +kernel
theorem dL_law_442 : decode cL_law 442 = .ok (.iconst 0, 1) := by decide +kernel
theorem dL_law_443 : decode cL_law 443 = .ok (.ireturn, 1) := by decide +kernel
theorem dL_law_444 : decode cL_law 444 = .ok (.iload 5, 2) := by decide +kernel
theorem dL_law_446 : decode cL_law 446 = .ok (.ifCond .ne 15, 3) := by decide +kernel
theorem dL_law_449 : decode cL_law 449 = .ok (.aload_n 3, 1) := by decide +kernel
theorem dL_law_450 : decode cL_law 450 = .ok (.iconst 0, 1) := by decide +kernel
theorem dL_law_451 : decode cL_law 451 = .ok (.laload, 1) := by decide +kernel
theorem dL_law_452 : decode cL_law 452 = .ok (.iload 6, 2) := by decide +kernel
theorem dL_law_454 : decode cL_law 454 = .ok (.i2l, 1) := by decide +kernel
theorem dL_law_455 : decode cL_law 455 = .ok (.lcmp, 1) := by decide +kernel
theorem dL_law_456 : decode cL_law 456 = .ok (.ifCond .eq 5, 3) := by decide +kernel
theorem dL_law_459 : decode cL_law 459 = .ok (.iconst 0, 1) := by decide +kernel
theorem dL_law_460 : decode cL_law 460 = .ok (.ireturn, 1) := by decide +kernel
theorem dL_law_461 : decode cL_law 461 = .ok (.goto 262, 3) := by decide +kernel
theorem dL_law_464 : decode cL_law 464 = .ok (.aload_n 1, 1) := by decide +kernel
theorem dL_law_465 : decode cL_law 465 = .ok (.aload_n 0, 1) := by decide +kernel
theorem dL_law_466 : decode cL_law 466 = .ok (.iload 4, 2) := by decide +kernel
theorem dL_law_468 : decode cL_law 468 = .ok (.iconst 1, 1) := by decide +kernel
theorem dL_law_469 : decode cL_law 469 = .ok (.iadd, 1) := by decide +kernel
theorem dL_law_470 : decode cL_law 470 = .ok (.iaload, 1) := by decide +kernel
theorem dL_law_471 : decode cL_law 471 = .ok (.aload_n 3, 1) := by decide +kernel
theorem dL_law_472 : decode cL_law 472 = .ok (.invokestatic 68, 3) := by decide +kernel
theorem dL_law_475 : decode cL_law 475 = .ok (.istore 5, 2) := by decide +kernel
theorem dL_law_477 : decode cL_law 477 = .ok (.aload_n 2, 1) := by decide +kernel
theorem dL_law_478 : decode cL_law 478 = .ok (.aload_n 0, 1) := by decide +kernel
theorem dL_law_479 : decode cL_law 479 = .ok (.iload 4, 2) := by decide +kernel
theorem dL_law_481 : decode cL_law 481 = .ok (.iconst 1, 1) := by decide +kernel
theorem dL_law_482 : decode cL_law 482 = .ok (.iadd, 1) := by decide +kernel
theorem dL_law_483 : decode cL_law 483 = .ok (.iaload, 1) := by decide +kernel
theorem dL_law_484 : decode cL_law 484 = .ok (.invokevirtual 70, 3) := by decide +kernel
theorem dL_law_487 : decode cL_law 487 = .ok (.istore 6, 2) := by decide +kernel
theorem dL_law_489 : decode cL_law 489 = .ok (.aload_n 2, 1) := by decide +kernel
theorem dL_law_490 : decode cL_law 490 = .ok (.invokevirtual 50, 3) := by decide +kernel
theorem dL_law_493 : decode cL_law 493 = .ok (.iload 5, 2) := by decide +kernel
theorem dL_law_495 : decode cL_law 495 = .ok (.if_icmp .eq 5, 3) := by decide +kernel
theorem dL_law_498 : decode cL_law 498 = .ok (.iconst 0, 1) := by decide +kernel
theorem dL_law_499 : decode cL_law 499 = .ok (.ireturn, 1) := by decide +kernel
theorem dL_law_500 : decode cL_law 500 = .ok (.iload 5, 2) := by decide +kernel
theorem dL_law_502 : decode cL_law 502 = .ok (.ifCond .ne 22, 3) := by decide +kernel
theorem dL_law_505 : decode cL_law 505 = .ok (.aload_n 3, 1) := by decide +kernel
theorem dL_law_506 : decode cL_law 506 = .ok (.iconst 0, 1) := by decide +kernel
theorem dL_law_507 : decode cL_law 507 = .ok (.laload, 1) := by decide +kernel
theorem dL_law_508 : decode cL_law 508 = .ok (.iload 6, 2) := by decide +kernel
theorem dL_law_510 : decode cL_law 510 = .ok (.ifCond .eq 7, 3) := by decide +kernel
theorem dL_law_513 : decode cL_law 513 = .ok (.lconst 1, 1) := by decide +kernel
theorem dL_law_514 : decode cL_law 514 = .ok (.goto 4, 3) := by decide +kernel
theorem dL_law_517 : decode cL_law 517 = .ok (.lconst 0, 1) := by decide +kernel
theorem dL_law_518 : decode cL_law 518 = .ok (.lcmp, 1) := by decide +kernel
theorem dL_law_519 : decode cL_law 519 = .ok (.ifCond .eq 5, 3) := by decide +kernel
theorem dL_law_522 : decode cL_law 522 = .ok (.iconst 0, 1) := by decide +kernel
theorem dL_law_523 : decode cL_law 523 = .ok (.ireturn, 1) := by decide +kernel
theorem dL_law_524 : decode cL_law 524 = .ok (.goto 199, 3) := by decide +kernel
theorem dL_law_527 : decode cL_law 527 = .ok (.aload_n 1, 1) := by decide +kernel
theorem dL_law_528 : decode cL_law 528 = .ok (.aload_n 0, 1) := by decide +kernel
theorem dL_law_529 : decode cL_law 529 = .ok (.iload 4, 2) := by decide +kernel
theorem dL_law_531 : decode cL_law 531 = .ok (.iconst 1, 1) := by decide +kernel
theorem dL_law_532 : decode cL_law 532 = .ok (.iadd, 1) := by decide +kernel
theorem dL_law_533 : decode cL_law 533 = .ok (.iaload, 1) := by decide +kernel
theorem dL_law_534 : decode cL_law 534 = .ok (.aload_n 3, 1) := by decide +kernel
theorem dL_law_535 : decode cL_law 535 = .ok (.invokestatic 71, 3) := by decide +kernel
theorem dL_law_538 : decode cL_law 538 = .ok (.istore 5, 2) := by decide +kernel
theorem dL_law_540 : decode cL_law 540 = .ok (.aload_n 2, 1) := by decide +kernel
theorem dL_law_541 : decode cL_law 541 = .ok (.aload_n 0, 1) := by decide +kernel
theorem dL_law_542 : decode cL_law 542 = .ok (.iload 4, 2) := by decide +kernel
theorem dL_law_544 : decode cL_law 544 = .ok (.iconst 1, 1) := by decide +kernel
theorem dL_law_545 : decode cL_law 545 = .ok (.iadd, 1) := by decide +kernel
theorem dL_law_546 : decode cL_law 546 = .ok (.iaload, 1) := by decide +kernel
theorem dL_law_547 : decode cL_law 547 = .ok (.invokevirtual 73, 3) := by decide +kernel
theorem dL_law_550 : decode cL_law 550 = .ok (.istore 6, 2) := by decide +kernel
theorem dL_law_552 : decode cL_law 552 = .ok (.aload_n 2, 1) := by decide +kernel
theorem dL_law_553 : decode cL_law 553 = .ok (.invokevirtual 50, 3) := by decide +kernel
theorem dL_law_556 : decode cL_law 556 = .ok (.iload 5, 2) := by decide +kernel
theorem dL_law_558 : decode cL_law 558 = .ok (.if_icmp .eq 5, 3) := by decide +kernel
theorem dL_law_561 : decode cL_law 561 = .ok (.iconst 0, 1) := by decide +kernel
theorem dL_law_562 : decode cL_law 562 = .ok (.ireturn, 1) := by decide +kernel
theorem dL_law_563 : decode cL_law 563 = .ok (.iload 5, 2) := by decide +kernel
theorem dL_law_565 : decode cL_law 565 = .ok (.ifCond .ne 15, 3) := by decide +kernel
theorem dL_law_568 : decode cL_law 568 = .ok (.aload_n 3, 1) := by decide +kernel
theorem dL_law_569 : decode cL_law 569 = .ok (.iconst 0, 1) := by decide +kernel
theorem dL_law_570 : decode cL_law 570 = .ok (.laload, 1) := by decide +kernel
theorem dL_law_571 : decode cL_law 571 = .ok (.iload 6, 2) := by decide +kernel
theorem dL_law_573 : decode cL_law 573 = .ok (.i2l, 1) := by decide +kernel
theorem dL_law_574 : decode cL_law 574 = .ok (.lcmp, 1) := by decide +kernel
theorem dL_law_575 : decode cL_law 575 = .ok (.ifCond .eq 5, 3) := by decide +kernel
theorem dL_law_578 : decode cL_law 578 = .ok (.iconst 0, 1) := by decide +kernel
theorem dL_law_579 : decode cL_law 579 = .ok (.ireturn, 1) := by decide +kernel
theorem dL_law_580 : decode cL_law 580 = .ok (.goto 143, 3) := by decide +kernel
theorem dL_law_583 : decode cL_law 583 = .ok (.aload_n 1, 1) := by decide +kernel
theorem dL_law_584 : decode cL_law 584 = .ok (.invokevirtual 74, 3) := by decide +kernel
theorem dL_law_587 : decode cL_law 587 = .ok (.aload_n 2, 1) := by decide +kernel
theorem dL_law_588 : decode cL_law 588 = .ok (.invokevirtual 77, 3) := by decide +kernel
theorem dL_law_591 : decode cL_law 591 = .ok (.if_icmp .eq 132, 3) := by decide +kernel
theorem dL_law_594 : decode cL_law 594 = .ok (.iconst 0, 1) := by decide +kernel
theorem dL_law_595 : decode cL_law 595 = .ok (.ireturn, 1) := by decide +kernel
theorem dL_law_596 : decode cL_law 596 = .ok (.aload_n 1, 1) := by decide +kernel
theorem dL_law_597 : decode cL_law 597 = .ok (.invokevirtual 78, 3) := by decide +kernel
theorem dL_law_600 : decode cL_law 600 = .ok (.aload_n 2, 1) := by decide +kernel
theorem dL_law_601 : decode cL_law 601 = .ok (.invokevirtual 81, 3) := by decide +kernel
theorem dL_law_604 : decode cL_law 604 = .ok (.if_icmp .eq 119, 3) := by decide +kernel
theorem dL_law_607 : decode cL_law 607 = .ok (.iconst 0, 1) := by decide +kernel
theorem dL_law_608 : decode cL_law 608 = .ok (.ireturn, 1) := by decide +kernel
theorem dL_law_609 : decode cL_law 609 = .ok (.aload_n 1, 1) := by decide +kernel
theorem dL_law_610 : decode cL_law 610 = .ok (.invokevirtual 82, 3) := by decide +kernel
theorem dL_law_613 : decode cL_law 613 = .ok (.aload_n 2, 1) := by decide +kernel
theorem dL_law_614 : decode cL_law 614 = .ok (.invokevirtual 85, 3) := by decide +kernel
theorem dL_law_617 : decode cL_law 617 = .ok (.if_icmp .eq 106, 3) := by decide +kernel
theorem dL_law_620 : decode cL_law 620 = .ok (.iconst 0, 1) := by decide +kernel
theorem dL_law_621 : decode cL_law 621 = .ok (.ireturn, 1) := by decide +kernel
theorem dL_law_622 : decode cL_law 622 = .ok (.aload_n 1, 1) := by decide +kernel
theorem dL_law_623 : decode cL_law 623 = .ok (.invokevirtual 86, 3) := by decide +kernel
theorem dL_law_626 : decode cL_law 626 = .ok (.aload_n 2, 1) := by decide +kernel
theorem dL_law_627 : decode cL_law 627 = .ok (.invokevirtual 89, 3) := by decide +kernel
theorem dL_law_630 : decode cL_law 630 = .ok (.if_icmp .eq 93, 3) := by decide +kernel
theorem dL_law_633 : decode cL_law 633 = .ok (.iconst 0, 1) := by decide +kernel
theorem dL_law_634 : decode cL_law 634 = .ok (.ireturn, 1) := by decide +kernel
theorem dL_law_635 : decode cL_law 635 = .ok (.aload_n 1, 1) := by decide +kernel
theorem dL_law_636 : decode cL_law 636 = .ok (.aload_n 0, 1) := by decide +kernel
theorem dL_law_637 : decode cL_law 637 = .ok (.iload 4, 2) := by decide +kernel
theorem dL_law_639 : decode cL_law 639 = .ok (.iconst 1, 1) := by decide +kernel
theorem dL_law_640 : decode cL_law 640 = .ok (.iadd, 1) := by decide +kernel
theorem dL_law_641 : decode cL_law 641 = .ok (.iaload, 1) := by decide +kernel
theorem dL_law_642 : decode cL_law 642 = .ok (.invokevirtual 90, 3) := by decide +kernel
theorem dL_law_645 : decode cL_law 645 = .ok (.aload_n 2, 1) := by decide +kernel
theorem dL_law_646 : decode cL_law 646 = .ok (.aload_n 0, 1) := by decide +kernel
theorem dL_law_647 : decode cL_law 647 = .ok (.iload 4, 2) := by decide +kernel
theorem dL_law_649 : decode cL_law 649 = .ok (.iconst 1, 1) := by decide +kernel
theorem dL_law_650 : decode cL_law 650 = .ok (.iadd, 1) := by decide +kernel
theorem dL_law_651 : decode cL_law 651 = .ok (.iaload, 1) := by decide +kernel
theorem dL_law_652 : decode cL_law 652 = .ok (.invokevirtual 93, 3) := by decide +kernel
theorem dL_law_655 : decode cL_law 655 = .ok (.if_icmp .eq 68, 3) := by decide +kernel
theorem dL_law_658 : decode cL_law 658 = .ok (.iconst 0, 1) := by decide +kernel
theorem dL_law_659 : decode cL_law 659 = .ok (.ireturn, 1) := by decide +kernel
theorem dL_law_660 : decode cL_law 660 = .ok (.aload_n 1, 1) := by decide +kernel
theorem dL_law_661 : decode cL_law 661 = .ok (.aload_n 0, 1) := by decide +kernel
theorem dL_law_662 : decode cL_law 662 = .ok (.iload 4, 2) := by decide +kernel
theorem dL_law_664 : decode cL_law 664 = .ok (.iconst 1, 1) := by decide +kernel
theorem dL_law_665 : decode cL_law 665 = .ok (.iadd, 1) := by decide +kernel
theorem dL_law_666 : decode cL_law 666 = .ok (.iaload, 1) := by decide +kernel
theorem dL_law_667 : decode cL_law 667 = .ok (.invokevirtual 94, 3) := by decide +kernel
theorem dL_law_670 : decode cL_law 670 = .ok (.aload_n 2, 1) := by decide +kernel
theorem dL_law_671 : decode cL_law 671 = .ok (.aload_n 0, 1) := by decide +kernel
theorem dL_law_672 : decode cL_law 672 = .ok (.iload 4, 2) := by decide +kernel
theorem dL_law_674 : decode cL_law 674 = .ok (.iconst 1, 1) := by decide +kernel
theorem dL_law_675 : decode cL_law 675 = .ok (.iadd, 1) := by decide +kernel
theorem dL_law_676 : decode cL_law 676 = .ok (.iaload, 1) := by decide +kernel
theorem dL_law_677 : decode cL_law 677 = .ok (.invokevirtual 97, 3) := by decide +kernel
theorem dL_law_680 : decode cL_law 680 = .ok (.if_icmp .eq 43, 3) := by decide +kernel
theorem dL_law_683 : decode cL_law 683 = .ok (.iconst 0, 1) := by decide +kernel
theorem dL_law_684 : decode cL_law 684 = .ok (.ireturn, 1) := by decide +kernel
theorem dL_law_685 : decode cL_law 685 = .ok (.aload_n 1, 1) := by decide +kernel
theorem dL_law_686 : decode cL_law 686 = .ok (.aload_n 0, 1) := by decide +kernel
theorem dL_law_687 : decode cL_law 687 = .ok (.iload 4, 2) := by decide +kernel
theorem dL_law_689 : decode cL_law 689 = .ok (.iconst 1, 1) := by decide +kernel
theorem dL_law_690 : decode cL_law 690 = .ok (.iadd, 1) := by decide +kernel
theorem dL_law_691 : decode cL_law 691 = .ok (.iaload, 1) := by decide +kernel
theorem dL_law_692 : decode cL_law 692 = .ok (.invokevirtual 98, 3) := by decide +kernel
theorem dL_law_695 : decode cL_law 695 = .ok (.aload_n 2, 1) := by decide +kernel
theorem dL_law_696 : decode cL_law 696 = .ok (.aload_n 0, 1) := by decide +kernel
theorem dL_law_697 : decode cL_law 697 = .ok (.iload 4, 2) := by decide +kernel
theorem dL_law_699 : decode cL_law 699 = .ok (.iconst 1, 1) := by decide +kernel
theorem dL_law_700 : decode cL_law 700 = .ok (.iadd, 1) := by decide +kernel
theorem dL_law_701 : decode cL_law 701 = .ok (.iaload, 1) := by decide +kernel
theorem dL_law_702 : decode cL_law 702 = .ok (.invokevirtual 101, 3) := by decide +kernel
theorem dL_law_705 : decode cL_law 705 = .ok (.if_icmp .eq 18, 3) := by decide +kernel
theorem dL_law_708 : decode cL_law 708 = .ok (.iconst 0, 1) := by decide +kernel
theorem dL_law_709 : decode cL_law 709 = .ok (.ireturn, 1) := by decide +kernel
theorem dL_law_710 : decode cL_law 710 = .ok (.aload_n 1, 1) := by decide +kernel
theorem dL_law_711 : decode cL_law 711 = .ok (.invokevirtual 102, 3) := by decide +kernel
theorem dL_law_714 : decode cL_law 714 = .ok (.aload_n 2, 1) := by decide +kernel
theorem dL_law_715 : decode cL_law 715 = .ok (.invokevirtual 105, 3) := by decide +kernel
theorem dL_law_718 : decode cL_law 718 = .ok (.if_icmp .eq 5, 3) := by decide +kernel
theorem dL_law_721 : decode cL_law 721 = .ok (.iconst 0, 1) := by decide +kernel
theorem dL_law_722 : decode cL_law 722 = .ok (.ireturn, 1) := by decide +kernel
theorem dL_law_723 : decode cL_law 723 = .ok (.iinc 4 4, 3) := by decide +kernel
theorem dL_law_726 : decode cL_law 726 = .ok (.goto (-703), 3) := by decide +kernel
theorem dL_law_729 : decode cL_law 729 = .ok (.iconst 1, 1) := by decide +kernel
theorem dL_law_730 : decode cL_law 730 = .ok (.ireturn, 1) := by decide +kernel
end
section
/-! numbers of the two classes: booleans, places; loops; the standing facts of a method; contracts -/
def bI (b : Bool) : Int32 := if b = true then 1 else 0
def oI (x : Option (Fin 32)) : Int32 := match x with
  | none => -1
  | some k => nI k.val
theorem bI_f : bI false = nI 0 := by decide +kernel
theorem bI_t : bI true = nI 1 := by decide +kernel
theorem bI_nar (b : Bool) : narrow .boolean (.int (bI b)) = .int (bI b) := by cases b <;> rfl
theorem bI_vn (b : Bool) : vp_nar .boolean (bI b) = bI b := by cases b <;> rfl
theorem bI_0 {b : Bool} : bI b = 0 ↔ b = false := by cases b <;> decide
theorem oI_m1 {x : Option (Fin 32)} : oI x = -1 ↔ x = none := by
  cases x with
  | none => exact ⟨fun _ => rfl, fun _ => rfl⟩
  | some k =>
    refine ⟨fun h => ?_, fun h => by cases h⟩
    exfalso
    have h1 : ¬ nI k.val < 0 := nI_pos (by have := k.isLt; omega)
    have h2 : nI k.val = -1 := h
    rw [h2] at h1
    exact h1 (by decide)
theorem oI_lt {x : Option (Fin 32)} : oI x < 0 ↔ x = none := by
  cases x with
  | none => exact ⟨fun _ => rfl, fun _ => by show (-1 : Int32) < 0; decide⟩
  | some k => exact ⟨fun h => absurd h (nI_pos (by have := k.isLt; omega)), fun h => by cases h⟩
theorem oI_eq {x : Option (Fin 32)} {k : Nat} (hk : k < 32) : oI x = nI k ↔ x = some ⟨k, hk⟩ := by
  cases x with
  | none =>
    refine ⟨fun h => ?_, fun h => by cases h⟩
    exfalso
    have h1 : ¬ nI k < 0 := nI_pos (by omega)
    have h2 : -1 = nI k := h
    rw [← h2] at h1
    exact h1 (by decide)
  | some j =>
    refine ⟨fun h => ?_, fun h => by cases h; rfl⟩
    have h2 : nI j.val = nI k := h
    have h3 := (nI_eq (by have := j.isLt; omega) (by omega)).mp h2
    exact congrArg some (Fin.ext h3)
/-- how many of the first n -/
def cntN (f : Nat → Bool) : Nat → Nat
  | 0 => 0
  | n + 1 => cntN f n + (if f n = true then 1 else 0)
/-- one of the first n -/
def anyN (f : Nat → Bool) : Nat → Bool
  | 0 => false
  | n + 1 => anyN f n || f n
/-- a loop of n turns -/
def fldN {α : Type} (f : Nat → α → α) (s : α) : Nat → α
  | 0 => s
  | n + 1 => f n (fldN f s n)
/-- the least of the first n -/
def fstN (f : Nat → Bool) : Nat → Option Nat
  | 0 => none
  | n + 1 => match fstN f n with
    | some i => some i
    | none => if f n = true then some n else none
theorem cntN_le (f : Nat → Bool) : ∀ n, cntN f n ≤ n
  | 0 => Nat.le_refl 0
  | n + 1 => by
    have := cntN_le f n
    show cntN f n + (if f n = true then 1 else 0) ≤ n + 1
    split <;> omega
theorem anyN_t {f : Nat → Bool} {i : Nat} (h : f i = true) : ∀ {n : Nat}, i < n → anyN f n = true
  | 0, hi => absurd hi (Nat.not_lt_zero i)
  | n + 1, hi => by
    show (anyN f n || f n) = true
    rcases Nat.lt_or_ge i n with q | q
    · rw [anyN_t h q]; rfl
    · have e : i = n := by omega
      rw [← e, h, Bool.or_true]
theorem anyN_f {f : Nat → Bool} : ∀ {n : Nat}, (∀ j, j < n → f j = false) → anyN f n = false
  | 0, _ => rfl
  | n + 1, h => by
    show (anyN f n || f n) = false
    rw [anyN_f (fun j hj => h j (by omega)), h n (by omega)]; rfl
theorem anyN_iff {f : Nat → Bool} {n : Nat} : anyN f n = true ↔ ∃ i, i < n ∧ f i = true := by
  refine ⟨fun h => ?_, fun ⟨i, h1, h2⟩ => anyN_t h2 h1⟩
  by_cases q : ∃ i, i < n ∧ f i = true
  · exact q
  · rw [anyN_f (fun j hj => by
      cases hf : f j with
      | false => rfl
      | true => exact absurd ⟨j, hj, hf⟩ q)] at h
    cases h
theorem fstN_none {f : Nat → Bool} : ∀ {n : Nat}, (∀ j, j < n → f j = false) → fstN f n = none
  | 0, _ => rfl
  | n + 1, h => by
    show (match fstN f n with | some i => some i | none => if f n = true then some n else none) = none
    rw [fstN_none (fun j hj => h j (by omega)), h n (by omega)]; rfl
theorem fstN_hit {f : Nat → Bool} {i : Nat} (h : f i = true) (hl : ∀ j, j < i → f j = false) : ∀ {n : Nat}, i < n → fstN f n = some i
  | 0, hi => absurd hi (Nat.not_lt_zero i)
  | n + 1, hi => by
    show (match fstN f n with | some i => some i | none => if f n = true then some n else none) = some i
    rcases Nat.lt_or_ge i n with q | q
    · rw [fstN_hit h hl q]
    · have e : i = n := by omega
      subst e
      rw [fstN_none hl, h]; rfl
abbrev GG : Type := va_G × ClassId × ClassId × ClassId
abbrev bw_cl : List vw_C := [(RH, FH, 14), (RM, FM, 12)]
abbrev bw_ty (g : GG) : List (ClassId × FieldType) := [(g.2.1, .boolean), (g.2.2.1, .int), (g.2.2.2, .long)]
/-- what stands through a method's whole body -/
def Cx (own : String) (g : GG) (p : Program) (S : State) (m : MethodId) (args : Array Value) (meth : Method) (c : Code) (cc : ByteArray) (nL : Nat) (ret : Option FieldType) : Prop :=
  p.tables.exec = Jvm.exec ∧ c.code = cc ∧ meth.sig.returnType = ret ∧ c.maxLocals = nL ∧ S.vm.findClass own = some m.cls ∧ (∀ w ∈ bw_G, w.before args S = true) ∧ va_K g.1 bw_cl (bw_ty g) S ∧ meth.locks = false
/-- the world as it is now -/
def Yw {τ : Type} (g : GG) (ω : τ → va_W) (A : Nat → Prop) (S : State) (H : Heap) (locs : List Loc) (t : τ) : Prop := va_P g.1 bw_cl (ω t) H ∧ va_D A (ω t) ∧ va_S A S.heap H locs
def PreW {τ : Type} (g : GG) (ω : τ → va_W) (t : τ) : State → Prop := fun U => va_P g.1 bw_cl (ω t) U.heap ∧ va_K g.1 bw_cl (bw_ty g) U
/-- contracts: an int (a boolean) comes back, or nothing; the world goes from t0 to t1; nothing is made -/
def Ci {τ : Type} (l : Launch) (g : GG) (ω : τ → va_W) (A : Nat → Prop) (y : MethodName) (ws : List Cond) (rm : Room) (av : List Value) (t0 : τ) (r : Int32) (t1 : τ) : Prop :=
  Met l y ws rm (va_Pc av (PreW g ω t0)) (va_Qi (fun r' (_ : Unit) => r' = r) (fun _ U => va_P g.1 bw_cl (ω t1) U.heap) A) 0 0 A
def Cv {τ : Type} (l : Launch) (g : GG) (ω : τ → va_W) (A : Nat → Prop) (y : MethodName) (ws : List Cond) (rm : Room) (av : List Value) (t0 : τ) (t1 : τ) : Prop :=
  Met l y ws rm (va_Pc av (PreW g ω t0)) (va_Qv (fun (_ : Unit) => True) (fun _ U => va_P g.1 bw_cl (ω t1) U.heap) A) 0 0 A
/-- a static method that sees no world -/
def Cs (l : Launch) (y : MethodName) (ws : List Cond) (rm : Room) (av : List Value) (r : Int32) : Prop :=
  Met l y ws rm (va_Pc av (fun _ => True)) (va_Qi (fun r' (_ : Unit) => r' = r) (fun _ _ => True) (fun _ => False)) 0 0 (fun _ => False)
theorem bw_good {L : List Cond} (h : ∀ w ∈ L, w ∈ bw_G) : GoodIn bw_G L := fun w hw => ⟨h w hw, good_of_word (List.mem_filter.mp (h w hw)).2⟩
theorem PreW.blind {τ : Type} {g : GG} {ω : τ → va_W} {t : τ} {av : List Value} : FrameBlind (va_Pc av (PreW g ω t)) := fun a U g mk q => by
  obtain ⟨q0, qP, qK⟩ := q
  exact ⟨q0, qP, va_K.moved (u := U) (U := U.calling g mk a) (Vm.Alike.refl U.vm) qK⟩
theorem bn_sl : ∀ n, n < 32 → ((nI n &&& 31).toBitVec.smod 32).toNat = n := by decide +kernel
theorem bn_dec {a : Nat} (h : 0 < a) : nI a + Int32.ofInt (-1) = nI (a - 1) := by
  obtain ⟨b, rfl⟩ : ∃ b, a = b + 1 := ⟨a - 1, by omega⟩
  exact pk_m1 b
theorem bn_shl {a k : Nat} (hk : k < 32) (ha : a * 2 ^ k < 2 ^ 31) : nI a <<< (nI k &&& 31) = nI (a * 2 ^ k) := pk_shlN _ k (bn_sl k hk) (by omega)
theorem bn_shl4 {a k : Nat} (hk : k < 4) (ha : a < 17) : nI a <<< (nI k &&& 31) = nI (a * 2 ^ k) := bn_shl (by omega) (by
  rcases (show k = 0 ∨ k = 1 ∨ k = 2 ∨ k = 3 by omega) with rfl | rfl | rfl | rfl <;> omega)
theorem bn_m1 {a : Nat} (h : a < 2 ^ 31) : ¬ nI a = -1 := fun q => by
  have h1 : ¬ nI a < 0 := nI_pos h
  rw [q] at h1
  exact h1 (by decide)
section BK
variable {p : Program} {l : Launch} {e : Env} {R : Room} {S : State} {m : MethodId} {args : Array Value} {below : List Frame} {meth : Method} {c : Code} {H : Heap} {locs : List Loc} {cells slots : Nat} {Q : State → Prop}
variable {cc : ByteArray} {pc : Nat} {ls : Array Slot} {rest : List Value}
theorem bn_top {x y : Int32} (h : x = y) (k : W p l e R S m args below meth c H locs cells slots Q (F0 m pc ls (.int y :: rest))) : W p l e R S m args below meth c H locs cells slots Q (F0 m pc ls (.int x :: rest)) := by rw [h]; exact k
theorem bn_add (hx : p.tables.exec = Jvm.exec) (hb : c.code = cc) {a b : Nat} (hdg : decode cc pc = .ok (.iadd, 1)) (k : W p l e R S m args below meth c H locs cells slots Q (F0 m (pc + 1) ls (.int (nI (a + b)) :: rest))) : W p l e R S m args below meth c H locs cells slots Q (F0 m pc ls (.int (nI b) :: .int (nI a) :: rest)) := lv_iadd hx hb hdg (by rw [nI_add]; exact k)
theorem bn_mul (hx : p.tables.exec = Jvm.exec) (hb : c.code = cc) {a b : Nat} (hdg : decode cc pc = .ok (.imul, 1)) (k : W p l e R S m args below meth c H locs cells slots Q (F0 m (pc + 1) ls (.int (nI (a * b)) :: rest))) : W p l e R S m args below meth c H locs cells slots Q (F0 m pc ls (.int (nI b) :: .int (nI a) :: rest)) := lv_imul hx hb hdg (by rw [pk_mul]; exact k)
theorem bn_sub (hx : p.tables.exec = Jvm.exec) (hb : c.code = cc) {a b : Nat} (hdg : decode cc pc = .ok (.isub, 1)) (h : b ≤ a) (k : W p l e R S m args below meth c H locs cells slots Q (F0 m (pc + 1) ls (.int (nI (a - b)) :: rest))) : W p l e R S m args below meth c H locs cells slots Q (F0 m pc ls (.int (nI b) :: .int (nI a) :: rest)) := lv_isub hx hb hdg (by rw [pk_sub h]; exact k)
theorem bn_div (hx : p.tables.exec = Jvm.exec) (hb : c.code = cc) {a b : Nat} (hdg : decode cc pc = .ok (.idiv, 1)) (ha : a < 2 ^ 31) (h0 : 0 < b) (h1 : b < 2 ^ 31) (k : W p l e R S m args below meth c H locs cells slots Q (F0 m (pc + 1) ls (.int (nI (a / b)) :: rest))) : W p l e R S m args below meth c H locs cells slots Q (F0 m pc ls (.int (nI b) :: .int (nI a) :: rest)) := lv_idiv hx hb hdg (nI_ne0 h0 h1) (by rw [pk_div ha h0 h1]; exact k)
theorem bn_rem (hx : p.tables.exec = Jvm.exec) (hb : c.code = cc) {a b : Nat} (hdg : decode cc pc = .ok (.irem, 1)) (ha : a < 2 ^ 31) (h0 : 0 < b) (h1 : b < 2 ^ 31) (k : W p l e R S m args below meth c H locs cells slots Q (F0 m (pc + 1) ls (.int (nI (a % b)) :: rest))) : W p l e R S m args below meth c H locs cells slots Q (F0 m pc ls (.int (nI b) :: .int (nI a) :: rest)) := lv_irem hx hb hdg (nI_ne0 h0 h1) (by rw [pk_rem ha h0 h1]; exact k)
theorem bn_eq (hx : p.tables.exec = Jvm.exec) (hb : c.code = cc) {a b : Nat} {off : Int} {tgt : Nat} (hdg : decode cc pc = .ok (.if_icmp .eq off, 3)) (ht : (pc : Int) + off = (tgt : Int)) (ha : a < 2 ^ 31) (h1 : b < 2 ^ 31) (kt : a = b → W p l e R S m args below meth c H locs cells slots Q (F0 m tgt ls rest)) (kf : ¬ a = b → W p l e R S m args below meth c H locs cells slots Q (F0 m (pc + 3) ls rest)) : W p l e R S m args below meth c H locs cells slots Q (F0 m pc ls (.int (nI b) :: .int (nI a) :: rest)) := lv_icmp_eq hx hb hdg ht (fun q => kt ((nI_eq ha h1).mp q)) (fun q => kf (fun z => q ((nI_eq ha h1).mpr z)))
theorem bn_ne (hx : p.tables.exec = Jvm.exec) (hb : c.code = cc) {a b : Nat} {off : Int} {tgt : Nat} (hdg : decode cc pc = .ok (.if_icmp .ne off, 3)) (ht : (pc : Int) + off = (tgt : Int)) (ha : a < 2 ^ 31) (h1 : b < 2 ^ 31) (kt : ¬ a = b → W p l e R S m args below meth c H locs cells slots Q (F0 m tgt ls rest)) (kf : a = b → W p l e R S m args below meth c H locs cells slots Q (F0 m (pc + 3) ls rest)) : W p l e R S m args below meth c H locs cells slots Q (F0 m pc ls (.int (nI b) :: .int (nI a) :: rest)) := lv_icmp_ne hx hb hdg ht (fun q => kt (fun z => q ((nI_eq ha h1).mpr z))) (fun q => kf ((nI_eq ha h1).mp q))
theorem bn_ge (hx : p.tables.exec = Jvm.exec) (hb : c.code = cc) {a b : Nat} {off : Int} {tgt : Nat} (hdg : decode cc pc = .ok (.if_icmp .ge off, 3)) (ht : (pc : Int) + off = (tgt : Int)) (ha : a < 2 ^ 31) (h1 : b < 2 ^ 31) (kt : b ≤ a → W p l e R S m args below meth c H locs cells slots Q (F0 m tgt ls rest)) (kf : a < b → W p l e R S m args below meth c H locs cells slots Q (F0 m (pc + 3) ls rest)) : W p l e R S m args below meth c H locs cells slots Q (F0 m pc ls (.int (nI b) :: .int (nI a) :: rest)) := lv_icmp_ge hx hb hdg ht (fun q => kt ((nI_leI h1 ha).mp q)) (fun q => kf (Nat.lt_of_not_le fun z => q ((nI_leI h1 ha).mpr z)))
theorem bn_le (hx : p.tables.exec = Jvm.exec) (hb : c.code = cc) {a b : Nat} {off : Int} {tgt : Nat} (hdg : decode cc pc = .ok (.if_icmp .le off, 3)) (ht : (pc : Int) + off = (tgt : Int)) (ha : a < 2 ^ 31) (h1 : b < 2 ^ 31) (kt : a ≤ b → W p l e R S m args below meth c H locs cells slots Q (F0 m tgt ls rest)) (kf : b < a → W p l e R S m args below meth c H locs cells slots Q (F0 m (pc + 3) ls rest)) : W p l e R S m args below meth c H locs cells slots Q (F0 m pc ls (.int (nI b) :: .int (nI a) :: rest)) := lv_icmp_le hx hb hdg ht (fun q => kt ((nI_leI ha h1).mp q)) (fun q => kf (Nat.lt_of_not_le fun z => q ((nI_leI ha h1).mpr z)))
theorem bn_lt (hx : p.tables.exec = Jvm.exec) (hb : c.code = cc) {a b : Nat} {off : Int} {tgt : Nat} (hdg : decode cc pc = .ok (.if_icmp .lt off, 3)) (ht : (pc : Int) + off = (tgt : Int)) (ha : a < 2 ^ 31) (h1 : b < 2 ^ 31) (kt : a < b → W p l e R S m args below meth c H locs cells slots Q (F0 m tgt ls rest)) (kf : b ≤ a → W p l e R S m args below meth c H locs cells slots Q (F0 m (pc + 3) ls rest)) : W p l e R S m args below meth c H locs cells slots Q (F0 m pc ls (.int (nI b) :: .int (nI a) :: rest)) := lv_icmp_lt hx hb hdg ht (fun q => kt ((nI_ltI ha h1).mp q)) (fun q => kf (Nat.le_of_not_lt fun z => q ((nI_ltI ha h1).mpr z)))
theorem bn_gt (hx : p.tables.exec = Jvm.exec) (hb : c.code = cc) {a b : Nat} {off : Int} {tgt : Nat} (hdg : decode cc pc = .ok (.if_icmp .gt off, 3)) (ht : (pc : Int) + off = (tgt : Int)) (ha : a < 2 ^ 31) (h1 : b < 2 ^ 31) (kt : b < a → W p l e R S m args below meth c H locs cells slots Q (F0 m tgt ls rest)) (kf : a ≤ b → W p l e R S m args below meth c H locs cells slots Q (F0 m (pc + 3) ls rest)) : W p l e R S m args below meth c H locs cells slots Q (F0 m pc ls (.int (nI b) :: .int (nI a) :: rest)) := lv_icmp_gt hx hb hdg ht (fun q => kt ((nI_ltI h1 ha).mp q)) (fun q => kf (Nat.le_of_not_lt fun z => q ((nI_ltI h1 ha).mpr z)))
theorem bb_eq (hx : p.tables.exec = Jvm.exec) (hb : c.code = cc) {b : Bool} {off : Int} {tgt : Nat} (hdg : decode cc pc = .ok (.ifCond .eq off, 3)) (ht : (pc : Int) + off = (tgt : Int)) (kt : b = false → W p l e R S m args below meth c H locs cells slots Q (F0 m tgt ls rest)) (kf : b = true → W p l e R S m args below meth c H locs cells slots Q (F0 m (pc + 3) ls rest)) : W p l e R S m args below meth c H locs cells slots Q (F0 m pc ls (.int (bI b) :: rest)) := lv_if_eq hx hb hdg ht (fun q => kt (bI_0.mp q)) (fun q => kf (by cases b with | true => rfl | false => exact absurd (bI_0.mpr rfl) q))
theorem bb_ne (hx : p.tables.exec = Jvm.exec) (hb : c.code = cc) {b : Bool} {off : Int} {tgt : Nat} (hdg : decode cc pc = .ok (.ifCond .ne off, 3)) (ht : (pc : Int) + off = (tgt : Int)) (kt : b = true → W p l e R S m args below meth c H locs cells slots Q (F0 m tgt ls rest)) (kf : b = false → W p l e R S m args below meth c H locs cells slots Q (F0 m (pc + 3) ls rest)) : W p l e R S m args below meth c H locs cells slots Q (F0 m pc ls (.int (bI b) :: rest)) := lv_if_ne hx hb hdg ht (fun q => kt (by cases b with | true => rfl | false => exact absurd (bI_0.mpr rfl) q)) (fun q => kf (bI_0.mp q))
theorem bo_eq (hx : p.tables.exec = Jvm.exec) (hb : c.code = cc) {x : Option (Fin 32)} {off : Int} {tgt : Nat} (hdg : decode cc pc = .ok (.if_icmp .eq off, 3)) (ht : (pc : Int) + off = (tgt : Int)) (kt : x = none → W p l e R S m args below meth c H locs cells slots Q (F0 m tgt ls rest)) (kf : ∀ k, x = some k → W p l e R S m args below meth c H locs cells slots Q (F0 m (pc + 3) ls rest)) : W p l e R S m args below meth c H locs cells slots Q (F0 m pc ls (.int (-1) :: .int (oI x) :: rest)) := lv_icmp_eq hx hb hdg ht (fun q => kt (oI_m1.mp q)) (fun q => by
  cases hX : x with
  | none => exact absurd (oI_m1.mpr hX) q
  | some k => exact kf k hX)
theorem bo_ne (hx : p.tables.exec = Jvm.exec) (hb : c.code = cc) {x : Option (Fin 32)} {off : Int} {tgt : Nat} (hdg : decode cc pc = .ok (.if_icmp .ne off, 3)) (ht : (pc : Int) + off = (tgt : Int)) (kt : ∀ k, x = some k → W p l e R S m args below meth c H locs cells slots Q (F0 m tgt ls rest)) (kf : x = none → W p l e R S m args below meth c H locs cells slots Q (F0 m (pc + 3) ls rest)) : W p l e R S m args below meth c H locs cells slots Q (F0 m pc ls (.int (-1) :: .int (oI x) :: rest)) := lv_icmp_ne hx hb hdg ht (fun q => by
  cases hX : x with
  | none => exact absurd (oI_m1.mpr hX) q
  | some k => exact kt k hX) (fun q => kf (oI_m1.mp q))
theorem bo_lt (hx : p.tables.exec = Jvm.exec) (hb : c.code = cc) {x : Option (Fin 32)} {off : Int} {tgt : Nat} (hdg : decode cc pc = .ok (.ifCond .lt off, 3)) (ht : (pc : Int) + off = (tgt : Int)) (kt : x = none → W p l e R S m args below meth c H locs cells slots Q (F0 m tgt ls rest)) (kf : ∀ k, x = some k → W p l e R S m args below meth c H locs cells slots Q (F0 m (pc + 3) ls rest)) : W p l e R S m args below meth c H locs cells slots Q (F0 m pc ls (.int (oI x) :: rest)) := lv_if_lt hx hb hdg ht (fun q => kt (oI_lt.mp q)) (fun q => by
  cases hX : x with
  | none => exact absurd (oI_lt.mpr hX) q
  | some k => exact kf k hX)
theorem bo_ge (hx : p.tables.exec = Jvm.exec) (hb : c.code = cc) {x : Option (Fin 32)} {off : Int} {tgt : Nat} (hdg : decode cc pc = .ok (.ifCond .ge off, 3)) (ht : (pc : Int) + off = (tgt : Int)) (kt : ∀ k, x = some k → W p l e R S m args below meth c H locs cells slots Q (F0 m tgt ls rest)) (kf : x = none → W p l e R S m args below meth c H locs cells slots Q (F0 m (pc + 3) ls rest)) : W p l e R S m args below meth c H locs cells slots Q (F0 m pc ls (.int (oI x) :: rest)) := lv_if_ge hx hb hdg ht (fun q => by
  cases hX : x with
  | none =>
    rw [hX] at q
    exact absurd q (by show ¬ (0 : Int32) ≤ -1; decide)
  | some k => exact kt k hX) (fun q => by
  cases hX : x with
  | none => exact kf hX
  | some k =>
    rw [hX] at q
    exact absurd (nI_pos' (by have := k.isLt; omega)) q)
theorem bz_eq (hx : p.tables.exec = Jvm.exec) (hb : c.code = cc) {a : Nat} {off : Int} {tgt : Nat} (hdg : decode cc pc = .ok (.ifCond .eq off, 3)) (ht : (pc : Int) + off = (tgt : Int)) (ha : a < 2 ^ 31) (kt : a = 0 → W p l e R S m args below meth c H locs cells slots Q (F0 m tgt ls rest)) (kf : ¬ a = 0 → W p l e R S m args below meth c H locs cells slots Q (F0 m (pc + 3) ls rest)) : W p l e R S m args below meth c H locs cells slots Q (F0 m pc ls (.int (nI a) :: rest)) := lv_if_eq hx hb hdg ht (fun q => kt ((nI_eq ha (by omega)).mp (q.trans nI_0.symm))) (fun q => kf (fun z => q (by rw [z]; exact nI_0)))
theorem bz_ne (hx : p.tables.exec = Jvm.exec) (hb : c.code = cc) {a : Nat} {off : Int} {tgt : Nat} (hdg : decode cc pc = .ok (.ifCond .ne off, 3)) (ht : (pc : Int) + off = (tgt : Int)) (ha : a < 2 ^ 31) (kt : ¬ a = 0 → W p l e R S m args below meth c H locs cells slots Q (F0 m tgt ls rest)) (kf : a = 0 → W p l e R S m args below meth c H locs cells slots Q (F0 m (pc + 3) ls rest)) : W p l e R S m args below meth c H locs cells slots Q (F0 m pc ls (.int (nI a) :: rest)) := lv_if_ne hx hb hdg ht (fun q => kt (fun z => q (by rw [z]; exact nI_0))) (fun q => kf ((nI_eq ha (by omega)).mp (q.trans nI_0.symm)))
theorem bz_lt (hx : p.tables.exec = Jvm.exec) (hb : c.code = cc) {a : Nat} {off : Int} {tgt : Nat} (hdg : decode cc pc = .ok (.ifCond .lt off, 3)) (ht : (pc : Int) + off = (tgt : Int)) (ha : a < 2 ^ 31) (kf : W p l e R S m args below meth c H locs cells slots Q (F0 m (pc + 3) ls rest)) : W p l e R S m args below meth c H locs cells slots Q (F0 m pc ls (.int (nI a) :: rest)) := lv_if_lt hx hb hdg ht (fun q => absurd q (nI_pos ha)) (fun _ => kf)
theorem bz_ge (hx : p.tables.exec = Jvm.exec) (hb : c.code = cc) {a : Nat} {off : Int} {tgt : Nat} (hdg : decode cc pc = .ok (.ifCond .ge off, 3)) (ht : (pc : Int) + off = (tgt : Int)) (ha : a < 2 ^ 31) (kt : W p l e R S m args below meth c H locs cells slots Q (F0 m tgt ls rest)) : W p l e R S m args below meth c H locs cells slots Q (F0 m pc ls (.int (nI a) :: rest)) := lv_if_ge hx hb hdg ht (fun _ => kt) (fun q => absurd (nI_pos' ha) q)
theorem bm_eq (hx : p.tables.exec = Jvm.exec) (hb : c.code = cc) {a : Nat} {off : Int} {tgt : Nat} (hdg : decode cc pc = .ok (.if_icmp .eq off, 3)) (ht : (pc : Int) + off = (tgt : Int)) (ha : a < 2 ^ 31) (kf : W p l e R S m args below meth c H locs cells slots Q (F0 m (pc + 3) ls rest)) : W p l e R S m args below meth c H locs cells slots Q (F0 m pc ls (.int (-1) :: .int (nI a) :: rest)) := lv_icmp_eq hx hb hdg ht (fun q => absurd q (bn_m1 ha)) (fun _ => kf)
theorem bm_ne (hx : p.tables.exec = Jvm.exec) (hb : c.code = cc) {a : Nat} {off : Int} {tgt : Nat} (hdg : decode cc pc = .ok (.if_icmp .ne off, 3)) (ht : (pc : Int) + off = (tgt : Int)) (ha : a < 2 ^ 31) (kt : W p l e R S m args below meth c H locs cells slots Q (F0 m tgt ls rest)) : W p l e R S m args below meth c H locs cells slots Q (F0 m pc ls (.int (-1) :: .int (nI a) :: rest)) := lv_icmp_ne hx hb hdg ht (fun _ => kt) (fun q => absurd q (bn_m1 ha))
theorem bq_eq (hx : p.tables.exec = Jvm.exec) (hb : c.code = cc) {x : Int32} {off : Int} {tgt : Nat} (hdg : decode cc pc = .ok (.if_icmp .eq off, 3)) (ht : (pc : Int) + off = (tgt : Int)) (kt : W p l e R S m args below meth c H locs cells slots Q (F0 m tgt ls rest)) : W p l e R S m args below meth c H locs cells slots Q (F0 m pc ls (.int x :: .int x :: rest)) := lv_icmp_eq hx hb hdg ht (fun _ => kt) (fun q => absurd rfl q)
theorem bq_ne (hx : p.tables.exec = Jvm.exec) (hb : c.code = cc) {x : Int32} {off : Int} {tgt : Nat} (hdg : decode cc pc = .ok (.if_icmp .ne off, 3)) (ht : (pc : Int) + off = (tgt : Int)) (kf : W p l e R S m args below meth c H locs cells slots Q (F0 m (pc + 3) ls rest)) : W p l e R S m args below meth c H locs cells slots Q (F0 m pc ls (.int x :: .int x :: rest)) := lv_icmp_ne hx hb hdg ht (fun q => absurd rfl q) (fun _ => kf)
theorem bl_lt (hx : p.tables.exec = Jvm.exec) (hb : c.code = cc)  {off : Int} {tgt : Nat} (hdg : decode cc pc = .ok (.ifCond .lt off, 3)) (ht : (pc : Int) + off = (tgt : Int)) (kt : W p l e R S m args below meth c H locs cells slots Q (F0 m tgt ls rest)) : W p l e R S m args below meth c H locs cells slots Q (F0 m pc ls (.int (-1) :: rest)) := lv_if_lt hx hb hdg ht (fun _ => kt) (fun q => absurd (by decide) q)
theorem bl_ge (hx : p.tables.exec = Jvm.exec) (hb : c.code = cc)  {off : Int} {tgt : Nat} (hdg : decode cc pc = .ok (.ifCond .ge off, 3)) (ht : (pc : Int) + off = (tgt : Int)) (kf : W p l e R S m args below meth c H locs cells slots Q (F0 m (pc + 3) ls rest)) : W p l e R S m args below meth c H locs cells slots Q (F0 m pc ls (.int (-1) :: rest)) := lv_if_ge hx hb hdg ht (fun q => absurd q (by decide)) (fun _ => kf)
end BK
end
section
theorem fldN_zero {α : Type} {f : Nat → α → α} {s : α} : fldN f s 0 = s := rfl
/-! how a method's body is entered and left; how a method calls one that keeps the same world -/
theorem Ci.of {τ : Type} {l : Launch} {g : GG} {ω : τ → va_W} {A : Nat → Prop} {y : MethodName} {own : String} {rm : Room} {av : List Value} {t0 t1 : τ} {r : Int32} {cc : ByteArray} {nL : Nat}
    (hD : ∀ t, va_D A (ω t)) (hy : plainName y.cls = true) (hc : y.cls = own) (hlen : (lg_sl av).length ≤ nL)
    (body : ∀ (p : Program) (e : Env) (S : State) (m : MethodId) (args : Array Value) (below : List Frame) (meth : Method) (c : Code) (Q : State → Prop), Cx own g p S m args meth c cc nL (some .int) →
      (∀ (H : Heap) (locs : List Loc) (pc : Nat) (ls : Array Slot) (v : Int32), Yw g ω A S H locs t1 → v = r → decode cc pc = .ok (.ireturn, 1) → W p l e rm S m args below meth c H locs 0 0 Q (F0 m pc ls [.int v])) →
      ∀ (H : Heap) (locs : List Loc) (ls : Array Slot), Yw g ω A S H locs t0 → lv_has ls nL (lv_args 0 av) → W p l e rm S m args below meth c H locs 0 0 Q (F0 m 0 ls [])) :
    Ci l g ω A y (bw y cc nL (some .int)) rm av t0 r t1 := by
  refine Met.ofW (cc := cc) (maxL := nL) (ret := some .int) hy rfl ?_
  intro p e S m args below meth c s₁ B hml hv
  obtain ⟨rfl, hP, hK⟩ := hv
  have hts := atoms_spec (ws := bw y cc nL (some .int)) B.pre
  have hown : S.vm.findClass own = some m.cls := by rw [← hc]; exact findClass_of_methodNamed B.named
  have X : Cx own g p S m av.toArray meth c cc nL (some .int) := ⟨B.exec, B.bytes, B.returns, hml, hown, fun w h => hts w (List.mem_cons_of_mem _ h), hK, B.notSynchronized⟩
  have hlocks := B.notSynchronized
  have hl := lv_entry av (n := nL) hlen
  rw [lg_entry_eq]
  refine body p e S m _ below meth c _ X (fun H locs pc ls v Y hv hd => ?_) S.heap [] _ ⟨hP, hD t0, va_S.rf⟩ hl
  exact W.iret X.1 X.2.1 X.2.2.1 (fun t ht hW => ⟨⟨v, (), rfl, hv, by show va_P g.1 bw_cl (ω t1) t.heap; rw [ht]; exact Y.1⟩, Y.2.2.F ht⟩) Y.2.2.2.2 hd
theorem Ci.ofZ {τ : Type} {l : Launch} {g : GG} {ω : τ → va_W} {A : Nat → Prop} {y : MethodName} {own : String} {rm : Room} {av : List Value} {t0 t1 : τ} {r : Bool} {cc : ByteArray} {nL : Nat}
    (hD : ∀ t, va_D A (ω t)) (hy : plainName y.cls = true) (hc : y.cls = own) (hlen : (lg_sl av).length ≤ nL)
    (body : ∀ (p : Program) (e : Env) (S : State) (m : MethodId) (args : Array Value) (below : List Frame) (meth : Method) (c : Code) (Q : State → Prop), Cx own g p S m args meth c cc nL (some .boolean) →
      (∀ (H : Heap) (locs : List Loc) (pc : Nat) (ls : Array Slot) (v : Int32), Yw g ω A S H locs t1 → v = bI r → decode cc pc = .ok (.ireturn, 1) → W p l e rm S m args below meth c H locs 0 0 Q (F0 m pc ls [.int v])) →
      ∀ (H : Heap) (locs : List Loc) (ls : Array Slot), Yw g ω A S H locs t0 → lv_has ls nL (lv_args 0 av) → W p l e rm S m args below meth c H locs 0 0 Q (F0 m 0 ls [])) :
    Ci l g ω A y (bw y cc nL (some .boolean)) rm av t0 (bI r) t1 := by
  refine Met.ofW (cc := cc) (maxL := nL) (ret := some .boolean) hy rfl ?_
  intro p e S m args below meth c s₁ B hml hv
  obtain ⟨rfl, hP, hK⟩ := hv
  have hts := atoms_spec (ws := bw y cc nL (some .boolean)) B.pre
  have hown : S.vm.findClass own = some m.cls := by rw [← hc]; exact findClass_of_methodNamed B.named
  have X : Cx own g p S m av.toArray meth c cc nL (some .boolean) := ⟨B.exec, B.bytes, B.returns, hml, hown, fun w h => hts w (List.mem_cons_of_mem _ h), hK, B.notSynchronized⟩
  have hlocks := B.notSynchronized
  have hl := lv_entry av (n := nL) hlen
  rw [lg_entry_eq]
  refine body p e S m _ below meth c _ X (fun H locs pc ls v Y hv hd => ?_) S.heap [] _ ⟨hP, hD t0, va_S.rf⟩ hl
  exact W.zret X.1 X.2.1 X.2.2.1 (by rw [hv]; exact bI_nar r) (fun t ht hW => ⟨⟨v, (), rfl, hv, by show va_P g.1 bw_cl (ω t1) t.heap; rw [ht]; exact Y.1⟩, Y.2.2.F ht⟩) Y.2.2.2.2 hd
theorem Cv.of {τ : Type} {l : Launch} {g : GG} {ω : τ → va_W} {A : Nat → Prop} {y : MethodName} {own : String} {rm : Room} {av : List Value} {t0 t1 : τ} {cc : ByteArray} {nL : Nat}
    (hD : ∀ t, va_D A (ω t)) (hy : plainName y.cls = true) (hc : y.cls = own) (hlen : (lg_sl av).length ≤ nL)
    (body : ∀ (p : Program) (e : Env) (S : State) (m : MethodId) (args : Array Value) (below : List Frame) (meth : Method) (c : Code) (Q : State → Prop), Cx own g p S m args meth c cc nL none →
      (∀ (H : Heap) (locs : List Loc) (pc : Nat) (ls : Array Slot), Yw g ω A S H locs t1 → decode cc pc = .ok (.return_, 1) → W p l e rm S m args below meth c H locs 0 0 Q (F0 m pc ls [])) →
      ∀ (H : Heap) (locs : List Loc) (ls : Array Slot), Yw g ω A S H locs t0 → lv_has ls nL (lv_args 0 av) → W p l e rm S m args below meth c H locs 0 0 Q (F0 m 0 ls [])) :
    Cv l g ω A y (bw y cc nL none) rm av t0 t1 := by
  refine Met.ofW (cc := cc) (maxL := nL) (ret := none) hy rfl ?_
  intro p e S m args below meth c s₁ B hml hv
  obtain ⟨rfl, hP, hK⟩ := hv
  have hts := atoms_spec (ws := bw y cc nL none) B.pre
  have hown : S.vm.findClass own = some m.cls := by rw [← hc]; exact findClass_of_methodNamed B.named
  have X : Cx own g p S m av.toArray meth c cc nL none := ⟨B.exec, B.bytes, B.returns, hml, hown, fun w h => hts w (List.mem_cons_of_mem _ h), hK, B.notSynchronized⟩
  have hlocks := B.notSynchronized
  have hl := lv_entry av (n := nL) hlen
  rw [lg_entry_eq]
  refine body p e S m _ below meth c _ X (fun H locs pc ls Y hd => ?_) S.heap [] _ ⟨hP, hD t0, va_S.rf⟩ hl
  exact W.vret X.1 X.2.1 X.2.2.1 (fun t ht hW => ⟨⟨(), rfl, trivial, by show va_P g.1 bw_cl (ω t1) t.heap; rw [ht]; exact Y.1⟩, Y.2.2.F ht⟩) Y.2.2.2.2 hd
/-- a static method without a world -/
theorem Cs.of {l : Launch} {y : MethodName} {own : String} {rm : Room} {av : List Value} {r : Int32} {cc : ByteArray} {nL : Nat} {ty : FieldType} (hn : narrow ty (.int r) = .int r)
    (hy : plainName y.cls = true) (hc : y.cls = own) (hlen : (lg_sl av).length ≤ nL)
    (body : ∀ (p : Program) (e : Env) (S : State) (m : MethodId) (args : Array Value) (below : List Frame) (meth : Method) (c : Code) (Q : State → Prop), p.tables.exec = Jvm.exec → c.code = cc →
      (∀ (pc : Nat) (ls : Array Slot) (v : Int32), v = r → decode cc pc = .ok (.ireturn, 1) → W p l e rm S m args below meth c S.heap [] 0 0 Q (F0 m pc ls [.int v])) →
      ∀ (ls : Array Slot), lv_has ls nL (lv_args 0 av) → W p l e rm S m args below meth c S.heap [] 0 0 Q (F0 m 0 ls [])) :
    Cs l y (bw y cc nL (some ty)) rm av r := by
  refine Met.ofW (cc := cc) (maxL := nL) (ret := some ty) hy rfl ?_
  intro p e S m args below meth c s₁ B hml hv
  obtain ⟨rfl, -⟩ := hv
  have hlocks := B.notSynchronized
  have hl := lv_entry av (n := nL) hlen
  rw [lg_entry_eq]
  refine body p e S m _ below meth c _ B.exec B.bytes (fun pc ls v hv hd => ?_) _ hl
  exact W.zret B.exec B.bytes B.returns (by rw [hv]; exact hn) (fun t ht hW => ⟨⟨v, (), rfl, hv, trivial⟩, (va_S.rf (A := fun _ => False)).F ht⟩) (fun q h => by cases h) hd
section CA
variable {p : Program} {l : Launch} {e : Env} {R : Room} {S : State} {m : MethodId} {args : Array Value} {below : List Frame} {meth : Method} {c : Code} {H : Heap} {locs : List Loc} {cells slots : Nat} {Q : State → Prop}
variable {cc : ByteArray} {pc : Nat} {ls : Array Slot} {rest : List Value}
/-- an instance method of the same world: an int comes back -/
theorem cl_vi {τ : Type} {g : GG} {ω : τ → va_W} {A : Nat → Prop} {own C : String} {nL : Nat} {ret0 ret : Option FieldType} {y : MethodName} {b : ByteArray} {n idx a0 ci na : Nat} {rm : Room} {av st0 : List Value} {t0 t1 : τ} {r : Int32} {T : u_T} {N : Nat} {fs : List Value}
    (X : Cx own g p S m args meth c cc nL ret0) (hD : ∀ t, va_D A (ω t)) (Y : Yw g ω A S H locs t0) (hM : Ci l g ω A y (bw y b n ret) rm (.ref a0 :: av) t0 r t1)
    (hw : ∀ w ∈ wsV own idx C y (bw y b n ret), w ∈ bw_G) (hd : y.cls = C ∧ y.cls ≠ "java/lang/invoke/MethodHandle" ∧ y.cls ≠ "java/lang/invoke/VarHandle" ∧ (parseMethodDescriptor y.desc).map (fun d => d.parameters.length) = some na) (hna : av.length = na)
    (hcl : bw_cl[ci]? = some (C, T, N)) (hrc : (ω t0)[0]? = some (a0, .inr (ci, fs))) (hrm : rm.cells = 0 ∧ rm.slots = 0) (hR : rm.frames + 1 ≤ R.frames ∧ 8 + (n + 11) + rm.locals ≤ R.locals) (hcs : cells ≤ R.cells ∧ slots ≤ R.slots)
    (hls : ls.size = nL) (hst : st0 = av.reverse ++ .ref a0 :: rest) (hrest : (rest.map fun v => v.category).sum ≤ 8) (hdg : decode cc pc = .ok (.invokevirtual idx, 3))
    (kk : ∀ (H : Heap) (locs : List Loc), Yw g ω A S H locs t1 → W p l e R S m args below meth c H locs cells slots Q (F0 m (pc + 3) ls (.int r :: rest))) : W p l e R S m args below meth c H locs cells slots Q (F0 m pc ls st0) := by
  obtain ⟨hx, hb, -, hml, hown, hts, hK, -⟩ := X
  obtain ⟨hP, hDt, hS⟩ := Y
  have hrecv := va_recv hK hP hcl hrc
  refine va_calli (A0 := A) (va_runV (As := av) (rest := rest) ⟨hx, hb, hml, hown, hts⟩ hM (cwV na hts (bw_good hw) rfl hrm.1 hrm.2 hd hR) ⟨PreW.blind, hrecv, fun U hU hW => ⟨rfl, by rw [hU]; exact hP, va_K.moved hW.alike hK⟩⟩ rfl hna hls hst (lv_room hrest) hdg hcs) hS (fun q _ h => h) (fun q h => h) (fun r' u t H1 locs1 ht hvm hw hB hz1 hk1 hS1 => ?_)
  subst hw
  rw [ht] at hB
  exact kk H1 locs1 ⟨hB, hD t1, hS1⟩
/-- an instance method of the same world: nothing comes back -/
theorem cl_vv {τ : Type} {g : GG} {ω : τ → va_W} {A : Nat → Prop} {own C : String} {nL : Nat} {ret0 : Option FieldType} {y : MethodName} {b : ByteArray} {n idx a0 ci na : Nat} {rm : Room} {av st0 : List Value} {t0 t1 : τ} {T : u_T} {N : Nat} {fs : List Value}
    (X : Cx own g p S m args meth c cc nL ret0) (hD : ∀ t, va_D A (ω t)) (Y : Yw g ω A S H locs t0) (hM : Cv l g ω A y (bw y b n none) rm (.ref a0 :: av) t0 t1)
    (hw : ∀ w ∈ wsV own idx C y (bw y b n none), w ∈ bw_G) (hd : y.cls = C ∧ y.cls ≠ "java/lang/invoke/MethodHandle" ∧ y.cls ≠ "java/lang/invoke/VarHandle" ∧ (parseMethodDescriptor y.desc).map (fun d => d.parameters.length) = some na) (hna : av.length = na)
    (hcl : bw_cl[ci]? = some (C, T, N)) (hrc : (ω t0)[0]? = some (a0, .inr (ci, fs))) (hrm : rm.cells = 0 ∧ rm.slots = 0) (hR : rm.frames + 1 ≤ R.frames ∧ 8 + (n + 11) + rm.locals ≤ R.locals) (hcs : cells ≤ R.cells ∧ slots ≤ R.slots)
    (hls : ls.size = nL) (hst : st0 = av.reverse ++ .ref a0 :: rest) (hrest : (rest.map fun v => v.category).sum ≤ 8) (hdg : decode cc pc = .ok (.invokevirtual idx, 3))
    (kk : ∀ (H : Heap) (locs : List Loc), Yw g ω A S H locs t1 → W p l e R S m args below meth c H locs cells slots Q (F0 m (pc + 3) ls rest)) : W p l e R S m args below meth c H locs cells slots Q (F0 m pc ls st0) := by
  obtain ⟨hx, hb, -, hml, hown, hts, hK, -⟩ := X
  obtain ⟨hP, hDt, hS⟩ := Y
  have hrecv := va_recv hK hP hcl hrc
  refine va_callv (A0 := A) (va_runV (As := av) (rest := rest) ⟨hx, hb, hml, hown, hts⟩ hM (cwV na hts (bw_good hw) rfl hrm.1 hrm.2 hd hR) ⟨PreW.blind, hrecv, fun U hU hW => ⟨rfl, by rw [hU]; exact hP, va_K.moved hW.alike hK⟩⟩ rfl hna hls hst (lv_room hrest) hdg hcs) hS (fun q _ h => h) (fun q h => h) (fun u t H1 locs1 ht hvm hw hB hz1 hk1 hS1 => ?_)
  rw [ht] at hB
  exact kk H1 locs1 ⟨hB, hD t1, hS1⟩
/-- a static method without a world -/
theorem cl_s {τ : Type} {g : GG} {ω : τ → va_W} {A : Nat → Prop} {own : String} {nL : Nat} {ret0 ret : Option FieldType} {y : MethodName} {b : ByteArray} {n idx na : Nat} {rm : Room} {av st0 : List Value} {t0 : τ} {r : Int32}
    (X : Cx own g p S m args meth c cc nL ret0) (Y : Yw g ω A S H locs t0) (hM : Cs l y (bw y b n ret) rm av r)
    (hw : ∀ w ∈ va_wsS own idx y (bw y b n ret), w ∈ bw_G) (hd : y.cls ≠ "java/lang/invoke/MethodHandle" ∧ y.cls ≠ "java/lang/invoke/VarHandle" ∧ (parseMethodDescriptor y.desc).map (fun d => d.parameters.length) = some na) (hna : av.length = na)
    (hrm : rm.cells = 0 ∧ rm.slots = 0) (hR : rm.frames + 1 ≤ R.frames ∧ 8 + (n + 11) + rm.locals ≤ R.locals) (hcs : cells ≤ R.cells ∧ slots ≤ R.slots)
    (hls : ls.size = nL) (hst : st0 = av.reverse ++ rest) (hrest : (rest.map fun v => v.category).sum ≤ 8) (hdg : decode cc pc = .ok (.invokestatic idx, 3))
    (kk : ∀ (H : Heap) (locs : List Loc), Yw g ω A S H locs t0 → W p l e R S m args below meth c H locs cells slots Q (F0 m (pc + 3) ls (.int r :: rest))) : W p l e R S m args below meth c H locs cells slots Q (F0 m pc ls st0) := by
  obtain ⟨hx, hb, -, hml, hown, hts, hK, -⟩ := X
  obtain ⟨hP, hDt, hS⟩ := Y
  refine va_calli (A0 := A) (va_runS (As := av) (rest := rest) ⟨hx, hb, hml, hown, hts⟩ hM (va_cwS na hts (bw_good hw) rfl hrm.1 hrm.2 hd hR) ⟨fun a U g mk q => ⟨q.1, trivial⟩, fun U hU hW => ⟨rfl, trivial⟩⟩ rfl hna hls hst (lv_room hrest) hdg hcs) hS (fun q _ h => False.elim h) (fun q h => False.elim h) (fun r' u t H1 locs1 ht hvm hw hB hz1 hk1 hS1 => ?_)
  subst hw
  exact kk H1 locs1 ⟨hP.kept (fun k q hq => hk1 q.1 ((hP k q hq).lt) (fun z => z)), hDt, hS1⟩
end CA
end
section
/-! the world of class H: written by wip/whole/world.py -/
abbrev HS : Type := (Nat → Bool) × (Nat → Bool) × (Nat → Int32) × (Nat → Option (Fin 32)) × (Nat → Option (Fin 32)) × (Nat → Fin 3) × (Nat → Bool) × (Nat → Int32) × (Nat → Bool) × (Nat → Fin 32) × Nat × (Fin 9) × Int32 × (Fin 8)
def gH_TK (s : HS) : Nat → Bool := s.1
def uH_TK (s : HS) (k : Nat) (v : Bool) : HS := (va_up s.1 k v, s.2)
def gH_BM (s : HS) : Nat → Bool := s.2.1
def uH_BM (s : HS) (k : Nat) (v : Bool) : HS := (s.1, va_up s.2.1 k v, s.2.2)
def gH_VA (s : HS) : Nat → Int32 := s.2.2.1
def uH_VA (s : HS) (k : Nat) (v : Int32) : HS := (s.1, s.2.1, va_up s.2.2.1 k v, s.2.2.2)
def gH_FD (s : HS) : Nat → Option (Fin 32) := s.2.2.2.1
def uH_FD (s : HS) (k : Nat) (v : Option (Fin 32)) : HS := (s.1, s.2.1, s.2.2.1, va_up s.2.2.2.1 k v, s.2.2.2.2)
def gH_RG (s : HS) : Nat → Option (Fin 32) := s.2.2.2.2.1
def uH_RG (s : HS) (k : Nat) (v : Option (Fin 32)) : HS := (s.1, s.2.1, s.2.2.1, s.2.2.2.1, va_up s.2.2.2.2.1 k v, s.2.2.2.2.2)
def gH_ST (s : HS) : Nat → Fin 3 := s.2.2.2.2.2.1
def uH_ST (s : HS) (k : Nat) (v : Fin 3) : HS := (s.1, s.2.1, s.2.2.1, s.2.2.2.1, s.2.2.2.2.1, va_up s.2.2.2.2.2.1 k v, s.2.2.2.2.2.2)
def gH_US (s : HS) : Nat → Bool := s.2.2.2.2.2.2.1
def uH_US (s : HS) (k : Nat) (v : Bool) : HS := (s.1, s.2.1, s.2.2.1, s.2.2.2.1, s.2.2.2.2.1, s.2.2.2.2.2.1, va_up s.2.2.2.2.2.2.1 k v, s.2.2.2.2.2.2.2)
def gH_CT (s : HS) : Nat → Int32 := s.2.2.2.2.2.2.2.1
def uH_CT (s : HS) (k : Nat) (v : Int32) : HS := (s.1, s.2.1, s.2.2.1, s.2.2.2.1, s.2.2.2.2.1, s.2.2.2.2.2.1, s.2.2.2.2.2.2.1, va_up s.2.2.2.2.2.2.2.1 k v, s.2.2.2.2.2.2.2.2)
def gH_KP (s : HS) : Nat → Bool := s.2.2.2.2.2.2.2.2.1
def uH_KP (s : HS) (k : Nat) (v : Bool) : HS := (s.1, s.2.1, s.2.2.1, s.2.2.2.1, s.2.2.2.2.1, s.2.2.2.2.2.1, s.2.2.2.2.2.2.1, s.2.2.2.2.2.2.2.1, va_up s.2.2.2.2.2.2.2.2.1 k v, s.2.2.2.2.2.2.2.2.2)
def gH_KL (s : HS) : Nat → Fin 32 := s.2.2.2.2.2.2.2.2.2.1
def uH_KL (s : HS) (k : Nat) (v : Fin 32) : HS := (s.1, s.2.1, s.2.2.1, s.2.2.2.1, s.2.2.2.2.1, s.2.2.2.2.2.1, s.2.2.2.2.2.2.1, s.2.2.2.2.2.2.2.1, s.2.2.2.2.2.2.2.2.1, va_up s.2.2.2.2.2.2.2.2.2.1 k v, s.2.2.2.2.2.2.2.2.2.2)
def gH_KS (s : HS) : Nat := s.2.2.2.2.2.2.2.2.2.2.1
def uH_KS (s : HS) (v : Nat) : HS := (s.1, s.2.1, s.2.2.1, s.2.2.2.1, s.2.2.2.2.1, s.2.2.2.2.2.1, s.2.2.2.2.2.2.1, s.2.2.2.2.2.2.2.1, s.2.2.2.2.2.2.2.2.1, s.2.2.2.2.2.2.2.2.2.1, v, s.2.2.2.2.2.2.2.2.2.2.2)
def gH_BU (s : HS) : Fin 9 := s.2.2.2.2.2.2.2.2.2.2.2.1
def uH_BU (s : HS) (v : Fin 9) : HS := (s.1, s.2.1, s.2.2.1, s.2.2.2.1, s.2.2.2.2.1, s.2.2.2.2.2.1, s.2.2.2.2.2.2.1, s.2.2.2.2.2.2.2.1, s.2.2.2.2.2.2.2.2.1, s.2.2.2.2.2.2.2.2.2.1, s.2.2.2.2.2.2.2.2.2.2.1, v, s.2.2.2.2.2.2.2.2.2.2.2.2)
def gH_FA (s : HS) : Int32 := s.2.2.2.2.2.2.2.2.2.2.2.2.1
def uH_FA (s : HS) (v : Int32) : HS := (s.1, s.2.1, s.2.2.1, s.2.2.2.1, s.2.2.2.2.1, s.2.2.2.2.2.1, s.2.2.2.2.2.2.1, s.2.2.2.2.2.2.2.1, s.2.2.2.2.2.2.2.2.1, s.2.2.2.2.2.2.2.2.2.1, s.2.2.2.2.2.2.2.2.2.2.1, s.2.2.2.2.2.2.2.2.2.2.2.1, v, s.2.2.2.2.2.2.2.2.2.2.2.2.2)
def gH_HA (s : HS) : Fin 8 := s.2.2.2.2.2.2.2.2.2.2.2.2.2
def uH_HA (s : HS) (v : Fin 8) : HS := (s.1, s.2.1, s.2.2.1, s.2.2.2.1, s.2.2.2.2.1, s.2.2.2.2.2.1, s.2.2.2.2.2.2.1, s.2.2.2.2.2.2.2.1, s.2.2.2.2.2.2.2.2.1, s.2.2.2.2.2.2.2.2.2.1, s.2.2.2.2.2.2.2.2.2.2.1, s.2.2.2.2.2.2.2.2.2.2.2.1, s.2.2.2.2.2.2.2.2.2.2.2.2.1, v)
theorem up_c {α : Type} (c : α → Int32) (f : Nat → α) (k : Nat) (v : α) : upd (fun j => c (f j)) k (c v) = fun j => c (va_up f k v j) := by
  funext j
  unfold upd va_up
  split <;> rfl
def wldH (g : GG) (a : Nat → Nat) (s : HS) : va_W := [(a 0, .inr (0, [.ref (a 1), .ref (a 2), .ref (a 3), .ref (a 4), .ref (a 5), .ref (a 6), .ref (a 7), .ref (a 8), .ref (a 9), .ref (a 10), .int (nI (gH_KS s)), .int (nI (gH_BU s).val), .int (gH_FA s), .int (nI (gH_HA s).val)])), (a 1, .inl (g.2.1, 32, .inl (fun j => bI (gH_TK s j)))), (a 2, .inl (g.2.1, 32, .inl (fun j => bI (gH_BM s j)))), (a 3, .inl (g.2.2.1, 32, .inl (fun j => gH_VA s j))), (a 4, .inl (g.2.2.1, 64, .inl (fun j => oI (gH_FD s j)))), (a 5, .inl (g.2.2.1, 4, .inl (fun j => oI (gH_RG s j)))), (a 6, .inl (g.2.2.1, 8, .inl (fun j => nI (gH_ST s j).val))), (a 7, .inl (g.2.1, 8, .inl (fun j => bI (gH_US s j)))), (a 8, .inl (g.2.2.1, 8, .inl (fun j => gH_CT s j))), (a 9, .inl (g.2.1, 32, .inl (fun j => bI (gH_KP s j)))), (a 10, .inl (g.2.2.1, 32, .inl (fun j => nI (gH_KL s j).val)))]
def adH (a : Nat → Nat) : Nat → Prop := fun q => ∃ k, k < 11 ∧ q = a k
def apH (a : Nat → Nat) : Prop := ∀ i j, i < 11 → j < 11 → a i = a j → i = j
theorem wldH_at {g : GG} {a : Nat → Nat} {s : HS} {k : Nat} {q : Nat × va_E} (h : (wldH g a s)[k]? = some q) : k < 11 ∧ q.1 = a k := by
  have hk : k < 11 := (List.getElem?_eq_some_iff.mp h).1
  have h1 : ((wldH g a s).map (fun z => z.1))[k]? = some q.1 := by rw [List.getElem?_map, h]; rfl
  have h2 : (wldH g a s).map (fun z => z.1) = [a 0, a 1, a 2, a 3, a 4, a 5, a 6, a 7, a 8, a 9, a 10] := rfl
  rw [h2] at h1
  refine ⟨hk, ?_⟩
  rcases (show k = 0 ∨ k = 1 ∨ k = 2 ∨ k = 3 ∨ k = 4 ∨ k = 5 ∨ k = 6 ∨ k = 7 ∨ k = 8 ∨ k = 9 ∨ k = 10 by omega) with rfl | rfl | rfl | rfl | rfl | rfl | rfl | rfl | rfl | rfl | rfl <;> exact (Option.some.inj h1).symm
theorem wldH_D {g : GG} {a : Nat → Nat} (ha : apH a) : ∀ s, va_D (adH a) (wldH g a s) := fun s =>
  ⟨fun i j p q hp hq hpq => by
    obtain ⟨h1, h2⟩ := wldH_at hp
    obtain ⟨h3, h4⟩ := wldH_at hq
    exact ha i j h1 h3 (by rw [← h2, ← h4]; exact hpq), fun k q hq => by
    obtain ⟨h1, h2⟩ := wldH_at hq
    exact ⟨k, h1, h2⟩⟩
section WH
variable {p : Program} {l : Launch} {e : Env} {R : Room} {S : State} {m : MethodId} {args : Array Value} {below : List Frame} {meth : Method} {c : Code} {H : Heap} {locs : List Loc} {cells slots : Nat} {Q : State → Prop}
variable {cc : ByteArray} {pc : Nat} {ls : Array Slot} {rest : List Value} {g : GG} {a : Nat → Nat} {A : Nat → Prop} {s : HS} {nL : Nat} {ret : Option FieldType} {own : String}
theorem rH_TK (X : Cx RH g p S m args meth c cc nL ret) (Y : Yw g (wldH g a) A S H locs s) (hdg : decode cc pc = .ok (.getfield 9, 3)) (kk : W p l e R S m args below meth c H locs cells slots Q (F0 m (pc + 3) ls (.ref (a 1) :: rest))) : W p l e R S m args below meth c H locs cells slots Q (F0 m pc ls (.ref (a 0) :: rest)) := va_get (D := g.1) (ci := 0) (v := .ref (a 1)) (C := RH) (T := FH) (N := 14) X.1 X.2.1 X.2.2.2.2.2.1 inH X.2.2.2.2.1 X.2.2.2.2.2.2.1 Y.1 0 rfl rfl 0 (by decide) (X.2.2.2.2.2.1 _ fH_taken) (fun _ h9 => h9) rfl hdg kk
theorem lH_TK (X : Cx own g p S m args meth c cc nL ret) (Y : Yw g (wldH g a) A S H locs s) {k : Nat} (hk : k < 32) (hdg : decode cc pc = .ok (.baload, 1)) (kk : W p l e R S m args below meth c H locs cells slots Q (F0 m (pc + 1) ls (.int (bI (gH_TK s k)) :: rest))) : W p l e R S m args below meth c H locs cells slots Q (F0 m pc ls (.int (nI k) :: .ref (a 1) :: rest)) := by
  refine va_zald (D := g.1) (cl := bw_cl) X.1 X.2.1 X.2.2.2.2.2.2.1 Y.1 1 0 (cA := g.2.1) (n := 32) (f := fun j => bI (gH_TK s j)) rfl rfl (vp_in_nI hk (by omega)) hdg ?_
  rw [nI_clamp (by omega)]
  exact kk
theorem sH_TK (X : Cx own g p S m args meth c cc nL ret) (Y : Yw g (wldH g a) A S H locs s) {k : Nat} {x : Int32} (v : Bool) (hv : x = bI (v)) (hk : k < 32) (hdg : decode cc pc = .ok (.bastore, 1)) (kk : ∀ (H : Heap) (locs : List Loc), Yw g (wldH g a) A S H locs (uH_TK s k v) → W p l e R S m args below meth c H locs cells slots Q (F0 m (pc + 1) ls rest)) : W p l e R S m args below meth c H locs cells slots Q (F0 m pc ls (.int x :: .int (nI k) :: .ref (a 1) :: rest)) := by
  rw [hv]
  refine va_zast (D := g.1) (cl := bw_cl) X.1 X.2.1 X.2.2.2.2.2.2.1 Y.1 Y.2.1 Y.2.2 1 0 (cA := g.2.1) (n := 32) (f := fun j => bI (gH_TK s j)) rfl rfl (vp_in_nI hk (by omega)) hdg (fun H1 locs1 hP hD hS => ?_)
  have e1 : upd (fun j => bI (gH_TK s j)) (nI k).toNatClampNeg (vp_nar .boolean (bI v)) = fun j => bI (va_up (gH_TK s) k v j) := by
    rw [nI_clamp (by omega), bI_vn]
    exact up_c bI (gH_TK s) k v
  rw [e1] at hP hD
  exact kk H1 locs1 ⟨hP, hD, hS⟩
theorem rH_BM (X : Cx RH g p S m args meth c cc nL ret) (Y : Yw g (wldH g a) A S H locs s) (hdg : decode cc pc = .ok (.getfield 13, 3)) (kk : W p l e R S m args below meth c H locs cells slots Q (F0 m (pc + 3) ls (.ref (a 2) :: rest))) : W p l e R S m args below meth c H locs cells slots Q (F0 m pc ls (.ref (a 0) :: rest)) := va_get (D := g.1) (ci := 0) (v := .ref (a 2)) (C := RH) (T := FH) (N := 14) X.1 X.2.1 X.2.2.2.2.2.1 inH X.2.2.2.2.1 X.2.2.2.2.2.2.1 Y.1 0 rfl rfl 1 (by decide) (X.2.2.2.2.2.1 _ fH_bookmarked) (fun _ h9 => h9) rfl hdg kk
theorem lH_BM (X : Cx own g p S m args meth c cc nL ret) (Y : Yw g (wldH g a) A S H locs s) {k : Nat} (hk : k < 32) (hdg : decode cc pc = .ok (.baload, 1)) (kk : W p l e R S m args below meth c H locs cells slots Q (F0 m (pc + 1) ls (.int (bI (gH_BM s k)) :: rest))) : W p l e R S m args below meth c H locs cells slots Q (F0 m pc ls (.int (nI k) :: .ref (a 2) :: rest)) := by
  refine va_zald (D := g.1) (cl := bw_cl) X.1 X.2.1 X.2.2.2.2.2.2.1 Y.1 2 0 (cA := g.2.1) (n := 32) (f := fun j => bI (gH_BM s j)) rfl rfl (vp_in_nI hk (by omega)) hdg ?_
  rw [nI_clamp (by omega)]
  exact kk
theorem sH_BM (X : Cx own g p S m args meth c cc nL ret) (Y : Yw g (wldH g a) A S H locs s) {k : Nat} {x : Int32} (v : Bool) (hv : x = bI (v)) (hk : k < 32) (hdg : decode cc pc = .ok (.bastore, 1)) (kk : ∀ (H : Heap) (locs : List Loc), Yw g (wldH g a) A S H locs (uH_BM s k v) → W p l e R S m args below meth c H locs cells slots Q (F0 m (pc + 1) ls rest)) : W p l e R S m args below meth c H locs cells slots Q (F0 m pc ls (.int x :: .int (nI k) :: .ref (a 2) :: rest)) := by
  rw [hv]
  refine va_zast (D := g.1) (cl := bw_cl) X.1 X.2.1 X.2.2.2.2.2.2.1 Y.1 Y.2.1 Y.2.2 2 0 (cA := g.2.1) (n := 32) (f := fun j => bI (gH_BM s j)) rfl rfl (vp_in_nI hk (by omega)) hdg (fun H1 locs1 hP hD hS => ?_)
  have e1 : upd (fun j => bI (gH_BM s j)) (nI k).toNatClampNeg (vp_nar .boolean (bI v)) = fun j => bI (va_up (gH_BM s) k v j) := by
    rw [nI_clamp (by omega), bI_vn]
    exact up_c bI (gH_BM s) k v
  rw [e1] at hP hD
  exact kk H1 locs1 ⟨hP, hD, hS⟩
theorem rH_VA (X : Cx RH g p S m args meth c cc nL ret) (Y : Yw g (wldH g a) A S H locs s) (hdg : decode cc pc = .ok (.getfield 16, 3)) (kk : W p l e R S m args below meth c H locs cells slots Q (F0 m (pc + 3) ls (.ref (a 3) :: rest))) : W p l e R S m args below meth c H locs cells slots Q (F0 m pc ls (.ref (a 0) :: rest)) := va_get (D := g.1) (ci := 0) (v := .ref (a 3)) (C := RH) (T := FH) (N := 14) X.1 X.2.1 X.2.2.2.2.2.1 inH X.2.2.2.2.1 X.2.2.2.2.2.2.1 Y.1 0 rfl rfl 2 (by decide) (X.2.2.2.2.2.1 _ fH_values) (fun _ h9 => h9) rfl hdg kk
theorem lH_VA (X : Cx own g p S m args meth c cc nL ret) (Y : Yw g (wldH g a) A S H locs s) {k : Nat} (hk : k < 32) (hdg : decode cc pc = .ok (.iaload, 1)) (kk : W p l e R S m args below meth c H locs cells slots Q (F0 m (pc + 1) ls (.int (gH_VA s k) :: rest))) : W p l e R S m args below meth c H locs cells slots Q (F0 m pc ls (.int (nI k) :: .ref (a 3) :: rest)) := by
  refine va_iald (D := g.1) (cl := bw_cl) X.1 X.2.1 X.2.2.2.2.2.2.1 Y.1 3 1 (cA := g.2.2.1) (n := 32) (f := fun j => gH_VA s j) rfl rfl (vp_in_nI hk (by omega)) hdg ?_
  rw [nI_clamp (by omega)]
  exact kk
theorem sH_VA (X : Cx own g p S m args meth c cc nL ret) (Y : Yw g (wldH g a) A S H locs s) {k : Nat} {x : Int32} (v : Int32) (hv : x = v) (hk : k < 32) (hdg : decode cc pc = .ok (.iastore, 1)) (kk : ∀ (H : Heap) (locs : List Loc), Yw g (wldH g a) A S H locs (uH_VA s k v) → W p l e R S m args below meth c H locs cells slots Q (F0 m (pc + 1) ls rest)) : W p l e R S m args below meth c H locs cells slots Q (F0 m pc ls (.int x :: .int (nI k) :: .ref (a 3) :: rest)) := by
  rw [hv]
  refine va_iast (D := g.1) (cl := bw_cl) X.1 X.2.1 X.2.2.2.2.2.2.1 Y.1 Y.2.1 Y.2.2 3 1 (cA := g.2.2.1) (n := 32) (f := fun j => gH_VA s j) rfl rfl (vp_in_nI hk (by omega)) hdg (fun H1 locs1 hP hD hS => ?_)
  have e1 : upd (fun j => gH_VA s j) (nI k).toNatClampNeg (v) = fun j => va_up (gH_VA s) k v j := by
    rw [nI_clamp (by omega)]
    exact up_c (fun z => z) (gH_VA s) k v
  rw [e1] at hP hD
  exact kk H1 locs1 ⟨hP, hD, hS⟩
theorem rH_FD (X : Cx RH g p S m args meth c cc nL ret) (Y : Yw g (wldH g a) A S H locs s) (hdg : decode cc pc = .ok (.getfield 20, 3)) (kk : W p l e R S m args below meth c H locs cells slots Q (F0 m (pc + 3) ls (.ref (a 4) :: rest))) : W p l e R S m args below meth c H locs cells slots Q (F0 m pc ls (.ref (a 0) :: rest)) := va_get (D := g.1) (ci := 0) (v := .ref (a 4)) (C := RH) (T := FH) (N := 14) X.1 X.2.1 X.2.2.2.2.2.1 inH X.2.2.2.2.1 X.2.2.2.2.2.2.1 Y.1 0 rfl rfl 3 (by decide) (X.2.2.2.2.2.1 _ fH_fields) (fun _ h9 => h9) rfl hdg kk
theorem lH_FD (X : Cx own g p S m args meth c cc nL ret) (Y : Yw g (wldH g a) A S H locs s) {k : Nat} (hk : k < 64) (hdg : decode cc pc = .ok (.iaload, 1)) (kk : W p l e R S m args below meth c H locs cells slots Q (F0 m (pc + 1) ls (.int (oI (gH_FD s k)) :: rest))) : W p l e R S m args below meth c H locs cells slots Q (F0 m pc ls (.int (nI k) :: .ref (a 4) :: rest)) := by
  refine va_iald (D := g.1) (cl := bw_cl) X.1 X.2.1 X.2.2.2.2.2.2.1 Y.1 4 1 (cA := g.2.2.1) (n := 64) (f := fun j => oI (gH_FD s j)) rfl rfl (vp_in_nI hk (by omega)) hdg ?_
  rw [nI_clamp (by omega)]
  exact kk
theorem sH_FD (X : Cx own g p S m args meth c cc nL ret) (Y : Yw g (wldH g a) A S H locs s) {k : Nat} {x : Int32} (v : Option (Fin 32)) (hv : x = oI (v)) (hk : k < 64) (hdg : decode cc pc = .ok (.iastore, 1)) (kk : ∀ (H : Heap) (locs : List Loc), Yw g (wldH g a) A S H locs (uH_FD s k v) → W p l e R S m args below meth c H locs cells slots Q (F0 m (pc + 1) ls rest)) : W p l e R S m args below meth c H locs cells slots Q (F0 m pc ls (.int x :: .int (nI k) :: .ref (a 4) :: rest)) := by
  rw [hv]
  refine va_iast (D := g.1) (cl := bw_cl) X.1 X.2.1 X.2.2.2.2.2.2.1 Y.1 Y.2.1 Y.2.2 4 1 (cA := g.2.2.1) (n := 64) (f := fun j => oI (gH_FD s j)) rfl rfl (vp_in_nI hk (by omega)) hdg (fun H1 locs1 hP hD hS => ?_)
  have e1 : upd (fun j => oI (gH_FD s j)) (nI k).toNatClampNeg (oI (v)) = fun j => oI (va_up (gH_FD s) k v j) := by
    rw [nI_clamp (by omega)]
    exact up_c oI (gH_FD s) k v
  rw [e1] at hP hD
  exact kk H1 locs1 ⟨hP, hD, hS⟩
theorem rH_RG (X : Cx RH g p S m args meth c cc nL ret) (Y : Yw g (wldH g a) A S H locs s) (hdg : decode cc pc = .ok (.getfield 23, 3)) (kk : W p l e R S m args below meth c H locs cells slots Q (F0 m (pc + 3) ls (.ref (a 5) :: rest))) : W p l e R S m args below meth c H locs cells slots Q (F0 m pc ls (.ref (a 0) :: rest)) := va_get (D := g.1) (ci := 0) (v := .ref (a 5)) (C := RH) (T := FH) (N := 14) X.1 X.2.1 X.2.2.2.2.2.1 inH X.2.2.2.2.1 X.2.2.2.2.2.2.1 Y.1 0 rfl rfl 4 (by decide) (X.2.2.2.2.2.1 _ fH_registers) (fun _ h9 => h9) rfl hdg kk
theorem lH_RG (X : Cx own g p S m args meth c cc nL ret) (Y : Yw g (wldH g a) A S H locs s) {k : Nat} (hk : k < 4) (hdg : decode cc pc = .ok (.iaload, 1)) (kk : W p l e R S m args below meth c H locs cells slots Q (F0 m (pc + 1) ls (.int (oI (gH_RG s k)) :: rest))) : W p l e R S m args below meth c H locs cells slots Q (F0 m pc ls (.int (nI k) :: .ref (a 5) :: rest)) := by
  refine va_iald (D := g.1) (cl := bw_cl) X.1 X.2.1 X.2.2.2.2.2.2.1 Y.1 5 1 (cA := g.2.2.1) (n := 4) (f := fun j => oI (gH_RG s j)) rfl rfl (vp_in_nI hk (by omega)) hdg ?_
  rw [nI_clamp (by omega)]
  exact kk
theorem sH_RG (X : Cx own g p S m args meth c cc nL ret) (Y : Yw g (wldH g a) A S H locs s) {k : Nat} {x : Int32} (v : Option (Fin 32)) (hv : x = oI (v)) (hk : k < 4) (hdg : decode cc pc = .ok (.iastore, 1)) (kk : ∀ (H : Heap) (locs : List Loc), Yw g (wldH g a) A S H locs (uH_RG s k v) → W p l e R S m args below meth c H locs cells slots Q (F0 m (pc + 1) ls rest)) : W p l e R S m args below meth c H locs cells slots Q (F0 m pc ls (.int x :: .int (nI k) :: .ref (a 5) :: rest)) := by
  rw [hv]
  refine va_iast (D := g.1) (cl := bw_cl) X.1 X.2.1 X.2.2.2.2.2.2.1 Y.1 Y.2.1 Y.2.2 5 1 (cA := g.2.2.1) (n := 4) (f := fun j => oI (gH_RG s j)) rfl rfl (vp_in_nI hk (by omega)) hdg (fun H1 locs1 hP hD hS => ?_)
  have e1 : upd (fun j => oI (gH_RG s j)) (nI k).toNatClampNeg (oI (v)) = fun j => oI (va_up (gH_RG s) k v j) := by
    rw [nI_clamp (by omega)]
    exact up_c oI (gH_RG s) k v
  rw [e1] at hP hD
  exact kk H1 locs1 ⟨hP, hD, hS⟩
theorem rH_ST (X : Cx RH g p S m args meth c cc nL ret) (Y : Yw g (wldH g a) A S H locs s) (hdg : decode cc pc = .ok (.getfield 26, 3)) (kk : W p l e R S m args below meth c H locs cells slots Q (F0 m (pc + 3) ls (.ref (a 6) :: rest))) : W p l e R S m args below meth c H locs cells slots Q (F0 m pc ls (.ref (a 0) :: rest)) := va_get (D := g.1) (ci := 0) (v := .ref (a 6)) (C := RH) (T := FH) (N := 14) X.1 X.2.1 X.2.2.2.2.2.1 inH X.2.2.2.2.1 X.2.2.2.2.2.2.1 Y.1 0 rfl rfl 5 (by decide) (X.2.2.2.2.2.1 _ fH_states) (fun _ h9 => h9) rfl hdg kk
theorem lH_ST (X : Cx own g p S m args meth c cc nL ret) (Y : Yw g (wldH g a) A S H locs s) {k : Nat} (hk : k < 8) (hdg : decode cc pc = .ok (.iaload, 1)) (kk : W p l e R S m args below meth c H locs cells slots Q (F0 m (pc + 1) ls (.int (nI (gH_ST s k).val) :: rest))) : W p l e R S m args below meth c H locs cells slots Q (F0 m pc ls (.int (nI k) :: .ref (a 6) :: rest)) := by
  refine va_iald (D := g.1) (cl := bw_cl) X.1 X.2.1 X.2.2.2.2.2.2.1 Y.1 6 1 (cA := g.2.2.1) (n := 8) (f := fun j => nI (gH_ST s j).val) rfl rfl (vp_in_nI hk (by omega)) hdg ?_
  rw [nI_clamp (by omega)]
  exact kk
theorem sH_ST (X : Cx own g p S m args meth c cc nL ret) (Y : Yw g (wldH g a) A S H locs s) {k : Nat} {x : Int32} (v : Fin 3) (hv : x = nI (v).val) (hk : k < 8) (hdg : decode cc pc = .ok (.iastore, 1)) (kk : ∀ (H : Heap) (locs : List Loc), Yw g (wldH g a) A S H locs (uH_ST s k v) → W p l e R S m args below meth c H locs cells slots Q (F0 m (pc + 1) ls rest)) : W p l e R S m args below meth c H locs cells slots Q (F0 m pc ls (.int x :: .int (nI k) :: .ref (a 6) :: rest)) := by
  rw [hv]
  refine va_iast (D := g.1) (cl := bw_cl) X.1 X.2.1 X.2.2.2.2.2.2.1 Y.1 Y.2.1 Y.2.2 6 1 (cA := g.2.2.1) (n := 8) (f := fun j => nI (gH_ST s j).val) rfl rfl (vp_in_nI hk (by omega)) hdg (fun H1 locs1 hP hD hS => ?_)
  have e1 : upd (fun j => nI (gH_ST s j).val) (nI k).toNatClampNeg (nI (v).val) = fun j => nI (va_up (gH_ST s) k v j).val := by
    rw [nI_clamp (by omega)]
    exact up_c (fun z : Fin 3 => nI z.val) (gH_ST s) k v
  rw [e1] at hP hD
  exact kk H1 locs1 ⟨hP, hD, hS⟩
theorem rH_US (X : Cx RH g p S m args meth c cc nL ret) (Y : Yw g (wldH g a) A S H locs s) (hdg : decode cc pc = .ok (.getfield 29, 3)) (kk : W p l e R S m args below meth c H locs cells slots Q (F0 m (pc + 3) ls (.ref (a 7) :: rest))) : W p l e R S m args below meth c H locs cells slots Q (F0 m pc ls (.ref (a 0) :: rest)) := va_get (D := g.1) (ci := 0) (v := .ref (a 7)) (C := RH) (T := FH) (N := 14) X.1 X.2.1 X.2.2.2.2.2.1 inH X.2.2.2.2.1 X.2.2.2.2.2.2.1 Y.1 0 rfl rfl 6 (by decide) (X.2.2.2.2.2.1 _ fH_used) (fun _ h9 => h9) rfl hdg kk
theorem lH_US (X : Cx own g p S m args meth c cc nL ret) (Y : Yw g (wldH g a) A S H locs s) {k : Nat} (hk : k < 8) (hdg : decode cc pc = .ok (.baload, 1)) (kk : W p l e R S m args below meth c H locs cells slots Q (F0 m (pc + 1) ls (.int (bI (gH_US s k)) :: rest))) : W p l e R S m args below meth c H locs cells slots Q (F0 m pc ls (.int (nI k) :: .ref (a 7) :: rest)) := by
  refine va_zald (D := g.1) (cl := bw_cl) X.1 X.2.1 X.2.2.2.2.2.2.1 Y.1 7 0 (cA := g.2.1) (n := 8) (f := fun j => bI (gH_US s j)) rfl rfl (vp_in_nI hk (by omega)) hdg ?_
  rw [nI_clamp (by omega)]
  exact kk
theorem sH_US (X : Cx own g p S m args meth c cc nL ret) (Y : Yw g (wldH g a) A S H locs s) {k : Nat} {x : Int32} (v : Bool) (hv : x = bI (v)) (hk : k < 8) (hdg : decode cc pc = .ok (.bastore, 1)) (kk : ∀ (H : Heap) (locs : List Loc), Yw g (wldH g a) A S H locs (uH_US s k v) → W p l e R S m args below meth c H locs cells slots Q (F0 m (pc + 1) ls rest)) : W p l e R S m args below meth c H locs cells slots Q (F0 m pc ls (.int x :: .int (nI k) :: .ref (a 7) :: rest)) := by
  rw [hv]
  refine va_zast (D := g.1) (cl := bw_cl) X.1 X.2.1 X.2.2.2.2.2.2.1 Y.1 Y.2.1 Y.2.2 7 0 (cA := g.2.1) (n := 8) (f := fun j => bI (gH_US s j)) rfl rfl (vp_in_nI hk (by omega)) hdg (fun H1 locs1 hP hD hS => ?_)
  have e1 : upd (fun j => bI (gH_US s j)) (nI k).toNatClampNeg (vp_nar .boolean (bI v)) = fun j => bI (va_up (gH_US s) k v j) := by
    rw [nI_clamp (by omega), bI_vn]
    exact up_c bI (gH_US s) k v
  rw [e1] at hP hD
  exact kk H1 locs1 ⟨hP, hD, hS⟩
theorem rH_CT (X : Cx RH g p S m args meth c cc nL ret) (Y : Yw g (wldH g a) A S H locs s) (hdg : decode cc pc = .ok (.getfield 32, 3)) (kk : W p l e R S m args below meth c H locs cells slots Q (F0 m (pc + 3) ls (.ref (a 8) :: rest))) : W p l e R S m args below meth c H locs cells slots Q (F0 m pc ls (.ref (a 0) :: rest)) := va_get (D := g.1) (ci := 0) (v := .ref (a 8)) (C := RH) (T := FH) (N := 14) X.1 X.2.1 X.2.2.2.2.2.1 inH X.2.2.2.2.1 X.2.2.2.2.2.2.1 Y.1 0 rfl rfl 7 (by decide) (X.2.2.2.2.2.1 _ fH_counts) (fun _ h9 => h9) rfl hdg kk
theorem lH_CT (X : Cx own g p S m args meth c cc nL ret) (Y : Yw g (wldH g a) A S H locs s) {k : Nat} (hk : k < 8) (hdg : decode cc pc = .ok (.iaload, 1)) (kk : W p l e R S m args below meth c H locs cells slots Q (F0 m (pc + 1) ls (.int (gH_CT s k) :: rest))) : W p l e R S m args below meth c H locs cells slots Q (F0 m pc ls (.int (nI k) :: .ref (a 8) :: rest)) := by
  refine va_iald (D := g.1) (cl := bw_cl) X.1 X.2.1 X.2.2.2.2.2.2.1 Y.1 8 1 (cA := g.2.2.1) (n := 8) (f := fun j => gH_CT s j) rfl rfl (vp_in_nI hk (by omega)) hdg ?_
  rw [nI_clamp (by omega)]
  exact kk
theorem sH_CT (X : Cx own g p S m args meth c cc nL ret) (Y : Yw g (wldH g a) A S H locs s) {k : Nat} {x : Int32} (v : Int32) (hv : x = v) (hk : k < 8) (hdg : decode cc pc = .ok (.iastore, 1)) (kk : ∀ (H : Heap) (locs : List Loc), Yw g (wldH g a) A S H locs (uH_CT s k v) → W p l e R S m args below meth c H locs cells slots Q (F0 m (pc + 1) ls rest)) : W p l e R S m args below meth c H locs cells slots Q (F0 m pc ls (.int x :: .int (nI k) :: .ref (a 8) :: rest)) := by
  rw [hv]
  refine va_iast (D := g.1) (cl := bw_cl) X.1 X.2.1 X.2.2.2.2.2.2.1 Y.1 Y.2.1 Y.2.2 8 1 (cA := g.2.2.1) (n := 8) (f := fun j => gH_CT s j) rfl rfl (vp_in_nI hk (by omega)) hdg (fun H1 locs1 hP hD hS => ?_)
  have e1 : upd (fun j => gH_CT s j) (nI k).toNatClampNeg (v) = fun j => va_up (gH_CT s) k v j := by
    rw [nI_clamp (by omega)]
    exact up_c (fun z => z) (gH_CT s) k v
  rw [e1] at hP hD
  exact kk H1 locs1 ⟨hP, hD, hS⟩
theorem rH_KP (X : Cx RH g p S m args meth c cc nL ret) (Y : Yw g (wldH g a) A S H locs s) (hdg : decode cc pc = .ok (.getfield 35, 3)) (kk : W p l e R S m args below meth c H locs cells slots Q (F0 m (pc + 3) ls (.ref (a 9) :: rest))) : W p l e R S m args below meth c H locs cells slots Q (F0 m pc ls (.ref (a 0) :: rest)) := va_get (D := g.1) (ci := 0) (v := .ref (a 9)) (C := RH) (T := FH) (N := 14) X.1 X.2.1 X.2.2.2.2.2.1 inH X.2.2.2.2.1 X.2.2.2.2.2.2.1 Y.1 0 rfl rfl 8 (by decide) (X.2.2.2.2.2.1 _ fH_kept) (fun _ h9 => h9) rfl hdg kk
theorem lH_KP (X : Cx own g p S m args meth c cc nL ret) (Y : Yw g (wldH g a) A S H locs s) {k : Nat} (hk : k < 32) (hdg : decode cc pc = .ok (.baload, 1)) (kk : W p l e R S m args below meth c H locs cells slots Q (F0 m (pc + 1) ls (.int (bI (gH_KP s k)) :: rest))) : W p l e R S m args below meth c H locs cells slots Q (F0 m pc ls (.int (nI k) :: .ref (a 9) :: rest)) := by
  refine va_zald (D := g.1) (cl := bw_cl) X.1 X.2.1 X.2.2.2.2.2.2.1 Y.1 9 0 (cA := g.2.1) (n := 32) (f := fun j => bI (gH_KP s j)) rfl rfl (vp_in_nI hk (by omega)) hdg ?_
  rw [nI_clamp (by omega)]
  exact kk
theorem sH_KP (X : Cx own g p S m args meth c cc nL ret) (Y : Yw g (wldH g a) A S H locs s) {k : Nat} {x : Int32} (v : Bool) (hv : x = bI (v)) (hk : k < 32) (hdg : decode cc pc = .ok (.bastore, 1)) (kk : ∀ (H : Heap) (locs : List Loc), Yw g (wldH g a) A S H locs (uH_KP s k v) → W p l e R S m args below meth c H locs cells slots Q (F0 m (pc + 1) ls rest)) : W p l e R S m args below meth c H locs cells slots Q (F0 m pc ls (.int x :: .int (nI k) :: .ref (a 9) :: rest)) := by
  rw [hv]
  refine va_zast (D := g.1) (cl := bw_cl) X.1 X.2.1 X.2.2.2.2.2.2.1 Y.1 Y.2.1 Y.2.2 9 0 (cA := g.2.1) (n := 32) (f := fun j => bI (gH_KP s j)) rfl rfl (vp_in_nI hk (by omega)) hdg (fun H1 locs1 hP hD hS => ?_)
  have e1 : upd (fun j => bI (gH_KP s j)) (nI k).toNatClampNeg (vp_nar .boolean (bI v)) = fun j => bI (va_up (gH_KP s) k v j) := by
    rw [nI_clamp (by omega), bI_vn]
    exact up_c bI (gH_KP s) k v
  rw [e1] at hP hD
  exact kk H1 locs1 ⟨hP, hD, hS⟩
theorem rH_KL (X : Cx RH g p S m args meth c cc nL ret) (Y : Yw g (wldH g a) A S H locs s) (hdg : decode cc pc = .ok (.getfield 38, 3)) (kk : W p l e R S m args below meth c H locs cells slots Q (F0 m (pc + 3) ls (.ref (a 10) :: rest))) : W p l e R S m args below meth c H locs cells slots Q (F0 m pc ls (.ref (a 0) :: rest)) := va_get (D := g.1) (ci := 0) (v := .ref (a 10)) (C := RH) (T := FH) (N := 14) X.1 X.2.1 X.2.2.2.2.2.1 inH X.2.2.2.2.1 X.2.2.2.2.2.2.1 Y.1 0 rfl rfl 9 (by decide) (X.2.2.2.2.2.1 _ fH_keptPlaces) (fun _ h9 => h9) rfl hdg kk
theorem lH_KL (X : Cx own g p S m args meth c cc nL ret) (Y : Yw g (wldH g a) A S H locs s) {k : Nat} (hk : k < 32) (hdg : decode cc pc = .ok (.iaload, 1)) (kk : W p l e R S m args below meth c H locs cells slots Q (F0 m (pc + 1) ls (.int (nI (gH_KL s k).val) :: rest))) : W p l e R S m args below meth c H locs cells slots Q (F0 m pc ls (.int (nI k) :: .ref (a 10) :: rest)) := by
  refine va_iald (D := g.1) (cl := bw_cl) X.1 X.2.1 X.2.2.2.2.2.2.1 Y.1 10 1 (cA := g.2.2.1) (n := 32) (f := fun j => nI (gH_KL s j).val) rfl rfl (vp_in_nI hk (by omega)) hdg ?_
  rw [nI_clamp (by omega)]
  exact kk
theorem sH_KL (X : Cx own g p S m args meth c cc nL ret) (Y : Yw g (wldH g a) A S H locs s) {k : Nat} {x : Int32} (v : Fin 32) (hv : x = nI (v).val) (hk : k < 32) (hdg : decode cc pc = .ok (.iastore, 1)) (kk : ∀ (H : Heap) (locs : List Loc), Yw g (wldH g a) A S H locs (uH_KL s k v) → W p l e R S m args below meth c H locs cells slots Q (F0 m (pc + 1) ls rest)) : W p l e R S m args below meth c H locs cells slots Q (F0 m pc ls (.int x :: .int (nI k) :: .ref (a 10) :: rest)) := by
  rw [hv]
  refine va_iast (D := g.1) (cl := bw_cl) X.1 X.2.1 X.2.2.2.2.2.2.1 Y.1 Y.2.1 Y.2.2 10 1 (cA := g.2.2.1) (n := 32) (f := fun j => nI (gH_KL s j).val) rfl rfl (vp_in_nI hk (by omega)) hdg (fun H1 locs1 hP hD hS => ?_)
  have e1 : upd (fun j => nI (gH_KL s j).val) (nI k).toNatClampNeg (nI (v).val) = fun j => nI (va_up (gH_KL s) k v j).val := by
    rw [nI_clamp (by omega)]
    exact up_c (fun z : Fin 32 => nI z.val) (gH_KL s) k v
  rw [e1] at hP hD
  exact kk H1 locs1 ⟨hP, hD, hS⟩
theorem rH_KS (X : Cx RH g p S m args meth c cc nL ret) (Y : Yw g (wldH g a) A S H locs s) (hdg : decode cc pc = .ok (.getfield 159, 3)) (kk : W p l e R S m args below meth c H locs cells slots Q (F0 m (pc + 3) ls (.int (nI (gH_KS s)) :: rest))) : W p l e R S m args below meth c H locs cells slots Q (F0 m pc ls (.ref (a 0) :: rest)) := va_get (D := g.1) (ci := 0) (v := .int (nI (gH_KS s))) (C := RH) (T := FH) (N := 14) X.1 X.2.1 X.2.2.2.2.2.1 inH X.2.2.2.2.1 X.2.2.2.2.2.2.1 Y.1 0 rfl rfl 10 (by decide) (X.2.2.2.2.2.1 _ fH_keptSize) (fun _ h9 => h9) rfl hdg kk
theorem pH_KS (X : Cx RH g p S m args meth c cc nL ret) (Y : Yw g (wldH g a) A S H locs s) {x : Int32} (v : Nat) (hv : x = nI (v)) (hdg : decode cc pc = .ok (.putfield 159, 3)) (kk : ∀ (H : Heap) (locs : List Loc), Yw g (wldH g a) A S H locs (uH_KS s v) → W p l e R S m args below meth c H locs cells slots Q (F0 m (pc + 3) ls rest)) : W p l e R S m args below meth c H locs cells slots Q (F0 m pc ls (.int x :: .ref (a 0) :: rest)) := by
  rw [hv]
  exact va_put (D := g.1) (ci := 0) (v := .int (nI (v))) (ty := .int) (C := RH) (T := FH) (N := 14) X.1 X.2.1 X.2.2.2.2.2.1 inH tH tH_ok nH X.2.2.2.2.1 X.2.2.2.2.2.2.1 Y.1 Y.2.1 Y.2.2 0 rfl rfl 10 (by decide) (X.2.2.2.2.2.1 _ fH_keptSize) (fun _ h9 => h9) rfl (by decide +kernel) rfl rfl (Nat.le_of_ble_eq_true rfl) hdg (fun H1 locs1 hP hD hS => kk H1 locs1 ⟨hP, hD, hS⟩)
theorem rH_BU (X : Cx RH g p S m args meth c cc nL ret) (Y : Yw g (wldH g a) A S H locs s) (hdg : decode cc pc = .ok (.getfield 47, 3)) (kk : W p l e R S m args below meth c H locs cells slots Q (F0 m (pc + 3) ls (.int (nI (gH_BU s).val) :: rest))) : W p l e R S m args below meth c H locs cells slots Q (F0 m pc ls (.ref (a 0) :: rest)) := va_get (D := g.1) (ci := 0) (v := .int (nI (gH_BU s).val)) (C := RH) (T := FH) (N := 14) X.1 X.2.1 X.2.2.2.2.2.1 inH X.2.2.2.2.1 X.2.2.2.2.2.2.1 Y.1 0 rfl rfl 11 (by decide) (X.2.2.2.2.2.1 _ fH_pagesAllowed) (fun _ h9 => h9) rfl hdg kk
theorem pH_BU (X : Cx RH g p S m args meth c cc nL ret) (Y : Yw g (wldH g a) A S H locs s) {x : Int32} (v : Fin 9) (hv : x = nI (v).val) (hdg : decode cc pc = .ok (.putfield 47, 3)) (kk : ∀ (H : Heap) (locs : List Loc), Yw g (wldH g a) A S H locs (uH_BU s v) → W p l e R S m args below meth c H locs cells slots Q (F0 m (pc + 3) ls rest)) : W p l e R S m args below meth c H locs cells slots Q (F0 m pc ls (.int x :: .ref (a 0) :: rest)) := by
  rw [hv]
  exact va_put (D := g.1) (ci := 0) (v := .int (nI (v).val)) (ty := .int) (C := RH) (T := FH) (N := 14) X.1 X.2.1 X.2.2.2.2.2.1 inH tH tH_ok nH X.2.2.2.2.1 X.2.2.2.2.2.2.1 Y.1 Y.2.1 Y.2.2 0 rfl rfl 11 (by decide) (X.2.2.2.2.2.1 _ fH_pagesAllowed) (fun _ h9 => h9) rfl (by decide +kernel) rfl rfl (Nat.le_of_ble_eq_true rfl) hdg (fun H1 locs1 hP hD hS => kk H1 locs1 ⟨hP, hD, hS⟩)
theorem rH_FA (X : Cx RH g p S m args meth c cc nL ret) (Y : Yw g (wldH g a) A S H locs s) (hdg : decode cc pc = .ok (.getfield 86, 3)) (kk : W p l e R S m args below meth c H locs cells slots Q (F0 m (pc + 3) ls (.int (gH_FA s) :: rest))) : W p l e R S m args below meth c H locs cells slots Q (F0 m pc ls (.ref (a 0) :: rest)) := va_get (D := g.1) (ci := 0) (v := .int (gH_FA s)) (C := RH) (T := FH) (N := 14) X.1 X.2.1 X.2.2.2.2.2.1 inH X.2.2.2.2.1 X.2.2.2.2.2.2.1 Y.1 0 rfl rfl 12 (by decide) (X.2.2.2.2.2.1 _ fH_faultsSoFar) (fun _ h9 => h9) rfl hdg kk
theorem pH_FA (X : Cx RH g p S m args meth c cc nL ret) (Y : Yw g (wldH g a) A S H locs s) {x : Int32} (v : Int32) (hv : x = v) (hdg : decode cc pc = .ok (.putfield 86, 3)) (kk : ∀ (H : Heap) (locs : List Loc), Yw g (wldH g a) A S H locs (uH_FA s v) → W p l e R S m args below meth c H locs cells slots Q (F0 m (pc + 3) ls rest)) : W p l e R S m args below meth c H locs cells slots Q (F0 m pc ls (.int x :: .ref (a 0) :: rest)) := by
  rw [hv]
  exact va_put (D := g.1) (ci := 0) (v := .int (v)) (ty := .int) (C := RH) (T := FH) (N := 14) X.1 X.2.1 X.2.2.2.2.2.1 inH tH tH_ok nH X.2.2.2.2.1 X.2.2.2.2.2.2.1 Y.1 Y.2.1 Y.2.2 0 rfl rfl 12 (by decide) (X.2.2.2.2.2.1 _ fH_faultsSoFar) (fun _ h9 => h9) rfl (by decide +kernel) rfl rfl (Nat.le_of_ble_eq_true rfl) hdg (fun H1 locs1 hP hD hS => kk H1 locs1 ⟨hP, hD, hS⟩)
theorem rH_HA (X : Cx RH g p S m args meth c cc nL ret) (Y : Yw g (wldH g a) A S H locs s) (hdg : decode cc pc = .ok (.getfield 104, 3)) (kk : W p l e R S m args below meth c H locs cells slots Q (F0 m (pc + 3) ls (.int (nI (gH_HA s).val) :: rest))) : W p l e R S m args below meth c H locs cells slots Q (F0 m pc ls (.ref (a 0) :: rest)) := va_get (D := g.1) (ci := 0) (v := .int (nI (gH_HA s).val)) (C := RH) (T := FH) (N := 14) X.1 X.2.1 X.2.2.2.2.2.1 inH X.2.2.2.2.1 X.2.2.2.2.2.2.1 Y.1 0 rfl rfl 13 (by decide) (X.2.2.2.2.2.1 _ fH_handPage) (fun _ h9 => h9) rfl hdg kk
theorem pH_HA (X : Cx RH g p S m args meth c cc nL ret) (Y : Yw g (wldH g a) A S H locs s) {x : Int32} (v : Fin 8) (hv : x = nI (v).val) (hdg : decode cc pc = .ok (.putfield 104, 3)) (kk : ∀ (H : Heap) (locs : List Loc), Yw g (wldH g a) A S H locs (uH_HA s v) → W p l e R S m args below meth c H locs cells slots Q (F0 m (pc + 3) ls rest)) : W p l e R S m args below meth c H locs cells slots Q (F0 m pc ls (.int x :: .ref (a 0) :: rest)) := by
  rw [hv]
  exact va_put (D := g.1) (ci := 0) (v := .int (nI (v).val)) (ty := .int) (C := RH) (T := FH) (N := 14) X.1 X.2.1 X.2.2.2.2.2.1 inH tH tH_ok nH X.2.2.2.2.1 X.2.2.2.2.2.2.1 Y.1 Y.2.1 Y.2.2 0 rfl rfl 13 (by decide) (X.2.2.2.2.2.1 _ fH_handPage) (fun _ h9 => h9) rfl (by decide +kernel) rfl rfl (Nat.le_of_ble_eq_true rfl) hdg (fun H1 locs1 hP hD hS => kk H1 locs1 ⟨hP, hD, hS⟩)
end WH
end
section
/-! what the methods of the class do, in the words of its state -/
def toP (x : Option Nat) : Option (Fin 32) := match x with
  | none => none
  | some k => if h : k < 32 then some ⟨k, h⟩ else none
theorem toP_some {k : Nat} (h : k < 32) : toP (some k) = some ⟨k, h⟩ := dif_pos h
def h_inb (s : HS) (p : Nat) : Bool := decide ((gH_ST s p).val = 1)
def h_in (s : HS) : Nat := cntN (h_inb s) 8
theorem h_in_le (s : HS) : h_in s ≤ 8 := cntN_le _ 8
def h_rfb (s : HS) (v w i : Nat) : Bool := match gH_FD s (2 * (4 * v) + i) with
  | none => false
  | some k => decide (k.val / 4 = w)
def h_refers (s : HS) (v w : Nat) : Bool := !(decide (v = w)) && anyN (h_rfb s v w) 8
def h_pg (p : Int32) : Bool := !(decide (p < 0)) && !(decide (nI 8 ≤ p))
def h_mv (s : HS) : HS := uH_HA s ⟨((gH_HA s).val + 1) % 8, Nat.mod_lt _ (by decide)⟩
def h_passes (s : HS) (sp : Int32) : Bool := decide (¬ (gH_ST s (gH_HA s).val).val = 1) || decide (nI (gH_HA s).val = sp) || gH_US s (gH_HA s).val
def h_cs1 (sp : Int32) (s : HS) : HS := h_mv (if nI (gH_HA s).val = sp then s else uH_US s (gH_HA s).val false)
def h_chs (sp : Int32) : Nat → HS → HS
  | 0, s => s
  | n + 1, s => if h_passes s sp = true then h_chs sp n (h_cs1 sp s) else s
def h_cst (s : HS) (sp : Int32) : HS := h_chs sp 16 s
def h_chp (s : HS) (sp : Int32) : Nat := (gH_HA (h_cst s sp)).val
def h_cho (s : HS) (sp : Int32) : HS := h_mv (h_cst s sp)
theorem h_chp_lt (s : HS) (sp : Int32) : h_chp s sp < 8 := (gH_HA (h_cst s sp)).isLt
def h_bk1 (v i : Nat) (s : HS) : HS := if gH_TK s (4 * v + i) = true then uH_BM s (4 * v + i) true else s
def h_bk2 (v i : Nat) (s : HS) : HS := match gH_FD s (2 * (4 * v) + i) with
  | none => s
  | some k => uH_BM s k.val true
def h_bkall (v : Nat) (s : HS) : HS := fldN (h_bk2 v) (fldN (h_bk1 v) s 4) 8
def h_cinc (v w : Nat) (s : HS) : HS := if h_refers s v w = true then uH_CT s w (gH_CT s w + nI 1) else s
def h_putOut (v : Nat) (s : HS) : HS := uH_US (uH_ST (fldN (h_cinc v) (h_bkall v s) 8) v ⟨2, by decide⟩) v false
def h_fg1 (w i : Nat) (s : HS) : HS := uH_BM s (4 * w + i) false
def h_forget (w : Nat) (s : HS) : HS := if (gH_ST s w).val = 1 then (if gH_CT s w = 0 then fldN (h_fg1 w) s 4 else s) else s
def h_bi1 (v w : Nat) (s : HS) : HS := if h_refers s v w = true then h_forget w (uH_CT s w (gH_CT s w - nI 1)) else s
def h_bringIn (v : Nat) (s : HS) : HS := h_forget v (fldN (h_bi1 v) (uH_US (uH_ST s v ⟨1, by decide⟩) v false) 8)
def h_fi (s : HS) : HS := uH_FA s (gH_FA s + nI 1)
def h_ba1 (v : Nat) (s : HS) : HS := if (gH_ST s v).val = 2 then h_bringIn v (h_fi s) else s
def h_bringAll (s : HS) : HS := fldN h_ba1 s 8
def h_room (s : HS) : HS := if h_in s < (gH_BU s).val then s else h_putOut (h_chp s (-1)) (h_cho s (-1))
def h_touch (v : Nat) (s : HS) : HS := uH_US (if (gH_ST s v).val = 2 then h_bringIn v (h_room (h_fi s)) else s) v true
def h_by1 (sp : Int32) (_ : Nat) (s : HS) : HS := h_putOut (h_chp s sp) (h_cho s sp)
def h_byn (s : HS) : Nat := h_in s - (gH_BU s).val
def h_beyond (sp : Int32) (s : HS) : HS := fldN (h_by1 sp) s (h_byn s)
def h_keep (x : Option (Fin 32)) (s : HS) : HS := match x with
  | none => s
  | some k => if gH_KP s k.val = true then s else if (gH_ST s (k.val / 4)).val = 1 then uH_KS (uH_KL (uH_KP s k.val true) (gH_KS s) k) (gH_KS s + 1) else s
def h_k0 (i : Nat) (s : HS) : HS := uH_KP s i false
def h_kr (r : Nat) (s : HS) : HS := h_keep (gH_RG s r) s
def h_kb (p : Nat) (s : HS) : HS := if gH_BM s p = true then h_keep (toP (some p)) s else s
def h_wk (i f : Nat) (s : HS) : HS := h_keep (gH_FD s (2 * (gH_KL s i).val + f)) s
def h_wl : Nat → Nat → HS → HS
  | 0, _, s => s
  | n + 1, i, s => if i < gH_KS s then h_wl n (i + 1) (fldN (h_wk i) s 2) else s
theorem h_wl_stop {n i : Nat} {s : HS} (h : gH_KS s ≤ i) : h_wl n i s = s := by
  cases n with
  | zero => rfl
  | succ n => unfold h_wl; rw [if_neg (Nat.not_lt_of_le h)]
theorem h_wl_end {i : Nat} {s : HS} (h : 32 ≤ i) : h_wl (32 - i) i s = s := by
  rw [show 32 - i = 0 by omega]; rfl
def h_mk0 (s : HS) : HS := uH_KS (fldN h_k0 s 32) 0
def h_mk1 (s : HS) : HS := fldN h_kb (fldN h_kr (h_mk0 s) 4) 32
def h_mark (s : HS) : HS := h_wl 32 0 (h_mk1 s)
def h_rm1 (p f : Nat) (s : HS) : HS := uH_FD s (2 * p + f) none
def h_remove (p : Nat) (s : HS) : HS := fldN (h_rm1 p) (uH_TK s p false) 2
def h_gob (s : HS) (p : Nat) : Bool := gH_TK s p && decide ((gH_ST s (p / 4)).val = 1) && !(gH_KP s p)
def h_co1 (p : Nat) (x : Nat × HS) : Nat × HS := if h_gob x.2 p = true then (x.1 + 1, h_remove p x.2) else x
def h_bab (s : HS) (v i : Nat) : Bool := gH_TK s (4 * v + i)
def h_bare (s : HS) (v : Nat) : Bool := !(anyN (h_bab s v) 4)
def h_co2 (v : Nat) (s : HS) : HS := if (gH_ST s v).val = 1 ∧ h_bare s v = true then uH_US (uH_ST s v ⟨0, by decide⟩) v false else s
def h_cog (s : HS) : Nat × HS := fldN h_co1 (0, h_mark s) 32
def h_gone (s : HS) : Nat := (h_cog s).1
def h_collect (s : HS) : HS := fldN h_co2 (h_cog s).2 8
def h_frb (s : HS) (p : Nat) : Bool := !(gH_TK s p) && decide ((gH_ST s (p / 4)).val = 1)
def h_free (s : HS) : Option (Fin 32) := toP (fstN (h_frb s) 32)
def h_emb (s : HS) (v : Nat) : Bool := decide ((gH_ST s v).val = 0)
def h_empty (s : HS) : Option (Fin 32) := match fstN (h_emb s) 8 with
  | none => none
  | some v => toP (some (4 * v))
def h_oc1 (v : Nat) (s : HS) : HS := if (gH_ST s v).val = 0 then uH_CT (uH_ST s v ⟨1, by decide⟩) v (nI 0) else s
def h_occupy (p : Nat) (s : HS) : HS := uH_TK (uH_US (h_oc1 (p / 4) s) (p / 4) true) p true
def h_tkp (s : HS) : Option (Fin 32) := match h_free s with
  | some k => some k
  | none => h_empty s
def h_tks (b : Bool) (s : HS) : HS := match h_free s with
  | some k => h_occupy k.val s
  | none => match h_empty s with
    | some k => h_occupy k.val (if b = true then h_room s else s)
    | none => s
theorem h_tks_1 {b : Bool} {s : HS} {k : Fin 32} (h : h_free s = some k) : h_tks b s = h_occupy k.val s := by
  unfold h_tks
  rw [h]
theorem h_tks_2 {b : Bool} {s : HS} {k : Fin 32} (h : h_free s = none) (h2 : h_empty s = some k) : h_tks b s = h_occupy k.val (if b = true then h_room s else s) := by
  unfold h_tks
  rw [h, h2]
theorem h_tks_3 {b : Bool} {s : HS} (h : h_free s = none) (h2 : h_empty s = none) : h_tks b s = s := by
  unfold h_tks
  rw [h, h2]
theorem h_tkp_1 {s : HS} {k : Fin 32} (h : h_free s = some k) : h_tkp s = some k := by
  unfold h_tkp
  rw [h]
theorem h_tkp_2 {s : HS} (h : h_free s = none) : h_tkp s = h_empty s := by
  unfold h_tkp
  rw [h]
def h_spp (x : Option (Fin 32)) : Int32 := match x with
  | none => -1
  | some k => nI (k.val / 4)
def h_tt0 (s : HS) : HS := h_collect (h_bringAll s)
def h_tts (s : HS) : HS := h_beyond (h_spp (h_tkp (h_tt0 s))) (h_tks false (h_tt0 s))
def h_ttp (s : HS) : Option (Fin 32) := h_tkp (h_tt0 s)
def KI (s : HS) : Prop := gH_KS s = cntN (gH_KP s) 32
theorem cntN_up {f : Nat → Bool} {k : Nat} (h : f k = false) : ∀ {n : Nat}, cntN (va_up f k true) n = cntN f n + (if k < n then 1 else 0)
  | 0 => rfl
  | n + 1 => by
    show cntN (va_up f k true) n + (if va_up f k true n = true then 1 else 0) = cntN f n + (if f n = true then 1 else 0) + (if k < n + 1 then 1 else 0)
    rw [cntN_up h]
    by_cases q : n = k
    · have e : va_up f k true n = true := by rw [q]; exact if_pos rfl
      have e2 : f n = false := by rw [q]; exact h
      rw [e, e2, if_neg (show ¬ k < n by omega), if_pos (show k < n + 1 by omega)]; simp
    · rw [show va_up f k true n = f n from if_neg q]
      by_cases z : k < n
      · rw [if_pos z, if_pos (show k < n + 1 by omega)]; omega
      · rw [if_neg z, if_neg (show ¬ k < n + 1 by omega)]; omega
theorem cntN_lt {f : Nat → Bool} {k : Nat} (h : f k = false) : ∀ {n : Nat}, k < n → cntN f n < n
  | 0, hk => absurd hk (Nat.not_lt_zero k)
  | n + 1, hk => by
    show cntN f n + (if f n = true then 1 else 0) < n + 1
    have := cntN_le f n
    rcases Nat.lt_or_ge k n with q | q
    · have := cntN_lt h q
      split <;> omega
    · have e : k = n := by omega
      subst e
      rw [h]; simp; omega
theorem KI_lt {s : HS} (h : KI s) {k : Nat} (hk : k < 32) (h2 : gH_KP s k = false) : gH_KS s < 32 := by
  rw [h]
  exact cntN_lt h2 hk
theorem KI_keep {s : HS} (x : Option (Fin 32)) (h : KI s) : KI (h_keep x s) := by
  unfold h_keep
  cases x with
  | none => exact h
  | some k =>
    dsimp only
    by_cases q : gH_KP s k.val = true
    · rw [if_pos q]; exact h
    · rw [if_neg q]
      split
      · have q2 : gH_KP s k.val = false := by cases z : gH_KP s k.val with
          | false => rfl
          | true => exact absurd z q
        show gH_KS s + 1 = cntN (va_up (gH_KP s) k.val true) 32
        rw [cntN_up q2, if_pos k.isLt, h]
      · exact h
theorem k0_at (s : HS) : ∀ n j, gH_KP (fldN h_k0 s n) j = if j < n then false else gH_KP s j
  | 0, j => by rw [if_neg (Nat.not_lt_zero j)]; rfl
  | n + 1, j => by
    show va_up (gH_KP (fldN h_k0 s n)) n false j = _
    unfold va_up
    by_cases q : j = n
    · rw [if_pos q, if_pos (show j < n + 1 by omega)]
    · rw [if_neg q, k0_at s n j]
      by_cases q2 : j < n
      · rw [if_pos q2, if_pos (show j < n + 1 by omega)]
      · rw [if_neg q2, if_neg (show ¬ j < n + 1 by omega)]
theorem cntN_0 {f : Nat → Bool} : ∀ {n : Nat}, (∀ j, j < n → f j = false) → cntN f n = 0
  | 0, _ => rfl
  | n + 1, h => by
    show cntN f n + (if f n = true then 1 else 0) = 0
    rw [cntN_0 (fun j hj => h j (by omega)), h n (by omega)]; rfl
theorem k0_cnt (s : HS) (N : Nat) : cntN (gH_KP (fldN h_k0 s N)) N = 0 := cntN_0 (fun j hj => by rw [k0_at s N j, if_pos hj])
theorem KI_of (X : HS) (h : cntN (gH_KP X) 32 = 0) : KI (uH_KS X 0) := h.symm
theorem KI_0 (s : HS) : KI (h_mk0 s) := KI_of (fldN h_k0 s 32) (k0_cnt s 32)
theorem KI_kr {s : HS} (r : Nat) (h : KI s) : KI (h_kr r s) := KI_keep _ h
theorem KI_kb {s : HS} (p : Nat) (h : KI s) : KI (h_kb p s) := by
  unfold h_kb
  split
  · exact KI_keep _ h
  · exact h
theorem KI_wk {s : HS} (i f : Nat) (h : KI s) : KI (h_wk i f s) := KI_keep _ h
theorem KI_le {s : HS} (h : KI s) : gH_KS s ≤ 32 := by rw [h]; exact cntN_le _ 32
/-- the budget stays -/
theorem fldN_keep {α β : Type} {F : Nat → α → α} (G : α → β) (h : ∀ i s, G (F i s) = G s) (s : α) : ∀ n, G (fldN F s n) = G s
  | 0 => rfl
  | n + 1 => by
    show G (F n (fldN F s n)) = G s
    rw [h, fldN_keep G h s n]
theorem bu_bk1 (v i : Nat) (s : HS) : gH_BU (h_bk1 v i s) = gH_BU s := by unfold h_bk1; split <;> rfl
theorem bu_bk2 (v i : Nat) (s : HS) : gH_BU (h_bk2 v i s) = gH_BU s := by unfold h_bk2; split <;> rfl
theorem bu_cinc (v i : Nat) (s : HS) : gH_BU (h_cinc v i s) = gH_BU s := by unfold h_cinc; split <;> rfl
theorem bu_putOut (v : Nat) (s : HS) : gH_BU (h_putOut v s) = gH_BU s := by
  show gH_BU (fldN (h_cinc v) (h_bkall v s) 8) = gH_BU s
  rw [fldN_keep gH_BU (bu_cinc v)]
  unfold h_bkall
  rw [fldN_keep gH_BU (bu_bk2 v), fldN_keep gH_BU (bu_bk1 v)]
theorem bu_cs1 (sp : Int32) (s : HS) : gH_BU (h_cs1 sp s) = gH_BU s := by
  unfold h_cs1
  show gH_BU (if nI (gH_HA s).val = sp then s else uH_US s (gH_HA s).val false) = gH_BU s
  split <;> rfl
theorem bu_chs (sp : Int32) : ∀ (n : Nat) (s : HS), gH_BU (h_chs sp n s) = gH_BU s
  | 0, _ => rfl
  | n + 1, s => by
    unfold h_chs
    split
    · rw [bu_chs sp n, bu_cs1]
    · rfl
theorem bu_by1 (sp : Int32) (i : Nat) (s : HS) : gH_BU (h_by1 sp i s) = gH_BU s := by
  unfold h_by1
  rw [bu_putOut]
  show gH_BU (h_chs sp 16 s) = gH_BU s
  exact bu_chs sp 16 s
theorem h_pg_of {q : Int32} (h : h_pg q = true) : ∃ j : Nat, j < 8 ∧ q = nI j := by
  unfold h_pg at h
  rcases pk_ix q (n := 8) (by decide) with h1 | h1 | h1
  · simp [h1] at h
  · simp [h1] at h
  · exact h1
def h_page (s : HS) (q : Int32) : Int32 := if h_pg q = true then (if (gH_ST s q.toNatClampNeg).val = 0 then nI 0 else if (gH_ST s q.toNatClampNeg).val = 2 then nI 3 else if gH_US s q.toNatClampNeg = true then nI 2 else nI 1) else -1
def h_count (s : HS) (q : Int32) : Int32 := if h_pg q = true then gH_CT s q.toNatClampNeg else -1
def h_pl1 (s : HS) (v k n : Nat) : Nat := (n + (if gH_TK s (4 * v + k) = true then 1 * 2 ^ k else 0)) + (if gH_BM s (4 * v + k) = true then 16 * 2 ^ k else 0)
def h_places (s : HS) (q : Int32) : Int32 := if h_pg q = true then nI (fldN (h_pl1 s q.toNatClampNeg) 0 4) else -1
def h_objects (s : HS) : Nat := cntN (gH_TK s) 32
end
section
/-! the world of class M: written by wip/whole/world.py -/
abbrev MS : Type := (Nat → Bool) × (Nat → Int32) × (Nat → Option (Fin 32)) × (Nat → Bool) × (Nat → Bool) × (Nat → Fin 3) × (Nat → Bool) × (Nat → Option (Fin 32)) × (Fin 9) × (Fin 8) × Int32 × Int32
def gM_TH (s : MS) : Nat → Bool := s.1
def uM_TH (s : MS) (k : Nat) (v : Bool) : MS := (va_up s.1 k v, s.2)
def gM_VA (s : MS) : Nat → Int32 := s.2.1
def uM_VA (s : MS) (k : Nat) (v : Int32) : MS := (s.1, va_up s.2.1 k v, s.2.2)
def gM_FD (s : MS) : Nat → Option (Fin 32) := s.2.2.1
def uM_FD (s : MS) (k : Nat) (v : Option (Fin 32)) : MS := (s.1, s.2.1, va_up s.2.2.1 k v, s.2.2.2)
def gM_MK (s : MS) : Nat → Bool := s.2.2.2.1
def uM_MK (s : MS) (k : Nat) (v : Bool) : MS := (s.1, s.2.1, s.2.2.1, va_up s.2.2.2.1 k v, s.2.2.2.2)
def gM_KP (s : MS) : Nat → Bool := s.2.2.2.2.1
def uM_KP (s : MS) (k : Nat) (v : Bool) : MS := (s.1, s.2.1, s.2.2.1, s.2.2.2.1, va_up s.2.2.2.2.1 k v, s.2.2.2.2.2)
def gM_ST (s : MS) : Nat → Fin 3 := s.2.2.2.2.2.1
def uM_ST (s : MS) (k : Nat) (v : Fin 3) : MS := (s.1, s.2.1, s.2.2.1, s.2.2.2.1, s.2.2.2.2.1, va_up s.2.2.2.2.2.1 k v, s.2.2.2.2.2.2)
def gM_US (s : MS) : Nat → Bool := s.2.2.2.2.2.2.1
def uM_US (s : MS) (k : Nat) (v : Bool) : MS := (s.1, s.2.1, s.2.2.1, s.2.2.2.1, s.2.2.2.2.1, s.2.2.2.2.2.1, va_up s.2.2.2.2.2.2.1 k v, s.2.2.2.2.2.2.2)
def gM_RG (s : MS) : Nat → Option (Fin 32) := s.2.2.2.2.2.2.2.1
def uM_RG (s : MS) (k : Nat) (v : Option (Fin 32)) : MS := (s.1, s.2.1, s.2.2.1, s.2.2.2.1, s.2.2.2.2.1, s.2.2.2.2.2.1, s.2.2.2.2.2.2.1, va_up s.2.2.2.2.2.2.2.1 k v, s.2.2.2.2.2.2.2.2)
def gM_BU (s : MS) : Fin 9 := s.2.2.2.2.2.2.2.2.1
def uM_BU (s : MS) (v : Fin 9) : MS := (s.1, s.2.1, s.2.2.1, s.2.2.2.1, s.2.2.2.2.1, s.2.2.2.2.2.1, s.2.2.2.2.2.2.1, s.2.2.2.2.2.2.2.1, v, s.2.2.2.2.2.2.2.2.2)
def gM_HA (s : MS) : Fin 8 := s.2.2.2.2.2.2.2.2.2.1
def uM_HA (s : MS) (v : Fin 8) : MS := (s.1, s.2.1, s.2.2.1, s.2.2.2.1, s.2.2.2.2.1, s.2.2.2.2.2.1, s.2.2.2.2.2.2.1, s.2.2.2.2.2.2.2.1, s.2.2.2.2.2.2.2.2.1, v, s.2.2.2.2.2.2.2.2.2.2)
def gM_FA (s : MS) : Int32 := s.2.2.2.2.2.2.2.2.2.2.1
def uM_FA (s : MS) (v : Int32) : MS := (s.1, s.2.1, s.2.2.1, s.2.2.2.1, s.2.2.2.2.1, s.2.2.2.2.2.1, s.2.2.2.2.2.2.1, s.2.2.2.2.2.2.2.1, s.2.2.2.2.2.2.2.2.1, s.2.2.2.2.2.2.2.2.2.1, v, s.2.2.2.2.2.2.2.2.2.2.2)
def gM_TR (s : MS) : Int32 := s.2.2.2.2.2.2.2.2.2.2.2
def uM_TR (s : MS) (v : Int32) : MS := (s.1, s.2.1, s.2.2.1, s.2.2.2.1, s.2.2.2.2.1, s.2.2.2.2.2.1, s.2.2.2.2.2.2.1, s.2.2.2.2.2.2.2.1, s.2.2.2.2.2.2.2.2.1, s.2.2.2.2.2.2.2.2.2.1, s.2.2.2.2.2.2.2.2.2.2.1, v)
def wldM (g : GG) (a : Nat → Nat) (s : MS) : va_W := [(a 0, .inr (1, [.ref (a 1), .ref (a 2), .ref (a 3), .ref (a 4), .ref (a 5), .ref (a 6), .ref (a 7), .ref (a 8), .int (nI (gM_BU s).val), .int (nI (gM_HA s).val), .int (gM_FA s), .int (gM_TR s)])), (a 1, .inl (g.2.1, 32, .inl (fun j => bI (gM_TH s j)))), (a 2, .inl (g.2.2.1, 32, .inl (fun j => gM_VA s j))), (a 3, .inl (g.2.2.1, 64, .inl (fun j => oI (gM_FD s j)))), (a 4, .inl (g.2.1, 32, .inl (fun j => bI (gM_MK s j)))), (a 5, .inl (g.2.1, 32, .inl (fun j => bI (gM_KP s j)))), (a 6, .inl (g.2.2.1, 8, .inl (fun j => nI (gM_ST s j).val))), (a 7, .inl (g.2.1, 8, .inl (fun j => bI (gM_US s j)))), (a 8, .inl (g.2.2.1, 4, .inl (fun j => oI (gM_RG s j))))]
def adM (a : Nat → Nat) : Nat → Prop := fun q => ∃ k, k < 9 ∧ q = a k
def apM (a : Nat → Nat) : Prop := ∀ i j, i < 9 → j < 9 → a i = a j → i = j
theorem wldM_at {g : GG} {a : Nat → Nat} {s : MS} {k : Nat} {q : Nat × va_E} (h : (wldM g a s)[k]? = some q) : k < 9 ∧ q.1 = a k := by
  have hk : k < 9 := (List.getElem?_eq_some_iff.mp h).1
  have h1 : ((wldM g a s).map (fun z => z.1))[k]? = some q.1 := by rw [List.getElem?_map, h]; rfl
  have h2 : (wldM g a s).map (fun z => z.1) = [a 0, a 1, a 2, a 3, a 4, a 5, a 6, a 7, a 8] := rfl
  rw [h2] at h1
  refine ⟨hk, ?_⟩
  rcases (show k = 0 ∨ k = 1 ∨ k = 2 ∨ k = 3 ∨ k = 4 ∨ k = 5 ∨ k = 6 ∨ k = 7 ∨ k = 8 by omega) with rfl | rfl | rfl | rfl | rfl | rfl | rfl | rfl | rfl <;> exact (Option.some.inj h1).symm
theorem wldM_D {g : GG} {a : Nat → Nat} (ha : apM a) : ∀ s, va_D (adM a) (wldM g a s) := fun s =>
  ⟨fun i j p q hp hq hpq => by
    obtain ⟨h1, h2⟩ := wldM_at hp
    obtain ⟨h3, h4⟩ := wldM_at hq
    exact ha i j h1 h3 (by rw [← h2, ← h4]; exact hpq), fun k q hq => by
    obtain ⟨h1, h2⟩ := wldM_at hq
    exact ⟨k, h1, h2⟩⟩
section WM
variable {p : Program} {l : Launch} {e : Env} {R : Room} {S : State} {m : MethodId} {args : Array Value} {below : List Frame} {meth : Method} {c : Code} {H : Heap} {locs : List Loc} {cells slots : Nat} {Q : State → Prop}
variable {cc : ByteArray} {pc : Nat} {ls : Array Slot} {rest : List Value} {g : GG} {a : Nat → Nat} {A : Nat → Prop} {s : MS} {nL : Nat} {ret : Option FieldType} {own : String}
theorem rM_TH (X : Cx RM g p S m args meth c cc nL ret) (Y : Yw g (wldM g a) A S H locs s) (hdg : decode cc pc = .ok (.getfield 7, 3)) (kk : W p l e R S m args below meth c H locs cells slots Q (F0 m (pc + 3) ls (.ref (a 1) :: rest))) : W p l e R S m args below meth c H locs cells slots Q (F0 m pc ls (.ref (a 0) :: rest)) := va_get (D := g.1) (ci := 1) (v := .ref (a 1)) (C := RM) (T := FM) (N := 12) X.1 X.2.1 X.2.2.2.2.2.1 inM X.2.2.2.2.1 X.2.2.2.2.2.2.1 Y.1 0 rfl rfl 0 (by decide) (X.2.2.2.2.2.1 _ fM_there) (fun _ h9 => h9) rfl hdg kk
theorem lM_TH (X : Cx own g p S m args meth c cc nL ret) (Y : Yw g (wldM g a) A S H locs s) {k : Nat} (hk : k < 32) (hdg : decode cc pc = .ok (.baload, 1)) (kk : W p l e R S m args below meth c H locs cells slots Q (F0 m (pc + 1) ls (.int (bI (gM_TH s k)) :: rest))) : W p l e R S m args below meth c H locs cells slots Q (F0 m pc ls (.int (nI k) :: .ref (a 1) :: rest)) := by
  refine va_zald (D := g.1) (cl := bw_cl) X.1 X.2.1 X.2.2.2.2.2.2.1 Y.1 1 0 (cA := g.2.1) (n := 32) (f := fun j => bI (gM_TH s j)) rfl rfl (vp_in_nI hk (by omega)) hdg ?_
  rw [nI_clamp (by omega)]
  exact kk
theorem sM_TH (X : Cx own g p S m args meth c cc nL ret) (Y : Yw g (wldM g a) A S H locs s) {k : Nat} {x : Int32} (v : Bool) (hv : x = bI (v)) (hk : k < 32) (hdg : decode cc pc = .ok (.bastore, 1)) (kk : ∀ (H : Heap) (locs : List Loc), Yw g (wldM g a) A S H locs (uM_TH s k v) → W p l e R S m args below meth c H locs cells slots Q (F0 m (pc + 1) ls rest)) : W p l e R S m args below meth c H locs cells slots Q (F0 m pc ls (.int x :: .int (nI k) :: .ref (a 1) :: rest)) := by
  rw [hv]
  refine va_zast (D := g.1) (cl := bw_cl) X.1 X.2.1 X.2.2.2.2.2.2.1 Y.1 Y.2.1 Y.2.2 1 0 (cA := g.2.1) (n := 32) (f := fun j => bI (gM_TH s j)) rfl rfl (vp_in_nI hk (by omega)) hdg (fun H1 locs1 hP hD hS => ?_)
  have e1 : upd (fun j => bI (gM_TH s j)) (nI k).toNatClampNeg (vp_nar .boolean (bI v)) = fun j => bI (va_up (gM_TH s) k v j) := by
    rw [nI_clamp (by omega), bI_vn]
    exact up_c bI (gM_TH s) k v
  rw [e1] at hP hD
  exact kk H1 locs1 ⟨hP, hD, hS⟩
theorem rM_VA (X : Cx RM g p S m args meth c cc nL ret) (Y : Yw g (wldM g a) A S H locs s) (hdg : decode cc pc = .ok (.getfield 13, 3)) (kk : W p l e R S m args below meth c H locs cells slots Q (F0 m (pc + 3) ls (.ref (a 2) :: rest))) : W p l e R S m args below meth c H locs cells slots Q (F0 m pc ls (.ref (a 0) :: rest)) := va_get (D := g.1) (ci := 1) (v := .ref (a 2)) (C := RM) (T := FM) (N := 12) X.1 X.2.1 X.2.2.2.2.2.1 inM X.2.2.2.2.1 X.2.2.2.2.2.2.1 Y.1 0 rfl rfl 1 (by decide) (X.2.2.2.2.2.1 _ fM_values) (fun _ h9 => h9) rfl hdg kk
theorem lM_VA (X : Cx own g p S m args meth c cc nL ret) (Y : Yw g (wldM g a) A S H locs s) {k : Nat} (hk : k < 32) (hdg : decode cc pc = .ok (.iaload, 1)) (kk : W p l e R S m args below meth c H locs cells slots Q (F0 m (pc + 1) ls (.int (gM_VA s k) :: rest))) : W p l e R S m args below meth c H locs cells slots Q (F0 m pc ls (.int (nI k) :: .ref (a 2) :: rest)) := by
  refine va_iald (D := g.1) (cl := bw_cl) X.1 X.2.1 X.2.2.2.2.2.2.1 Y.1 2 1 (cA := g.2.2.1) (n := 32) (f := fun j => gM_VA s j) rfl rfl (vp_in_nI hk (by omega)) hdg ?_
  rw [nI_clamp (by omega)]
  exact kk
theorem sM_VA (X : Cx own g p S m args meth c cc nL ret) (Y : Yw g (wldM g a) A S H locs s) {k : Nat} {x : Int32} (v : Int32) (hv : x = v) (hk : k < 32) (hdg : decode cc pc = .ok (.iastore, 1)) (kk : ∀ (H : Heap) (locs : List Loc), Yw g (wldM g a) A S H locs (uM_VA s k v) → W p l e R S m args below meth c H locs cells slots Q (F0 m (pc + 1) ls rest)) : W p l e R S m args below meth c H locs cells slots Q (F0 m pc ls (.int x :: .int (nI k) :: .ref (a 2) :: rest)) := by
  rw [hv]
  refine va_iast (D := g.1) (cl := bw_cl) X.1 X.2.1 X.2.2.2.2.2.2.1 Y.1 Y.2.1 Y.2.2 2 1 (cA := g.2.2.1) (n := 32) (f := fun j => gM_VA s j) rfl rfl (vp_in_nI hk (by omega)) hdg (fun H1 locs1 hP hD hS => ?_)
  have e1 : upd (fun j => gM_VA s j) (nI k).toNatClampNeg (v) = fun j => va_up (gM_VA s) k v j := by
    rw [nI_clamp (by omega)]
    exact up_c (fun z => z) (gM_VA s) k v
  rw [e1] at hP hD
  exact kk H1 locs1 ⟨hP, hD, hS⟩
theorem rM_FD (X : Cx RM g p S m args meth c cc nL ret) (Y : Yw g (wldM g a) A S H locs s) (hdg : decode cc pc = .ok (.getfield 17, 3)) (kk : W p l e R S m args below meth c H locs cells slots Q (F0 m (pc + 3) ls (.ref (a 3) :: rest))) : W p l e R S m args below meth c H locs cells slots Q (F0 m pc ls (.ref (a 0) :: rest)) := va_get (D := g.1) (ci := 1) (v := .ref (a 3)) (C := RM) (T := FM) (N := 12) X.1 X.2.1 X.2.2.2.2.2.1 inM X.2.2.2.2.1 X.2.2.2.2.2.2.1 Y.1 0 rfl rfl 2 (by decide) (X.2.2.2.2.2.1 _ fM_fields) (fun _ h9 => h9) rfl hdg kk
theorem lM_FD (X : Cx own g p S m args meth c cc nL ret) (Y : Yw g (wldM g a) A S H locs s) {k : Nat} (hk : k < 64) (hdg : decode cc pc = .ok (.iaload, 1)) (kk : W p l e R S m args below meth c H locs cells slots Q (F0 m (pc + 1) ls (.int (oI (gM_FD s k)) :: rest))) : W p l e R S m args below meth c H locs cells slots Q (F0 m pc ls (.int (nI k) :: .ref (a 3) :: rest)) := by
  refine va_iald (D := g.1) (cl := bw_cl) X.1 X.2.1 X.2.2.2.2.2.2.1 Y.1 3 1 (cA := g.2.2.1) (n := 64) (f := fun j => oI (gM_FD s j)) rfl rfl (vp_in_nI hk (by omega)) hdg ?_
  rw [nI_clamp (by omega)]
  exact kk
theorem sM_FD (X : Cx own g p S m args meth c cc nL ret) (Y : Yw g (wldM g a) A S H locs s) {k : Nat} {x : Int32} (v : Option (Fin 32)) (hv : x = oI (v)) (hk : k < 64) (hdg : decode cc pc = .ok (.iastore, 1)) (kk : ∀ (H : Heap) (locs : List Loc), Yw g (wldM g a) A S H locs (uM_FD s k v) → W p l e R S m args below meth c H locs cells slots Q (F0 m (pc + 1) ls rest)) : W p l e R S m args below meth c H locs cells slots Q (F0 m pc ls (.int x :: .int (nI k) :: .ref (a 3) :: rest)) := by
  rw [hv]
  refine va_iast (D := g.1) (cl := bw_cl) X.1 X.2.1 X.2.2.2.2.2.2.1 Y.1 Y.2.1 Y.2.2 3 1 (cA := g.2.2.1) (n := 64) (f := fun j => oI (gM_FD s j)) rfl rfl (vp_in_nI hk (by omega)) hdg (fun H1 locs1 hP hD hS => ?_)
  have e1 : upd (fun j => oI (gM_FD s j)) (nI k).toNatClampNeg (oI (v)) = fun j => oI (va_up (gM_FD s) k v j) := by
    rw [nI_clamp (by omega)]
    exact up_c oI (gM_FD s) k v
  rw [e1] at hP hD
  exact kk H1 locs1 ⟨hP, hD, hS⟩
theorem rM_MK (X : Cx RM g p S m args meth c cc nL ret) (Y : Yw g (wldM g a) A S H locs s) (hdg : decode cc pc = .ok (.getfield 20, 3)) (kk : W p l e R S m args below meth c H locs cells slots Q (F0 m (pc + 3) ls (.ref (a 4) :: rest))) : W p l e R S m args below meth c H locs cells slots Q (F0 m pc ls (.ref (a 0) :: rest)) := va_get (D := g.1) (ci := 1) (v := .ref (a 4)) (C := RM) (T := FM) (N := 12) X.1 X.2.1 X.2.2.2.2.2.1 inM X.2.2.2.2.1 X.2.2.2.2.2.2.1 Y.1 0 rfl rfl 3 (by decide) (X.2.2.2.2.2.1 _ fM_marked) (fun _ h9 => h9) rfl hdg kk
theorem lM_MK (X : Cx own g p S m args meth c cc nL ret) (Y : Yw g (wldM g a) A S H locs s) {k : Nat} (hk : k < 32) (hdg : decode cc pc = .ok (.baload, 1)) (kk : W p l e R S m args below meth c H locs cells slots Q (F0 m (pc + 1) ls (.int (bI (gM_MK s k)) :: rest))) : W p l e R S m args below meth c H locs cells slots Q (F0 m pc ls (.int (nI k) :: .ref (a 4) :: rest)) := by
  refine va_zald (D := g.1) (cl := bw_cl) X.1 X.2.1 X.2.2.2.2.2.2.1 Y.1 4 0 (cA := g.2.1) (n := 32) (f := fun j => bI (gM_MK s j)) rfl rfl (vp_in_nI hk (by omega)) hdg ?_
  rw [nI_clamp (by omega)]
  exact kk
theorem sM_MK (X : Cx own g p S m args meth c cc nL ret) (Y : Yw g (wldM g a) A S H locs s) {k : Nat} {x : Int32} (v : Bool) (hv : x = bI (v)) (hk : k < 32) (hdg : decode cc pc = .ok (.bastore, 1)) (kk : ∀ (H : Heap) (locs : List Loc), Yw g (wldM g a) A S H locs (uM_MK s k v) → W p l e R S m args below meth c H locs cells slots Q (F0 m (pc + 1) ls rest)) : W p l e R S m args below meth c H locs cells slots Q (F0 m pc ls (.int x :: .int (nI k) :: .ref (a 4) :: rest)) := by
  rw [hv]
  refine va_zast (D := g.1) (cl := bw_cl) X.1 X.2.1 X.2.2.2.2.2.2.1 Y.1 Y.2.1 Y.2.2 4 0 (cA := g.2.1) (n := 32) (f := fun j => bI (gM_MK s j)) rfl rfl (vp_in_nI hk (by omega)) hdg (fun H1 locs1 hP hD hS => ?_)
  have e1 : upd (fun j => bI (gM_MK s j)) (nI k).toNatClampNeg (vp_nar .boolean (bI v)) = fun j => bI (va_up (gM_MK s) k v j) := by
    rw [nI_clamp (by omega), bI_vn]
    exact up_c bI (gM_MK s) k v
  rw [e1] at hP hD
  exact kk H1 locs1 ⟨hP, hD, hS⟩
theorem rM_KP (X : Cx RM g p S m args meth c cc nL ret) (Y : Yw g (wldM g a) A S H locs s) (hdg : decode cc pc = .ok (.getfield 23, 3)) (kk : W p l e R S m args below meth c H locs cells slots Q (F0 m (pc + 3) ls (.ref (a 5) :: rest))) : W p l e R S m args below meth c H locs cells slots Q (F0 m pc ls (.ref (a 0) :: rest)) := va_get (D := g.1) (ci := 1) (v := .ref (a 5)) (C := RM) (T := FM) (N := 12) X.1 X.2.1 X.2.2.2.2.2.1 inM X.2.2.2.2.1 X.2.2.2.2.2.2.1 Y.1 0 rfl rfl 4 (by decide) (X.2.2.2.2.2.1 _ fM_kept) (fun _ h9 => h9) rfl hdg kk
theorem lM_KP (X : Cx own g p S m args meth c cc nL ret) (Y : Yw g (wldM g a) A S H locs s) {k : Nat} (hk : k < 32) (hdg : decode cc pc = .ok (.baload, 1)) (kk : W p l e R S m args below meth c H locs cells slots Q (F0 m (pc + 1) ls (.int (bI (gM_KP s k)) :: rest))) : W p l e R S m args below meth c H locs cells slots Q (F0 m pc ls (.int (nI k) :: .ref (a 5) :: rest)) := by
  refine va_zald (D := g.1) (cl := bw_cl) X.1 X.2.1 X.2.2.2.2.2.2.1 Y.1 5 0 (cA := g.2.1) (n := 32) (f := fun j => bI (gM_KP s j)) rfl rfl (vp_in_nI hk (by omega)) hdg ?_
  rw [nI_clamp (by omega)]
  exact kk
theorem sM_KP (X : Cx own g p S m args meth c cc nL ret) (Y : Yw g (wldM g a) A S H locs s) {k : Nat} {x : Int32} (v : Bool) (hv : x = bI (v)) (hk : k < 32) (hdg : decode cc pc = .ok (.bastore, 1)) (kk : ∀ (H : Heap) (locs : List Loc), Yw g (wldM g a) A S H locs (uM_KP s k v) → W p l e R S m args below meth c H locs cells slots Q (F0 m (pc + 1) ls rest)) : W p l e R S m args below meth c H locs cells slots Q (F0 m pc ls (.int x :: .int (nI k) :: .ref (a 5) :: rest)) := by
  rw [hv]
  refine va_zast (D := g.1) (cl := bw_cl) X.1 X.2.1 X.2.2.2.2.2.2.1 Y.1 Y.2.1 Y.2.2 5 0 (cA := g.2.1) (n := 32) (f := fun j => bI (gM_KP s j)) rfl rfl (vp_in_nI hk (by omega)) hdg (fun H1 locs1 hP hD hS => ?_)
  have e1 : upd (fun j => bI (gM_KP s j)) (nI k).toNatClampNeg (vp_nar .boolean (bI v)) = fun j => bI (va_up (gM_KP s) k v j) := by
    rw [nI_clamp (by omega), bI_vn]
    exact up_c bI (gM_KP s) k v
  rw [e1] at hP hD
  exact kk H1 locs1 ⟨hP, hD, hS⟩
theorem rM_ST (X : Cx RM g p S m args meth c cc nL ret) (Y : Yw g (wldM g a) A S H locs s) (hdg : decode cc pc = .ok (.getfield 26, 3)) (kk : W p l e R S m args below meth c H locs cells slots Q (F0 m (pc + 3) ls (.ref (a 6) :: rest))) : W p l e R S m args below meth c H locs cells slots Q (F0 m pc ls (.ref (a 0) :: rest)) := va_get (D := g.1) (ci := 1) (v := .ref (a 6)) (C := RM) (T := FM) (N := 12) X.1 X.2.1 X.2.2.2.2.2.1 inM X.2.2.2.2.1 X.2.2.2.2.2.2.1 Y.1 0 rfl rfl 5 (by decide) (X.2.2.2.2.2.1 _ fM_state) (fun _ h9 => h9) rfl hdg kk
theorem lM_ST (X : Cx own g p S m args meth c cc nL ret) (Y : Yw g (wldM g a) A S H locs s) {k : Nat} (hk : k < 8) (hdg : decode cc pc = .ok (.iaload, 1)) (kk : W p l e R S m args below meth c H locs cells slots Q (F0 m (pc + 1) ls (.int (nI (gM_ST s k).val) :: rest))) : W p l e R S m args below meth c H locs cells slots Q (F0 m pc ls (.int (nI k) :: .ref (a 6) :: rest)) := by
  refine va_iald (D := g.1) (cl := bw_cl) X.1 X.2.1 X.2.2.2.2.2.2.1 Y.1 6 1 (cA := g.2.2.1) (n := 8) (f := fun j => nI (gM_ST s j).val) rfl rfl (vp_in_nI hk (by omega)) hdg ?_
  rw [nI_clamp (by omega)]
  exact kk
theorem sM_ST (X : Cx own g p S m args meth c cc nL ret) (Y : Yw g (wldM g a) A S H locs s) {k : Nat} {x : Int32} (v : Fin 3) (hv : x = nI (v).val) (hk : k < 8) (hdg : decode cc pc = .ok (.iastore, 1)) (kk : ∀ (H : Heap) (locs : List Loc), Yw g (wldM g a) A S H locs (uM_ST s k v) → W p l e R S m args below meth c H locs cells slots Q (F0 m (pc + 1) ls rest)) : W p l e R S m args below meth c H locs cells slots Q (F0 m pc ls (.int x :: .int (nI k) :: .ref (a 6) :: rest)) := by
  rw [hv]
  refine va_iast (D := g.1) (cl := bw_cl) X.1 X.2.1 X.2.2.2.2.2.2.1 Y.1 Y.2.1 Y.2.2 6 1 (cA := g.2.2.1) (n := 8) (f := fun j => nI (gM_ST s j).val) rfl rfl (vp_in_nI hk (by omega)) hdg (fun H1 locs1 hP hD hS => ?_)
  have e1 : upd (fun j => nI (gM_ST s j).val) (nI k).toNatClampNeg (nI (v).val) = fun j => nI (va_up (gM_ST s) k v j).val := by
    rw [nI_clamp (by omega)]
    exact up_c (fun z : Fin 3 => nI z.val) (gM_ST s) k v
  rw [e1] at hP hD
  exact kk H1 locs1 ⟨hP, hD, hS⟩
theorem rM_US (X : Cx RM g p S m args meth c cc nL ret) (Y : Yw g (wldM g a) A S H locs s) (hdg : decode cc pc = .ok (.getfield 29, 3)) (kk : W p l e R S m args below meth c H locs cells slots Q (F0 m (pc + 3) ls (.ref (a 7) :: rest))) : W p l e R S m args below meth c H locs cells slots Q (F0 m pc ls (.ref (a 0) :: rest)) := va_get (D := g.1) (ci := 1) (v := .ref (a 7)) (C := RM) (T := FM) (N := 12) X.1 X.2.1 X.2.2.2.2.2.1 inM X.2.2.2.2.1 X.2.2.2.2.2.2.1 Y.1 0 rfl rfl 6 (by decide) (X.2.2.2.2.2.1 _ fM_used) (fun _ h9 => h9) rfl hdg kk
theorem lM_US (X : Cx own g p S m args meth c cc nL ret) (Y : Yw g (wldM g a) A S H locs s) {k : Nat} (hk : k < 8) (hdg : decode cc pc = .ok (.baload, 1)) (kk : W p l e R S m args below meth c H locs cells slots Q (F0 m (pc + 1) ls (.int (bI (gM_US s k)) :: rest))) : W p l e R S m args below meth c H locs cells slots Q (F0 m pc ls (.int (nI k) :: .ref (a 7) :: rest)) := by
  refine va_zald (D := g.1) (cl := bw_cl) X.1 X.2.1 X.2.2.2.2.2.2.1 Y.1 7 0 (cA := g.2.1) (n := 8) (f := fun j => bI (gM_US s j)) rfl rfl (vp_in_nI hk (by omega)) hdg ?_
  rw [nI_clamp (by omega)]
  exact kk
theorem sM_US (X : Cx own g p S m args meth c cc nL ret) (Y : Yw g (wldM g a) A S H locs s) {k : Nat} {x : Int32} (v : Bool) (hv : x = bI (v)) (hk : k < 8) (hdg : decode cc pc = .ok (.bastore, 1)) (kk : ∀ (H : Heap) (locs : List Loc), Yw g (wldM g a) A S H locs (uM_US s k v) → W p l e R S m args below meth c H locs cells slots Q (F0 m (pc + 1) ls rest)) : W p l e R S m args below meth c H locs cells slots Q (F0 m pc ls (.int x :: .int (nI k) :: .ref (a 7) :: rest)) := by
  rw [hv]
  refine va_zast (D := g.1) (cl := bw_cl) X.1 X.2.1 X.2.2.2.2.2.2.1 Y.1 Y.2.1 Y.2.2 7 0 (cA := g.2.1) (n := 8) (f := fun j => bI (gM_US s j)) rfl rfl (vp_in_nI hk (by omega)) hdg (fun H1 locs1 hP hD hS => ?_)
  have e1 : upd (fun j => bI (gM_US s j)) (nI k).toNatClampNeg (vp_nar .boolean (bI v)) = fun j => bI (va_up (gM_US s) k v j) := by
    rw [nI_clamp (by omega), bI_vn]
    exact up_c bI (gM_US s) k v
  rw [e1] at hP hD
  exact kk H1 locs1 ⟨hP, hD, hS⟩
theorem rM_RG (X : Cx RM g p S m args meth c cc nL ret) (Y : Yw g (wldM g a) A S H locs s) (hdg : decode cc pc = .ok (.getfield 32, 3)) (kk : W p l e R S m args below meth c H locs cells slots Q (F0 m (pc + 3) ls (.ref (a 8) :: rest))) : W p l e R S m args below meth c H locs cells slots Q (F0 m pc ls (.ref (a 0) :: rest)) := va_get (D := g.1) (ci := 1) (v := .ref (a 8)) (C := RM) (T := FM) (N := 12) X.1 X.2.1 X.2.2.2.2.2.1 inM X.2.2.2.2.1 X.2.2.2.2.2.2.1 Y.1 0 rfl rfl 7 (by decide) (X.2.2.2.2.2.1 _ fM_registers) (fun _ h9 => h9) rfl hdg kk
theorem lM_RG (X : Cx own g p S m args meth c cc nL ret) (Y : Yw g (wldM g a) A S H locs s) {k : Nat} (hk : k < 4) (hdg : decode cc pc = .ok (.iaload, 1)) (kk : W p l e R S m args below meth c H locs cells slots Q (F0 m (pc + 1) ls (.int (oI (gM_RG s k)) :: rest))) : W p l e R S m args below meth c H locs cells slots Q (F0 m pc ls (.int (nI k) :: .ref (a 8) :: rest)) := by
  refine va_iald (D := g.1) (cl := bw_cl) X.1 X.2.1 X.2.2.2.2.2.2.1 Y.1 8 1 (cA := g.2.2.1) (n := 4) (f := fun j => oI (gM_RG s j)) rfl rfl (vp_in_nI hk (by omega)) hdg ?_
  rw [nI_clamp (by omega)]
  exact kk
theorem sM_RG (X : Cx own g p S m args meth c cc nL ret) (Y : Yw g (wldM g a) A S H locs s) {k : Nat} {x : Int32} (v : Option (Fin 32)) (hv : x = oI (v)) (hk : k < 4) (hdg : decode cc pc = .ok (.iastore, 1)) (kk : ∀ (H : Heap) (locs : List Loc), Yw g (wldM g a) A S H locs (uM_RG s k v) → W p l e R S m args below meth c H locs cells slots Q (F0 m (pc + 1) ls rest)) : W p l e R S m args below meth c H locs cells slots Q (F0 m pc ls (.int x :: .int (nI k) :: .ref (a 8) :: rest)) := by
  rw [hv]
  refine va_iast (D := g.1) (cl := bw_cl) X.1 X.2.1 X.2.2.2.2.2.2.1 Y.1 Y.2.1 Y.2.2 8 1 (cA := g.2.2.1) (n := 4) (f := fun j => oI (gM_RG s j)) rfl rfl (vp_in_nI hk (by omega)) hdg (fun H1 locs1 hP hD hS => ?_)
  have e1 : upd (fun j => oI (gM_RG s j)) (nI k).toNatClampNeg (oI (v)) = fun j => oI (va_up (gM_RG s) k v j) := by
    rw [nI_clamp (by omega)]
    exact up_c oI (gM_RG s) k v
  rw [e1] at hP hD
  exact kk H1 locs1 ⟨hP, hD, hS⟩
theorem rM_BU (X : Cx RM g p S m args meth c cc nL ret) (Y : Yw g (wldM g a) A S H locs s) (hdg : decode cc pc = .ok (.getfield 35, 3)) (kk : W p l e R S m args below meth c H locs cells slots Q (F0 m (pc + 3) ls (.int (nI (gM_BU s).val) :: rest))) : W p l e R S m args below meth c H locs cells slots Q (F0 m pc ls (.ref (a 0) :: rest)) := va_get (D := g.1) (ci := 1) (v := .int (nI (gM_BU s).val)) (C := RM) (T := FM) (N := 12) X.1 X.2.1 X.2.2.2.2.2.1 inM X.2.2.2.2.1 X.2.2.2.2.2.2.1 Y.1 0 rfl rfl 8 (by decide) (X.2.2.2.2.2.1 _ fM_budget) (fun _ h9 => h9) rfl hdg kk
theorem pM_BU (X : Cx RM g p S m args meth c cc nL ret) (Y : Yw g (wldM g a) A S H locs s) {x : Int32} (v : Fin 9) (hv : x = nI (v).val) (hdg : decode cc pc = .ok (.putfield 35, 3)) (kk : ∀ (H : Heap) (locs : List Loc), Yw g (wldM g a) A S H locs (uM_BU s v) → W p l e R S m args below meth c H locs cells slots Q (F0 m (pc + 3) ls rest)) : W p l e R S m args below meth c H locs cells slots Q (F0 m pc ls (.int x :: .ref (a 0) :: rest)) := by
  rw [hv]
  exact va_put (D := g.1) (ci := 1) (v := .int (nI (v).val)) (ty := .int) (C := RM) (T := FM) (N := 12) X.1 X.2.1 X.2.2.2.2.2.1 inM tM tM_ok nM X.2.2.2.2.1 X.2.2.2.2.2.2.1 Y.1 Y.2.1 Y.2.2 0 rfl rfl 8 (by decide) (X.2.2.2.2.2.1 _ fM_budget) (fun _ h9 => h9) rfl (by decide +kernel) rfl rfl (Nat.le_of_ble_eq_true rfl) hdg (fun H1 locs1 hP hD hS => kk H1 locs1 ⟨hP, hD, hS⟩)
theorem rM_HA (X : Cx RM g p S m args meth c cc nL ret) (Y : Yw g (wldM g a) A S H locs s) (hdg : decode cc pc = .ok (.getfield 46, 3)) (kk : W p l e R S m args below meth c H locs cells slots Q (F0 m (pc + 3) ls (.int (nI (gM_HA s).val) :: rest))) : W p l e R S m args below meth c H locs cells slots Q (F0 m pc ls (.ref (a 0) :: rest)) := va_get (D := g.1) (ci := 1) (v := .int (nI (gM_HA s).val)) (C := RM) (T := FM) (N := 12) X.1 X.2.1 X.2.2.2.2.2.1 inM X.2.2.2.2.1 X.2.2.2.2.2.2.1 Y.1 0 rfl rfl 9 (by decide) (X.2.2.2.2.2.1 _ fM_hand) (fun _ h9 => h9) rfl hdg kk
theorem pM_HA (X : Cx RM g p S m args meth c cc nL ret) (Y : Yw g (wldM g a) A S H locs s) {x : Int32} (v : Fin 8) (hv : x = nI (v).val) (hdg : decode cc pc = .ok (.putfield 46, 3)) (kk : ∀ (H : Heap) (locs : List Loc), Yw g (wldM g a) A S H locs (uM_HA s v) → W p l e R S m args below meth c H locs cells slots Q (F0 m (pc + 3) ls rest)) : W p l e R S m args below meth c H locs cells slots Q (F0 m pc ls (.int x :: .ref (a 0) :: rest)) := by
  rw [hv]
  exact va_put (D := g.1) (ci := 1) (v := .int (nI (v).val)) (ty := .int) (C := RM) (T := FM) (N := 12) X.1 X.2.1 X.2.2.2.2.2.1 inM tM tM_ok nM X.2.2.2.2.1 X.2.2.2.2.2.2.1 Y.1 Y.2.1 Y.2.2 0 rfl rfl 9 (by decide) (X.2.2.2.2.2.1 _ fM_hand) (fun _ h9 => h9) rfl (by decide +kernel) rfl rfl (Nat.le_of_ble_eq_true rfl) hdg (fun H1 locs1 hP hD hS => kk H1 locs1 ⟨hP, hD, hS⟩)
theorem rM_FA (X : Cx RM g p S m args meth c cc nL ret) (Y : Yw g (wldM g a) A S H locs s) (hdg : decode cc pc = .ok (.getfield 70, 3)) (kk : W p l e R S m args below meth c H locs cells slots Q (F0 m (pc + 3) ls (.int (gM_FA s) :: rest))) : W p l e R S m args below meth c H locs cells slots Q (F0 m pc ls (.ref (a 0) :: rest)) := va_get (D := g.1) (ci := 1) (v := .int (gM_FA s)) (C := RM) (T := FM) (N := 12) X.1 X.2.1 X.2.2.2.2.2.1 inM X.2.2.2.2.1 X.2.2.2.2.2.2.1 Y.1 0 rfl rfl 10 (by decide) (X.2.2.2.2.2.1 _ fM_faults) (fun _ h9 => h9) rfl hdg kk
theorem pM_FA (X : Cx RM g p S m args meth c cc nL ret) (Y : Yw g (wldM g a) A S H locs s) {x : Int32} (v : Int32) (hv : x = v) (hdg : decode cc pc = .ok (.putfield 70, 3)) (kk : ∀ (H : Heap) (locs : List Loc), Yw g (wldM g a) A S H locs (uM_FA s v) → W p l e R S m args below meth c H locs cells slots Q (F0 m (pc + 3) ls rest)) : W p l e R S m args below meth c H locs cells slots Q (F0 m pc ls (.int x :: .ref (a 0) :: rest)) := by
  rw [hv]
  exact va_put (D := g.1) (ci := 1) (v := .int (v)) (ty := .int) (C := RM) (T := FM) (N := 12) X.1 X.2.1 X.2.2.2.2.2.1 inM tM tM_ok nM X.2.2.2.2.1 X.2.2.2.2.2.2.1 Y.1 Y.2.1 Y.2.2 0 rfl rfl 10 (by decide) (X.2.2.2.2.2.1 _ fM_faults) (fun _ h9 => h9) rfl (by decide +kernel) rfl rfl (Nat.le_of_ble_eq_true rfl) hdg (fun H1 locs1 hP hD hS => kk H1 locs1 ⟨hP, hD, hS⟩)
theorem rM_TR (X : Cx RM g p S m args meth c cc nL ret) (Y : Yw g (wldM g a) A S H locs s) (hdg : decode cc pc = .ok (.getfield 39, 3)) (kk : W p l e R S m args below meth c H locs cells slots Q (F0 m (pc + 3) ls (.int (gM_TR s) :: rest))) : W p l e R S m args below meth c H locs cells slots Q (F0 m pc ls (.ref (a 0) :: rest)) := va_get (D := g.1) (ci := 1) (v := .int (gM_TR s)) (C := RM) (T := FM) (N := 12) X.1 X.2.1 X.2.2.2.2.2.1 inM X.2.2.2.2.1 X.2.2.2.2.2.2.1 Y.1 0 rfl rfl 11 (by decide) (X.2.2.2.2.2.1 _ fM_thrown) (fun _ h9 => h9) rfl hdg kk
theorem pM_TR (X : Cx RM g p S m args meth c cc nL ret) (Y : Yw g (wldM g a) A S H locs s) {x : Int32} (v : Int32) (hv : x = v) (hdg : decode cc pc = .ok (.putfield 39, 3)) (kk : ∀ (H : Heap) (locs : List Loc), Yw g (wldM g a) A S H locs (uM_TR s v) → W p l e R S m args below meth c H locs cells slots Q (F0 m (pc + 3) ls rest)) : W p l e R S m args below meth c H locs cells slots Q (F0 m pc ls (.int x :: .ref (a 0) :: rest)) := by
  rw [hv]
  exact va_put (D := g.1) (ci := 1) (v := .int (v)) (ty := .int) (C := RM) (T := FM) (N := 12) X.1 X.2.1 X.2.2.2.2.2.1 inM tM tM_ok nM X.2.2.2.2.1 X.2.2.2.2.2.2.1 Y.1 Y.2.1 Y.2.2 0 rfl rfl 11 (by decide) (X.2.2.2.2.2.1 _ fM_thrown) (fun _ h9 => h9) rfl (by decide +kernel) rfl rfl (Nat.le_of_ble_eq_true rfl) hdg (fun H1 locs1 hP hD hS => kk H1 locs1 ⟨hP, hD, hS⟩)
end WM
end
section
/-! what the methods of the reference do, in the words of its state -/
def m_reg (q : Int32) : Bool := !(decide (q < 0)) && !(decide (nI 4 ≤ q))
def m_rfb (s : MS) (v w i j : Nat) : Bool := gM_TH s (4 * v + i) && (match gM_FD s (2 * (4 * v + i) + j) with
  | none => false
  | some k => decide (k.val / 4 = w))
def m_rf1 (s : MS) (v w i : Nat) : Bool := anyN (m_rfb s v w i) 2
def m_refers (s : MS) (v w : Nat) : Bool := anyN (m_rf1 s v w) 4 && !(decide (v = w))
def m_ctb (s : MS) (w v : Nat) : Bool := decide ((gM_ST s v).val = 2) && m_refers s v w
def m_counted (s : MS) (w : Nat) : Nat := cntN (m_ctb s w) 8
theorem m_counted_le (s : MS) (w : Nat) : m_counted s w ≤ 8 := cntN_le _ 8
def m_inb (s : MS) (p : Nat) : Bool := decide ((gM_ST s p).val = 1)
def m_in (s : MS) : Nat := cntN (m_inb s) 8
theorem m_in_le (s : MS) : m_in s ≤ 8 := cntN_le _ 8
def m_un1 (w i : Nat) (s : MS) : MS := uM_MK s (4 * w + i) false
def m_unmark (w : Nat) (s : MS) : MS := fldN (m_un1 w) s 4
def m_po2 (v i j : Nat) (s : MS) : MS := if gM_TH s (4 * v + i) = true then (match gM_FD s (2 * (4 * v + i) + j) with
  | none => s
  | some k => uM_MK s k.val true) else s
def m_po1 (v i : Nat) (s : MS) : MS := fldN (m_po2 v i) (uM_MK s (4 * v + i) (gM_TH s (4 * v + i))) 2
def m_putOut (v : Nat) (s : MS) : MS := uM_US (uM_ST (fldN (m_po1 v) s 4) v ⟨2, by decide⟩) v false
def m_mv (s : MS) : MS := uM_HA s ⟨((gM_HA s).val + 1) % 8, Nat.mod_lt _ (by decide)⟩
def m_pass (s : MS) (sp : Int32) : Bool := decide (¬ (gM_ST s (gM_HA s).val).val = 1) || decide (nI (gM_HA s).val = sp) || gM_US s (gM_HA s).val
def m_cs1 (sp : Int32) (s : MS) : MS := m_mv (if (gM_ST s (gM_HA s).val).val = 1 then (if nI (gM_HA s).val = sp then s else uM_US s (gM_HA s).val false) else s)
def m_chs (sp : Int32) : Nat → MS → MS
  | 0, s => s
  | n + 1, s => if m_pass s sp = true then m_chs sp n (m_cs1 sp s) else s
/-- the hand stops within two rounds -/
def m_stops (s : MS) (sp : Int32) : Prop := m_pass (m_chs sp 16 s) sp = false
theorem m_lt16 {sp : Int32} {s σ : MS} {i : Nat} (hst : m_stops s sp) (e : m_chs sp (16 - i) σ = m_chs sp 16 s) (hp : m_pass σ sp = true) (hi : i ≤ 16) : i < 16 := by
  rcases Nat.lt_or_ge i 16 with q | q
  · exact q
  · exfalso
    rw [show 16 - i = 0 by omega] at e
    have e2 : σ = m_chs sp 16 s := e
    unfold m_stops at hst
    rw [← e2, hp] at hst
    cases hst
def m_cst (s : MS) (sp : Int32) : MS := m_chs sp 16 s
theorem m_cst_of {sp : Int32} {s σ : MS} {i : Nat} (e : m_chs sp (16 - i) σ = m_chs sp 16 s) (hp : m_pass σ sp = false) : σ = m_cst s sp := by
  show σ = m_chs sp 16 s
  rw [← e]
  cases 16 - i with
  | zero => rfl
  | succ n => simp [m_chs, hp]
def m_chp (s : MS) (sp : Int32) : Nat := (gM_HA (m_cst s sp)).val
def m_cho (s : MS) (sp : Int32) : MS := m_mv (m_cst s sp)
theorem m_chp_lt (s : MS) (sp : Int32) : m_chp s sp < 8 := (gM_HA (m_cst s sp)).isLt
def m_one (sp : Int32) (s : MS) : MS := m_putOut (m_chp s sp) (m_cho s sp)
def m_bi1 (v w : Nat) (s : MS) : MS := if (w = v ∨ m_refers s v w = true) ∧ (gM_ST s w).val = 1 ∧ m_counted s w = 0 then m_unmark w s else s
def m_bi0 (s : MS) : MS := if m_in s = (gM_BU s).val then m_one (-1) s else s
def m_bringIn (v : Nat) (s : MS) : MS := fldN (m_bi1 v) (uM_US (uM_ST (m_bi0 s) v ⟨1, by decide⟩) v false) 8
def m_fi (s : MS) : MS := uM_FA s (gM_FA s + nI 1)
def m_touch (v : Nat) (s : MS) : MS := uM_US (if (gM_ST s v).val = 2 then m_bringIn v (m_fi s) else s) v true
def m_by1 (sp : Int32) (_ : Nat) (s : MS) : MS := m_one sp s
def m_byn (s : MS) : Nat := m_in s - (gM_BU s).val
def m_shrink (sp : Int32) (s : MS) : MS := fldN (m_by1 sp) s (m_byn s)
/-- what shrink needs: each time the hand stops, and one page goes -/
def m_shr (sp : Int32) (s : MS) : Prop := ∀ i, i ≤ m_byn s → m_in (fldN (m_by1 sp) s i) = m_in s - i ∧ (gM_BU (fldN (m_by1 sp) s i)).val = (gM_BU s).val ∧ (i < m_byn s → m_stops (fldN (m_by1 sp) s i) sp)
def m_h1 (s : MS) (p r : Nat) : Bool := decide (oI (gM_RG s r) = nI p)
def m_h2 (s : MS) (p f : Nat) : Bool := gM_KP s (f / 2) && decide (oI (gM_FD s f) = nI p)
def m_held (s : MS) (p : Nat) : Bool := (gM_MK s p || anyN (m_h1 s p) 4) || anyN (m_h2 s p) 64
def m_k0 (i : Nat) (s : MS) : MS := uM_KP s i false
def m_swb (s : MS) (p : Nat) : Bool := !(gM_KP s p) && gM_TH s p && decide ((gM_ST s (p / 4)).val = 1) && m_held s p
def m_sw (p : Nat) (x : Bool × MS) : Bool × MS := if m_swb x.2 p = true then (true, uM_KP x.2 p true) else x
def m_sweep (s : MS) : Bool × MS := fldN m_sw (false, s) 32
def m_fx : Nat → MS → MS
  | 0, s => s
  | n + 1, s => if (m_sweep s).1 = true then m_fx n (m_sweep s).2 else (m_sweep s).2
def m_kc (s : MS) : Nat := cntN (gM_KP s) 32
theorem m_sw_cnt (s : MS) : ∀ n, n ≤ 32 → m_kc s + (if (fldN m_sw (false, s) n).1 = true then 1 else 0) ≤ m_kc (fldN m_sw (false, s) n).2
  | 0, _ => Nat.le_refl _
  | n + 1, hn => by
    have ih := m_sw_cnt s n (by omega)
    show m_kc s + (if (m_sw n (fldN m_sw (false, s) n)).1 = true then 1 else 0) ≤ m_kc (m_sw n (fldN m_sw (false, s) n)).2
    generalize fldN m_sw (false, s) n = x at ih ⊢
    unfold m_sw
    by_cases q : m_swb x.2 n = true
    · rw [if_pos q]
      have q2 : gM_KP x.2 n = false := by
        unfold m_swb at q
        cases z : gM_KP x.2 n with
        | false => rfl
        | true => rw [z] at q; simp at q
      have e : m_kc (uM_KP x.2 n true) = m_kc x.2 + 1 := by
        show cntN (va_up (gM_KP x.2) n true) 32 = cntN (gM_KP x.2) 32 + 1
        rw [cntN_up q2, if_pos (by omega)]
      show m_kc s + (if true = true then 1 else 0) ≤ m_kc (uM_KP x.2 n true)
      rw [e, if_pos rfl]
      have h0 : 0 ≤ (if x.1 = true then 1 else 0) := Nat.zero_le _
      omega
    · rw [if_neg q]; exact ih
theorem m_kc_le (s : MS) : m_kc s ≤ 32 := cntN_le _ 32
def m_wi0 (s : MS) : MS := m_fx 33 (fldN m_k0 s 32)
theorem m_fx_t {s σ τ : MS} {b : Bool} {i : Nat} (ht : i ≤ m_kc σ ∧ m_fx (33 - i) σ = m_wi0 s) (e : fldN m_sw (false, σ) 32 = (b, τ)) : b = true → i + 1 ≤ m_kc τ ∧ m_fx (33 - (i + 1)) τ = m_wi0 s := by
  intro hb
  subst hb
  have h1 := m_sw_cnt σ 32 (Nat.le_refl _)
  rw [e] at h1
  have hk := m_kc_le σ
  have h2 : m_kc σ + 1 ≤ m_kc τ := by simpa using h1
  refine ⟨by omega, ?_⟩
  have e2 : m_sweep σ = (true, τ) := e
  rw [← ht.2, show 33 - i = (33 - (i + 1)) + 1 by omega]
  simp [m_fx, e2]
theorem m_fx_f {s σ τ : MS} {b : Bool} {i : Nat} (ht : i ≤ m_kc σ ∧ m_fx (33 - i) σ = m_wi0 s) (e : fldN m_sw (false, σ) 32 = (b, τ)) : b = false → τ = m_wi0 s := by
  intro hb
  subst hb
  have hk := m_kc_le σ
  have e2 : m_sweep σ = (false, τ) := e
  rw [← ht.2, show 33 - i = (32 - i) + 1 by omega]
  simp [m_fx, e2]
def m_gob (s : MS) (p : Nat) : Bool := gM_TH s p && decide ((gM_ST s (p / 4)).val = 1) && !(gM_KP s p)
def m_co1 (p : Nat) (x : Nat × MS) : Nat × MS := if m_gob x.2 p = true then (x.1 + 1, uM_MK (uM_TH x.2 p false) p false) else x
def m_cog (s : MS) : Nat × MS := fldN m_co1 (0, m_wi0 s) 32
def m_bab (s : MS) (v i : Nat) : Bool := gM_TH s (4 * v + i)
def m_co2 (v : Nat) (s : MS) : MS := if (gM_ST s v).val = 1 ∧ anyN (m_bab s v) 4 = false then uM_US (uM_ST s v ⟨0, by decide⟩) v false else s
def m_gone (s : MS) : Nat := (m_cog s).1
def m_within (s : MS) : MS := fldN m_co2 (m_cog s).2 8
def m_al1 (v : Nat) (s : MS) : MS := if (gM_ST s v).val = 2 then m_fi (uM_ST s v ⟨1, by decide⟩) else s
def m_al2 (p : Nat) (s : MS) : MS := uM_MK s p false
def m_all0 (s : MS) : MS := fldN m_al2 (fldN m_al1 s 8) 32
def m_all (s : MS) : MS := m_within (m_all0 s)
def m_frb (s : MS) (p : Nat) : Bool := !(gM_TH s p) && decide ((gM_ST s (p / 4)).val = 1)
def m_free (s : MS) : Option (Fin 32) := toP (fstN (m_frb s) 32)
def m_emb (s : MS) (v : Nat) : Bool := decide ((gM_ST s v).val = 0)
/-- the state behind find's loop: the empty page v is taken -/
def m_fd1 (b : Bool) (v : Nat) (s : MS) : MS := uM_ST (if b = true ∧ m_in s = (gM_BU s).val then m_one (-1) s else s) v ⟨1, by decide⟩
def m_fpe (s : MS) : Option (Fin 32) := match fstN (m_emb s) 8 with
  | none => none
  | some v => toP (some (4 * v))
def m_fp (s : MS) : Option (Fin 32) := match m_free s with
  | some k => some k
  | none => m_fpe s
def m_fs1 (b : Bool) (s : MS) : MS := match m_free s with
  | some _ => s
  | none => match fstN (m_emb s) 8 with
    | none => s
    | some v => m_fd1 b v s
def m_fs (b : Bool) (s : MS) : MS := match m_fp s with
  | none => m_fs1 b s
  | some k => uM_US (m_fs1 b s) (k.val / 4) true
theorem m_fp_1 {s : MS} {k : Fin 32} (h : m_free s = some k) : m_fp s = some k := by
  unfold m_fp
  rw [h]
theorem m_fp_2 {s : MS} (h : m_free s = none) : m_fp s = m_fpe s := by
  unfold m_fp
  rw [h]
theorem m_fpe_1 {s : MS} {v : Nat} (h : fstN (m_emb s) 8 = some v) : m_fpe s = toP (some (4 * v)) := by
  unfold m_fpe
  rw [h]
theorem m_fpe_2 {s : MS} (h : fstN (m_emb s) 8 = none) : m_fpe s = none := by
  unfold m_fpe
  rw [h]
theorem m_fs1_1 {b : Bool} {s : MS} {k : Fin 32} (h : m_free s = some k) : m_fs1 b s = s := by
  unfold m_fs1
  rw [h]
theorem m_fs1_2 {b : Bool} {s : MS} {v : Nat} (h : m_free s = none) (h2 : fstN (m_emb s) 8 = some v) : m_fs1 b s = m_fd1 b v s := by
  unfold m_fs1
  rw [h, h2]
theorem m_fs1_3 {b : Bool} {s : MS} (h : m_free s = none) (h2 : fstN (m_emb s) 8 = none) : m_fs1 b s = s := by
  unfold m_fs1
  rw [h, h2]
theorem m_fs_1 {b : Bool} {s : MS} {k : Fin 32} (h : m_fp s = some k) : m_fs b s = uM_US (m_fs1 b s) (k.val / 4) true := by
  unfold m_fs
  rw [h]
theorem m_fs_2 {b : Bool} {s : MS} (h : m_fp s = none) : m_fs b s = m_fs1 b s := by
  unfold m_fs
  rw [h]
theorem m_fd1_pos {b : Bool} {v : Nat} {s : MS} (h1 : b = true) (h2 : m_in s = (gM_BU s).val) : m_fd1 b v s = uM_ST (m_one (-1) s) v ⟨1, by decide⟩ := by
  unfold m_fd1
  rw [if_pos ⟨h1, h2⟩]
theorem m_fd1_neg {b : Bool} {v : Nat} {s : MS} (h : ¬ (b = true ∧ m_in s = (gM_BU s).val)) : m_fd1 b v s = uM_ST s v ⟨1, by decide⟩ := by
  unfold m_fd1
  rw [if_neg h]
def m_place (q : Nat) (v : Int32) (s : MS) : MS := uM_MK (uM_FD (uM_FD (uM_VA (uM_TH s q true) q v) (2 * q) none) (2 * q + 1) none) q false
theorem m_reg_of {q : Int32} (h : m_reg q = true) : ∃ j : Nat, j < 4 ∧ q = nI j := by
  unfold m_reg at h
  rcases pk_ix q (n := 4) (by decide) with h1 | h1 | h1
  · simp [h1] at h
  · simp [h1] at h
  · exact h1
def m_t0 (s : MS) : MS := uM_TR s (nI 0)
def m_mkA (s : MS) : MS := m_within (m_fs true s)
def m_mkB (s : MS) : MS := m_all (m_fs true (m_mkA s))
def m_put (r : Nat) (k : Fin 32) (s : MS) : MS := uM_RG s r (some k)
/-- make, when the register is one: what it answers, and the state -/
def m_mkv (s : MS) : Int32 := match m_fp s with
  | some k => nI k.val
  | none => match m_fp (m_mkA s) with
    | some k => nI k.val
    | none => match m_fp (m_mkB s) with
      | some k => nI k.val
      | none => nI 0
def m_mks (r : Nat) (v : Int32) (s : MS) : MS := match m_fp s with
  | some k => m_put r k (m_place k.val v (m_fs true s))
  | none => match m_fp (m_mkA s) with
    | some k => m_put r k (m_place k.val v (m_fs true (m_mkA s)))
    | none => match m_fp (m_mkB s) with
      | some k => m_put r k (m_shrink (nI (k.val / 4)) (m_place k.val v (m_fs false (m_mkB s))))
      | none => uM_TR (m_shrink (-1) (m_fs false (m_mkB s))) (nI 2)
/-- find's own need: the hand stops where a page must go -/
def m_fok (b : Bool) (s : MS) : Prop := b = true → m_in s = (gM_BU s).val → m_stops s (-1)
theorem m_fok_f (s : MS) : m_fok false s := fun h => by cases h
/-- what make needs -/
def m_mok (v : Int32) (s : MS) : Prop := m_fok true s ∧ (m_fp s = none → m_fok true (m_mkA s) ∧ (m_fp (m_mkA s) = none → (∀ k, m_fp (m_mkB s) = some k → m_shr (nI (k.val / 4)) (m_place k.val v (m_fs false (m_mkB s)))) ∧ (m_fp (m_mkB s) = none → m_shr (-1) (m_fs false (m_mkB s)))))
def m_tok (v : Nat) (s : MS) : Prop := (gM_ST s v).val = 2 → m_in s = (gM_BU s).val → m_stops (m_fi s) (-1)
theorem m_rg_un (w i : Nat) (s : MS) : gM_RG (m_un1 w i s) = gM_RG s := rfl
theorem m_rg_po2 (v i j : Nat) (s : MS) : gM_RG (m_po2 v i j s) = gM_RG s := by
  unfold m_po2
  split
  · split <;> rfl
  · rfl
theorem m_rg_po1 (v i : Nat) (s : MS) : gM_RG (m_po1 v i s) = gM_RG s := by
  unfold m_po1
  rw [fldN_keep gM_RG (m_rg_po2 v i)]; rfl
theorem m_rg_putOut (v : Nat) (s : MS) : gM_RG (m_putOut v s) = gM_RG s := by
  show gM_RG (fldN (m_po1 v) s 4) = gM_RG s
  rw [fldN_keep gM_RG (m_rg_po1 v)]
theorem m_rg_cs1 (sp : Int32) (s : MS) : gM_RG (m_cs1 sp s) = gM_RG s := by
  unfold m_cs1
  show gM_RG (if (gM_ST s (gM_HA s).val).val = 1 then (if nI (gM_HA s).val = sp then s else uM_US s (gM_HA s).val false) else s) = gM_RG s
  split
  · split <;> rfl
  · rfl
theorem m_rg_chs (sp : Int32) : ∀ (n : Nat) (s : MS), gM_RG (m_chs sp n s) = gM_RG s
  | 0, _ => rfl
  | n + 1, s => by
    unfold m_chs
    split
    · rw [m_rg_chs sp n, m_rg_cs1]
    · rfl
theorem m_rg_one (sp : Int32) (s : MS) : gM_RG (m_one sp s) = gM_RG s := by
  unfold m_one
  rw [m_rg_putOut]
  show gM_RG (m_chs sp 16 s) = gM_RG s
  exact m_rg_chs sp 16 s
theorem m_rg_bi1 (v w : Nat) (s : MS) : gM_RG (m_bi1 v w s) = gM_RG s := by
  unfold m_bi1
  split
  · unfold m_unmark
    rw [fldN_keep gM_RG (m_rg_un w)]
  · rfl
theorem m_rg_bringIn (v : Nat) (s : MS) : gM_RG (m_bringIn v s) = gM_RG s := by
  unfold m_bringIn
  rw [fldN_keep gM_RG (m_rg_bi1 v)]
  show gM_RG (m_bi0 s) = gM_RG s
  unfold m_bi0
  split
  · exact m_rg_one _ _
  · rfl
theorem m_rg_touch (v : Nat) (s : MS) : gM_RG (m_touch v s) = gM_RG s := by
  show gM_RG (if (gM_ST s v).val = 2 then m_bringIn v (m_fi s) else s) = gM_RG s
  split
  · rw [m_rg_bringIn]; rfl
  · rfl
def m_page (s : MS) (q : Int32) : Int32 := if h_pg q = true then (if (gM_ST s q.toNatClampNeg).val = 0 then nI 0 else if (gM_ST s q.toNatClampNeg).val = 2 then nI 3 else if gM_US s q.toNatClampNeg = true then nI 2 else nI 1) else -1
def m_count (s : MS) (q : Int32) : Int32 := if h_pg q = true then nI (m_counted s q.toNatClampNeg) else -1
def m_pl0 (s : MS) (v i n : Nat) : Nat := 2 * n + (if gM_TH s (4 * v + (3 - i)) = true then 1 else 0)
def m_pl1 (s : MS) (v k n : Nat) : Nat := if gM_TH s (4 * v + k) = true ∧ gM_MK s (4 * v + k) = true then n + 16 * 2 ^ k else n
def m_places (s : MS) (q : Int32) : Int32 := if h_pg q = true then nI (fldN (m_pl1 s q.toNatClampNeg) (fldN (m_pl0 s q.toNatClampNeg) 0 4) 4) else -1
def m_objects (s : MS) : Nat := cntN (gM_TH s) 32
/-- store, load, value, copy, drop, budget: refused by 1, by 2, or done -/
def m_fld (f : Int32) : Bool := !(decide (f < 0)) && !(decide (nI 1 < f))
theorem m_fld_of {q : Int32} (h : m_fld q = true) : ∃ j : Nat, j < 2 ∧ q = nI j := by
  unfold m_fld at h
  rcases pk_ix q (n := 2) (by decide) with h1 | h1 | h1
  · simp [h1] at h
  · exfalso
    have h2 : nI 1 < q := Int32.lt_of_lt_of_le (by decide) h1
    simp [h2] at h
  · exact h1
end
section
/-! written by wip/whole/specH.py -/
set_option maxHeartbeats 1000000 in
set_option maxRecDepth 100000 in
theorem tH_pageOf (l : Launch) (k : Nat) (hk : k < 2 ^ 31) : Cs l yH_pageOf kH_pageOf ({ frames := 0, cells := 0, slots := 0, locals := 0 }) [.int (nI (k))] (nI (k / 4)) := by
  refine Cs.of (own := RH) (cc := cH_pageOf) (nL := 1) rfl (by decide) rfl (Nat.le_of_ble_eq_true rfl) ?_
  intro p e S m args below meth c Q hx hb ret ls hl
  have hl : lv_has ls 1 [(0, .int (nI (k)))] := hl
  refine lv_iload_n hx hb dH_pageOf_0 rfl (lv_at hl 0 rfl) ?_
  refine lv_iconst (v := (nI (4))) hx hb dH_pageOf_1 (by decide) ?_
  refine bn_div hx hb dH_pageOf_2 (by omega) (by omega) (by omega) ?_
  exact ret _ _ _ (rfl) dH_pageOf_3
set_option maxHeartbeats 1000000 in
set_option maxRecDepth 100000 in
theorem tH_firstPlaceOf (l : Launch) (k : Nat) : Cs l yH_firstPlaceOf kH_firstPlaceOf ({ frames := 0, cells := 0, slots := 0, locals := 0 }) [.int (nI (k))] (nI (4 * k)) := by
  refine Cs.of (own := RH) (cc := cH_firstPlaceOf) (nL := 1) rfl (by decide) rfl (Nat.le_of_ble_eq_true rfl) ?_
  intro p e S m args below meth c Q hx hb ret ls hl
  have hl : lv_has ls 1 [(0, .int (nI (k)))] := hl
  refine lv_iconst (v := (nI (4))) hx hb dH_firstPlaceOf_0 (by decide) ?_
  refine lv_iload_n hx hb dH_firstPlaceOf_1 rfl (lv_at hl 0 rfl) ?_
  refine bn_mul hx hb dH_firstPlaceOf_2 ?_
  exact ret _ _ _ (rfl) dH_firstPlaceOf_3
set_option maxHeartbeats 1000000 in
set_option maxRecDepth 100000 in
theorem tH_isPage (l : Launch) (q : Int32) : Cs l yH_isPage kH_isPage ({ frames := 0, cells := 0, slots := 0, locals := 0 }) [.int (q)] (bI (h_pg q)) := by
  refine Cs.of (own := RH) (cc := cH_isPage) (nL := 1) (bI_nar _) (by decide) rfl (Nat.le_of_ble_eq_true rfl) ?_
  intro p e S m args below meth c Q hx hb ret ls hl
  have hl : lv_has ls 1 [(0, .int (q))] := hl
  refine lv_iload_n hx hb dH_isPage_0 rfl (lv_at hl 0 rfl) ?_
  refine lv_if_lt (tgt := 14) hx hb dH_isPage_1 (by decide) (fun h1 => ?_) (fun h1 => ?_)
  · skip
    refine lv_iconst (v := (nI (0))) hx hb dH_isPage_14 (by decide) ?_
    exact ret _ _ _ (by rw [show h_pg q = false by simp [h_pg, h1]]; decide) dH_isPage_15
  · skip
    refine lv_iload_n hx hb dH_isPage_4 rfl (lv_at hl 0 rfl) ?_
    refine lv_bipush (v := (nI (8))) hx hb dH_isPage_5 (by decide) ?_
    refine lv_icmp_ge (tgt := 14) hx hb dH_isPage_7 (by decide) (fun h7 => ?_) (fun h7 => ?_)
    · skip
      refine lv_iconst (v := (nI (0))) hx hb dH_isPage_14 (by decide) ?_
      exact ret _ _ _ (by rw [show h_pg q = false by simp [h_pg, h1, h7]]; decide) dH_isPage_15
    · skip
      refine lv_iconst (v := (nI (1))) hx hb dH_isPage_10 (by decide) ?_
      refine lv_goto (tgt := 15) hx hb dH_isPage_11 (by decide) ?_
      exact ret _ _ _ (by rw [show h_pg q = true by simp [h_pg, h1, h7]]; decide) dH_isPage_15
set_option maxHeartbeats 1000000 in
set_option maxRecDepth 100000 in
theorem tH_pagesIn (l : Launch) (g : GG) (a : Nat → Nat) (ha : apH a) (s : HS)  : Ci l g (wldH g a) (adH a) yH_pagesIn kH_pagesIn ({ frames := 0, cells := 0, slots := 0, locals := 0 }) [.ref (a 0)] s (nI (h_in s)) s := by
  have hD := wldH_D (g := g) ha
  refine Ci.of (own := RH) (cc := cH_pagesIn) (nL := 3) hD (by decide) rfl (Nat.le_of_ble_eq_true rfl) ?_
  intro p e S m args below meth c Q X ret H locs ls Y hl
  have hx := X.1
  have hb := X.2.1
  have hl : lv_has ls 3 [(0, .ref (a 0))] := hl
  refine lv_iconst (v := (nI (0))) hx hb dH_pagesIn_0 (by decide) ?_
  refine lv_istore_n (lv' := [(1, .int (nI (0))), (0, .ref (a 0))]) hx hb dH_pagesIn_1 rfl hl (by decide) rfl (fun ls hl => ?_)
  refine lv_iconst (v := (nI (0))) hx hb dH_pagesIn_2 (by decide) ?_
  refine lv_istore_n (lv' := [(2, .int (nI (0))), (1, .int (nI (0))), (0, .ref (a 0))]) hx hb dH_pagesIn_3 rfl hl (by decide) rfl (fun ls hl => ?_)
  have loop4 : ∀ (n4 i4 : Nat) (k4 : Nat), i4 ≤ 8 → 8 < i4 + n4 → (cntN (h_inb s) i4 = k4) → (k4 ≤ i4) → ∀ (H : Heap) (locs : List Loc) (ls : Array Slot), Yw g (wldH g a) (adH a) S H locs s → lv_has ls 3 [(0, .ref (a 0)), (1, .int (nI (k4))), (2, .int (nI (i4)))] → W p l e ({ frames := 0, cells := 0, slots := 0, locals := 0 }) S m args below meth c H locs 0 0 Q (F0 m 4 ls []) := by
    intro n4
    induction n4 with
    | zero =>
      intro i4 k4 b1 b2
      exact absurd b2 (by omega)
    | succ n4 ih4 =>
      intro i4 k4 hi4 hn4 ek4 hk4 H locs ls Y hl
      refine lv_iload_n hx hb dH_pagesIn_4 rfl (lv_at hl 2 rfl) ?_
      refine lv_bipush (v := (nI (8))) hx hb dH_pagesIn_5 (by decide) ?_
      refine bn_ge (tgt := 29) hx hb dH_pagesIn_7 (by decide) (by omega) (by omega) (fun h7 => ?_) (fun h7 => ?_)
      · skip
        obtain rfl : i4 = 8 := by omega
        subst ek4
        refine lv_iload_n hx hb dH_pagesIn_29 rfl (lv_at hl 1 rfl) ?_
        exact ret _ _ _ _ _ Y (rfl) dH_pagesIn_30
      · skip
        refine lv_aload_n hx hb dH_pagesIn_10 rfl (lv_at hl 0 rfl) ?_
        refine rH_ST X Y dH_pagesIn_11 ?_
        refine lv_iload_n hx hb dH_pagesIn_14 rfl (lv_at hl 2 rfl) ?_
        refine lH_ST X Y (k := i4) (by omega) dH_pagesIn_15 ?_
        have hq1 := (gH_ST s i4).isLt
        refine lv_iconst (v := (nI (1))) hx hb dH_pagesIn_16 (by decide) ?_
        refine bn_ne (tgt := 23) hx hb dH_pagesIn_17 (by decide) (by omega) (by omega) (fun h17 => ?_) (fun h17 => ?_)
        · skip
          refine lv_iinc (v := (nI (i4 + 1))) (lv' := [(2, .int (nI (i4 + 1))), (0, .ref (a 0)), (1, .int (nI (k4)))]) hx hb dH_pagesIn_23 hl (k := 2) rfl (nI_1 _) (by decide) rfl (fun ls hl => ?_)
          refine lv_goto (tgt := 4) hx hb dH_pagesIn_26 (by decide) ?_
          exact ih4 (i4 + 1) k4 (by omega) (by omega) (by show cntN (h_inb s) i4 + _ = _; rw [ek4]; simp [h_inb, h7, h17]) (by omega) _ _ _ Y (lv_sub hl [1, 2, 0] rfl)
        · skip
          refine lv_iinc (v := (nI (k4 + 1))) (lv' := [(1, .int (nI (k4 + 1))), (0, .ref (a 0)), (2, .int (nI (i4)))]) hx hb dH_pagesIn_20 hl (k := 1) rfl (nI_1 _) (by decide) rfl (fun ls hl => ?_)
          refine lv_iinc (v := (nI (i4 + 1))) (lv' := [(2, .int (nI (i4 + 1))), (1, .int (nI (k4 + 1))), (0, .ref (a 0))]) hx hb dH_pagesIn_23 hl (k := 2) rfl (nI_1 _) (by decide) rfl (fun ls hl => ?_)
          refine lv_goto (tgt := 4) hx hb dH_pagesIn_26 (by decide) ?_
          exact ih4 (i4 + 1) (k4 + 1) (by omega) (by omega) (by show cntN (h_inb s) i4 + _ = _; rw [ek4]; simp [h_inb, h7, h17]) (by omega) _ _ _ Y (lv_sub hl [2, 1, 0] rfl)
  exact loop4 (8 + 1) 0 0 (by omega) (by omega) (rfl) (Nat.le_refl 0) _ _ _ Y (lv_sub hl [2, 1, 0] rfl)
set_option maxHeartbeats 1000000 in
set_option maxRecDepth 100000 in
theorem tH_refersTo (l : Launch) (g : GG) (a : Nat → Nat) (ha : apH a) (s : HS) (v w : Nat) (hv : v < 8) (hw : w < 8) : Ci l g (wldH g a) (adH a) yH_refersTo kH_refersTo ({ frames := 1, cells := 0, slots := 0, locals := 20 }) [.ref (a 0), .int (nI (v)), .int (nI (w))] s (bI (h_refers s v w)) s := by
  have hD := wldH_D (g := g) ha
  refine Ci.ofZ (own := RH) (cc := cH_refersTo) (nL := 5) hD (by decide) rfl (Nat.le_of_ble_eq_true rfl) ?_
  intro p e S m args below meth c Q X ret H locs ls Y hl
  have hx := X.1
  have hb := X.2.1
  have hl : lv_has ls 5 [(0, .ref (a 0)), (1, .int (nI (v))), (2, .int (nI (w)))] := hl
  refine lv_iload_n hx hb dH_refersTo_0 rfl (lv_at hl 1 rfl) ?_
  refine lv_iload_n hx hb dH_refersTo_1 rfl (lv_at hl 2 rfl) ?_
  refine bn_ne (tgt := 7) hx hb dH_refersTo_2 (by decide) (by omega) (by omega) (fun h2 => ?_) (fun h2 => ?_)
  · skip
    refine lv_iconst (v := (nI (2))) hx hb dH_refersTo_7 (by decide) ?_
    refine lv_iload_n hx hb dH_refersTo_8 rfl (lv_at hl 1 rfl) ?_
    refine cl_s (na := 1) (rest := [.int (nI (2))]) X Y (tH_firstPlaceOf l v ) gH_H_firstPlaceOf (by decide +kernel) rfl ⟨rfl, rfl⟩ ⟨Nat.le_of_ble_eq_true rfl, Nat.le_of_ble_eq_true rfl⟩ ⟨Nat.zero_le _, Nat.zero_le _⟩ hl.1 rfl (Nat.le_of_ble_eq_true rfl) dH_refersTo_9 (fun H locs Y => ?_)
    refine bn_mul hx hb dH_refersTo_12 ?_
    refine lv_istore_n (lv' := [(3, .int (nI (2 * (4 * v)))), (0, .ref (a 0)), (1, .int (nI (v))), (2, .int (nI (w)))]) hx hb dH_refersTo_13 rfl hl (by decide) rfl (fun ls hl => ?_)
    refine lv_iload_n hx hb dH_refersTo_14 rfl (lv_at hl 0 rfl) ?_
    refine lv_istore (lv' := [(4, .int (nI (2 * (4 * v)))), (3, .int (nI (2 * (4 * v)))), (0, .ref (a 0)), (1, .int (nI (v))), (2, .int (nI (w)))]) hx hb dH_refersTo_15 hl (by decide) rfl (fun ls hl => ?_)
    have loop17 : ∀ (n17 i17 : Nat), i17 ≤ 8 → 8 < i17 + n17 → (∀ j, j < i17 → h_rfb s v w j = false) → ∀ (H : Heap) (locs : List Loc) (ls : Array Slot), Yw g (wldH g a) (adH a) S H locs s → lv_has ls 5 [(3, .int (nI (2 * (4 * v)))), (0, .ref (a 0)), (1, .int (nI (v))), (2, .int (nI (w))), (4, .int (nI (2 * (4 * v) + i17)))] → W p l e ({ frames := 1, cells := 0, slots := 0, locals := 20 }) S m args below meth c H locs 0 0 Q (F0 m 17 ls []) := by
      intro n17
      induction n17 with
      | zero =>
        intro i17 b1 b2
        exact absurd b2 (by omega)
      | succ n17 ih17 =>
        intro i17 hi17 hn17 hno H locs ls Y hl
        refine lv_iload hx hb dH_refersTo_17 (lv_at hl 4 rfl) ?_
        refine lv_iload_n hx hb dH_refersTo_19 rfl (lv_at hl 0 rfl) ?_
        refine lv_bipush (v := (nI (8))) hx hb dH_refersTo_20 (by decide) ?_
        refine bn_add hx hb dH_refersTo_22 ?_
        refine bn_ge (tgt := 59) hx hb dH_refersTo_23 (by decide) (by omega) (by omega) (fun h23 => ?_) (fun h23 => ?_)
        · skip
          refine lv_iconst (v := (nI (0))) hx hb dH_refersTo_59 (by decide) ?_
          exact ret _ _ _ _ _ Y (by rw [show h_refers s v w = false by (simp only [h_refers]; rw [anyN_f (n := 8) (fun j hj => hno j (by omega))]; simp)]; decide) dH_refersTo_60
        · skip
          refine lv_aload_n hx hb dH_refersTo_26 rfl (lv_at hl 1 rfl) ?_
          refine rH_FD X Y dH_refersTo_27 ?_
          refine lv_iload hx hb dH_refersTo_30 (lv_at hl 4 rfl) ?_
          refine lH_FD X Y (k := 2 * (4 * v) + i17) (by omega) dH_refersTo_32 ?_
          refine lv_iconst (v := (-1)) hx hb dH_refersTo_33 (by decide) ?_
          refine bo_eq (tgt := 53) hx hb dH_refersTo_34 (by decide) (fun h34 => ?_) (fun k2 h34 => ?_)
          · skip
            refine lv_iinc (v := (nI (2 * (4 * v) + i17 + 1))) (lv' := [(4, .int (nI (2 * (4 * v) + i17 + 1))), (3, .int (nI (2 * (4 * v)))), (0, .ref (a 0)), (1, .int (nI (v))), (2, .int (nI (w)))]) hx hb dH_refersTo_53 hl (k := 4) rfl (nI_1 _) (by decide) rfl (fun ls hl => ?_)
            refine lv_goto (tgt := 17) hx hb dH_refersTo_56 (by decide) ?_
            exact ih17 (i17 + 1) (by omega) (by omega) (lt_s hno (by simp [h_rfb, h2, h23, h34])) _ _ _ Y (lv_sub hl [1, 2, 3, 4, 0] rfl)
          · skip
            have hq3 := k2.isLt
            refine lv_aload_n hx hb dH_refersTo_37 rfl (lv_at hl 1 rfl) ?_
            refine rH_FD X Y dH_refersTo_38 ?_
            refine lv_iload hx hb dH_refersTo_41 (lv_at hl 4 rfl) ?_
            refine lH_FD X Y (k := 2 * (4 * v) + i17) (by omega) dH_refersTo_43 ?_
            refine bn_top (y := nI k2.val) (by rw [h34]; rfl) ?_
            refine cl_s (na := 1) (rest := []) X Y (tH_pageOf l k2.val (by omega)) gH_H_pageOf (by decide +kernel) rfl ⟨rfl, rfl⟩ ⟨Nat.le_of_ble_eq_true rfl, Nat.le_of_ble_eq_true rfl⟩ ⟨Nat.zero_le _, Nat.zero_le _⟩ hl.1 rfl (Nat.le_of_ble_eq_true rfl) dH_refersTo_44 (fun H locs Y => ?_)
            refine lv_iload_n hx hb dH_refersTo_47 rfl (lv_at hl 3 rfl) ?_
            refine bn_ne (tgt := 53) hx hb dH_refersTo_48 (by decide) (by omega) (by omega) (fun h48 => ?_) (fun h48 => ?_)
            · skip
              refine lv_iinc (v := (nI (2 * (4 * v) + i17 + 1))) (lv' := [(4, .int (nI (2 * (4 * v) + i17 + 1))), (3, .int (nI (2 * (4 * v)))), (0, .ref (a 0)), (1, .int (nI (v))), (2, .int (nI (w)))]) hx hb dH_refersTo_53 hl (k := 4) rfl (nI_1 _) (by decide) rfl (fun ls hl => ?_)
              refine lv_goto (tgt := 17) hx hb dH_refersTo_56 (by decide) ?_
              exact ih17 (i17 + 1) (by omega) (by omega) (lt_s hno (by simp [h_rfb, h2, h23, h34, h48])) _ _ _ Y (lv_sub hl [1, 2, 3, 4, 0] rfl)
            · skip
              refine lv_iconst (v := (nI (1))) hx hb dH_refersTo_51 (by decide) ?_
              exact ret _ _ _ _ _ Y (by rw [show h_refers s v w = true by (simp only [h_refers]; rw [anyN_t (i := i17) (by simp [h_rfb, h2, h23, h34, h48]) (by omega)]; simp [h2])]; decide) dH_refersTo_52
    exact loop17 (8 + 1) 0 (by omega) (by omega) (fun j hj => absurd hj (by omega)) _ _ _ Y (lv_sub hl [1, 2, 3, 4, 0] rfl)
  · skip
    refine lv_iconst (v := (nI (0))) hx hb dH_refersTo_5 (by decide) ?_
    exact ret _ _ _ _ _ Y (by rw [show h_refers s v w = false by simp [h_refers, h2]]; decide) dH_refersTo_6
set_option maxHeartbeats 1000000 in
set_option maxRecDepth 100000 in
theorem tH_moveHand (l : Launch) (g : GG) (a : Nat → Nat) (ha : apH a) (s : HS)  : Cv l g (wldH g a) (adH a) yH_moveHand kH_moveHand ({ frames := 0, cells := 0, slots := 0, locals := 0 }) [.ref (a 0)] s (h_mv s) := by
  have hD := wldH_D (g := g) ha
  refine Cv.of (own := RH) (cc := cH_moveHand) (nL := 1) hD (by decide) rfl (Nat.le_of_ble_eq_true rfl) ?_
  intro p e S m args below meth c Q X ret H locs ls Y hl
  have hx := X.1
  have hb := X.2.1
  have hl : lv_has ls 1 [(0, .ref (a 0))] := hl
  refine lv_aload_n hx hb dH_moveHand_0 rfl (lv_at hl 0 rfl) ?_
  refine lv_aload_n hx hb dH_moveHand_1 rfl (lv_at hl 0 rfl) ?_
  refine rH_HA X Y dH_moveHand_2 ?_
  have hq1 := (gH_HA s).isLt
  refine lv_iconst (v := (nI (1))) hx hb dH_moveHand_5 (by decide) ?_
  refine bn_add hx hb dH_moveHand_6 ?_
  refine lv_bipush (v := (nI (8))) hx hb dH_moveHand_7 (by decide) ?_
  refine bn_rem hx hb dH_moveHand_9 (by omega) (by omega) (by omega) ?_
  refine pH_HA X Y (⟨(((gH_HA s).val) + 1) % 8, by omega⟩) rfl dH_moveHand_10 (fun H locs Y => ?_)
  have E : uH_HA s (⟨(((gH_HA s).val) + 1) % 8, by omega⟩) = h_mv s := rfl
  rw [E] at Y
  exact ret _ _ _ _ Y dH_moveHand_13
set_option maxHeartbeats 1000000 in
set_option maxRecDepth 100000 in
theorem tH_passes (l : Launch) (g : GG) (a : Nat → Nat) (ha : apH a) (s : HS) (sp : Int32) : Ci l g (wldH g a) (adH a) yH_passes kH_passes ({ frames := 0, cells := 0, slots := 0, locals := 0 }) [.ref (a 0), .int (sp)] s (bI (h_passes s sp)) s := by
  have hD := wldH_D (g := g) ha
  refine Ci.ofZ (own := RH) (cc := cH_passes) (nL := 2) hD (by decide) rfl (Nat.le_of_ble_eq_true rfl) ?_
  intro p e S m args below meth c Q X ret H locs ls Y hl
  have hx := X.1
  have hb := X.2.1
  have hl : lv_has ls 2 [(0, .ref (a 0)), (1, .int (sp))] := hl
  refine lv_aload_n hx hb dH_passes_0 rfl (lv_at hl 0 rfl) ?_
  refine rH_ST X Y dH_passes_1 ?_
  refine lv_aload_n hx hb dH_passes_4 rfl (lv_at hl 0 rfl) ?_
  refine rH_HA X Y dH_passes_5 ?_
  have hq1 := (gH_HA s).isLt
  refine lH_ST X Y (k := (gH_HA s).val) (by omega) dH_passes_8 ?_
  have hq2 := (gH_ST s ((gH_HA s).val)).isLt
  refine lv_iconst (v := (nI (1))) hx hb dH_passes_9 (by decide) ?_
  refine bn_ne (tgt := 33) hx hb dH_passes_10 (by decide) (by omega) (by omega) (fun h10 => ?_) (fun h10 => ?_)
  · skip
    refine lv_iconst (v := (nI (1))) hx hb dH_passes_33 (by decide) ?_
    refine lv_goto (tgt := 38) hx hb dH_passes_34 (by decide) ?_
    exact ret _ _ _ _ _ Y (by rw [show h_passes s sp = true by simp [h_passes, h10]]; decide) dH_passes_38
  · skip
    refine lv_aload_n hx hb dH_passes_13 rfl (lv_at hl 0 rfl) ?_
    refine rH_HA X Y dH_passes_14 ?_
    have hq3 := (gH_HA s).isLt
    refine lv_iload_n hx hb dH_passes_17 rfl (lv_at hl 1 rfl) ?_
    refine lv_icmp_eq (tgt := 33) hx hb dH_passes_18 (by decide) (fun h18 => ?_) (fun h18 => ?_)
    · skip
      refine lv_iconst (v := (nI (1))) hx hb dH_passes_33 (by decide) ?_
      refine lv_goto (tgt := 38) hx hb dH_passes_34 (by decide) ?_
      exact ret _ _ _ _ _ Y (by rw [show h_passes s sp = true by simp [h_passes, h10, h18]]; decide) dH_passes_38
    · skip
      refine lv_aload_n hx hb dH_passes_21 rfl (lv_at hl 0 rfl) ?_
      refine rH_US X Y dH_passes_22 ?_
      refine lv_aload_n hx hb dH_passes_25 rfl (lv_at hl 0 rfl) ?_
      refine rH_HA X Y dH_passes_26 ?_
      have hq4 := (gH_HA s).isLt
      refine lH_US X Y (k := (gH_HA s).val) (by omega) dH_passes_29 ?_
      refine bb_eq (tgt := 37) hx hb dH_passes_30 (by decide) (fun h30 => ?_) (fun h30 => ?_)
      · skip
        refine lv_iconst (v := (nI (0))) hx hb dH_passes_37 (by decide) ?_
        exact ret _ _ _ _ _ Y (by rw [show h_passes s sp = false by simp [h_passes, h10, h18, h30]]; decide) dH_passes_38
      · skip
        refine lv_iconst (v := (nI (1))) hx hb dH_passes_33 (by decide) ?_
        refine lv_goto (tgt := 38) hx hb dH_passes_34 (by decide) ?_
        exact ret _ _ _ _ _ Y (by rw [show h_passes s sp = true by simp [h_passes, h10, h18, h30]]; decide) dH_passes_38
set_option maxHeartbeats 1000000 in
set_option maxRecDepth 100000 in
theorem tH_choose (l : Launch) (g : GG) (a : Nat → Nat) (ha : apH a) (s : HS) (sp : Int32) : Ci l g (wldH g a) (adH a) yH_choose kH_choose ({ frames := 1, cells := 0, slots := 0, locals := 21 }) [.ref (a 0), .int (sp)] s (nI (h_chp s sp)) (h_cho s sp) := by
  have hD := wldH_D (g := g) ha
  refine Ci.of (own := RH) (cc := cH_choose) (nL := 3) hD (by decide) rfl (Nat.le_of_ble_eq_true rfl) ?_
  intro p e S m args below meth c Q X ret H locs ls Y hl
  have hx := X.1
  have hb := X.2.1
  have hl : lv_has ls 3 [(0, .ref (a 0)), (1, .int (sp))] := hl
  refine lv_iconst (v := (nI (0))) hx hb dH_choose_0 (by decide) ?_
  refine lv_istore_n (lv' := [(2, .int (nI (0))), (0, .ref (a 0)), (1, .int (sp))]) hx hb dH_choose_1 rfl hl (by decide) rfl (fun ls hl => ?_)
  have loop2 : ∀ (n2 i2 : Nat) (σ2 : HS), i2 ≤ 16 → 16 < i2 + n2 → (h_chs sp (16 - i2) σ2 = h_chs sp 16 s) → ∀ (H : Heap) (locs : List Loc) (ls : Array Slot), Yw g (wldH g a) (adH a) S H locs σ2 → lv_has ls 3 [(0, .ref (a 0)), (1, .int (sp)), (2, .int (nI (i2)))] → W p l e ({ frames := 1, cells := 0, slots := 0, locals := 21 }) S m args below meth c H locs 0 0 Q (F0 m 2 ls []) := by
    intro n2
    induction n2 with
    | zero =>
      intro i2 σ2 b1 b2
      exact absurd b2 (by omega)
    | succ n2 ih2 =>
      intro i2 σ2 hi2 hn2 eσ2 H locs ls Y hl
      refine lv_iload_n hx hb dH_choose_2 rfl (lv_at hl 2 rfl) ?_
      refine lv_bipush (v := (nI (16))) hx hb dH_choose_3 (by decide) ?_
      refine bn_ge (tgt := 44) hx hb dH_choose_5 (by decide) (by omega) (by omega) (fun h5 => ?_) (fun h5 => ?_)
      · skip
        have E2 : σ2 = h_cst s sp := by first | (rw [show 16 - i2 = 0 by omega] at eσ2; exact eσ2) | (rw [show 16 - i2 = (15 - i2) + 1 by omega] at eσ2; rw [← show h_chs sp 16 s = h_cst s sp from rfl, ← eσ2]; simp [h_chs, h5])
        rw [E2] at Y
        refine lv_aload_n hx hb dH_choose_44 rfl (lv_at hl 0 rfl) ?_
        refine rH_HA X Y dH_choose_45 ?_
        have hq1 := (gH_HA (h_cst s sp)).isLt
        refine lv_istore_n (lv' := [(2, .int (nI ((gH_HA (h_cst s sp)).val))), (0, .ref (a 0)), (1, .int (sp))]) hx hb dH_choose_48 rfl hl (by decide) rfl (fun ls hl => ?_)
        refine lv_aload_n hx hb dH_choose_49 rfl (lv_at hl 1 rfl) ?_
        refine cl_vv (na := 0) (rest := []) X hD Y (tH_moveHand l g a ha (h_cst s sp)  ) gH_H_moveHand (by decide +kernel) rfl rfl rfl ⟨rfl, rfl⟩ ⟨Nat.le_of_ble_eq_true rfl, Nat.le_of_ble_eq_true rfl⟩ ⟨Nat.zero_le _, Nat.zero_le _⟩ hl.1 rfl (Nat.le_of_ble_eq_true rfl) dH_choose_50 (fun H locs Y => ?_)
        refine lv_iload_n hx hb dH_choose_53 rfl (lv_at hl 0 rfl) ?_
        have E : h_mv (h_cst s sp) = h_cho s sp := rfl
        rw [E] at Y
        exact ret _ _ _ _ _ Y (rfl) dH_choose_54
      · skip
        refine lv_aload_n hx hb dH_choose_8 rfl (lv_at hl 0 rfl) ?_
        refine lv_iload_n hx hb dH_choose_9 rfl (lv_at hl 1 rfl) ?_
        refine cl_vi (na := 1) (rest := []) X hD Y (tH_passes l g a ha σ2 ((sp)) ) gH_H_passes (by decide +kernel) rfl rfl rfl ⟨rfl, rfl⟩ ⟨Nat.le_of_ble_eq_true rfl, Nat.le_of_ble_eq_true rfl⟩ ⟨Nat.zero_le _, Nat.zero_le _⟩ hl.1 rfl (Nat.le_of_ble_eq_true rfl) dH_choose_10 (fun H locs Y => ?_)
        refine bb_eq (tgt := 44) hx hb dH_choose_13 (by decide) (fun h13 => ?_) (fun h13 => ?_)
        · skip
          have E2 : σ2 = h_cst s sp := by first | (rw [show 16 - i2 = 0 by omega] at eσ2; exact eσ2) | (rw [show 16 - i2 = (15 - i2) + 1 by omega] at eσ2; rw [← show h_chs sp 16 s = h_cst s sp from rfl, ← eσ2]; simp [h_chs, h5, h13])
          rw [E2] at Y
          refine lv_aload_n hx hb dH_choose_44 rfl (lv_at hl 0 rfl) ?_
          refine rH_HA X Y dH_choose_45 ?_
          have hq4 := (gH_HA (h_cst s sp)).isLt
          refine lv_istore_n (lv' := [(2, .int (nI ((gH_HA (h_cst s sp)).val))), (0, .ref (a 0)), (1, .int (sp))]) hx hb dH_choose_48 rfl hl (by decide) rfl (fun ls hl => ?_)
          refine lv_aload_n hx hb dH_choose_49 rfl (lv_at hl 1 rfl) ?_
          refine cl_vv (na := 0) (rest := []) X hD Y (tH_moveHand l g a ha (h_cst s sp)  ) gH_H_moveHand (by decide +kernel) rfl rfl rfl ⟨rfl, rfl⟩ ⟨Nat.le_of_ble_eq_true rfl, Nat.le_of_ble_eq_true rfl⟩ ⟨Nat.zero_le _, Nat.zero_le _⟩ hl.1 rfl (Nat.le_of_ble_eq_true rfl) dH_choose_50 (fun H locs Y => ?_)
          refine lv_iload_n hx hb dH_choose_53 rfl (lv_at hl 0 rfl) ?_
          have E : h_mv (h_cst s sp) = h_cho s sp := rfl
          rw [E] at Y
          exact ret _ _ _ _ _ Y (rfl) dH_choose_54
        · skip
          refine lv_aload_n hx hb dH_choose_16 rfl (lv_at hl 0 rfl) ?_
          refine rH_HA X Y dH_choose_17 ?_
          have hq6 := (gH_HA σ2).isLt
          refine lv_iload_n hx hb dH_choose_20 rfl (lv_at hl 1 rfl) ?_
          refine lv_icmp_eq (tgt := 34) hx hb dH_choose_21 (by decide) (fun h21 => ?_) (fun h21 => ?_)
          · skip
            refine lv_aload_n hx hb dH_choose_34 rfl (lv_at hl 0 rfl) ?_
            refine cl_vv (na := 0) (rest := []) X hD Y (tH_moveHand l g a ha σ2  ) gH_H_moveHand (by decide +kernel) rfl rfl rfl ⟨rfl, rfl⟩ ⟨Nat.le_of_ble_eq_true rfl, Nat.le_of_ble_eq_true rfl⟩ ⟨Nat.zero_le _, Nat.zero_le _⟩ hl.1 rfl (Nat.le_of_ble_eq_true rfl) dH_choose_35 (fun H locs Y => ?_)
            refine lv_iinc (v := (nI (i2 + 1))) (lv' := [(2, .int (nI (i2 + 1))), (0, .ref (a 0)), (1, .int (sp))]) hx hb dH_choose_38 hl (k := 2) rfl (nI_1 _) (by decide) rfl (fun ls hl => ?_)
            refine lv_goto (tgt := 2) hx hb dH_choose_41 (by decide) ?_
            exact ih2 (i2 + 1) (h_mv σ2) (by omega) (by omega) (by rw [← eσ2, show 16 - i2 = (16 - (i2 + 1)) + 1 by omega]; simp [h_chs, h_cs1, h5, h13, h21]) _ _ _ Y (lv_sub hl [1, 2, 0] rfl)
          · skip
            refine lv_aload_n hx hb dH_choose_24 rfl (lv_at hl 0 rfl) ?_
            refine rH_US X Y dH_choose_25 ?_
            refine lv_aload_n hx hb dH_choose_28 rfl (lv_at hl 0 rfl) ?_
            refine rH_HA X Y dH_choose_29 ?_
            have hq8 := (gH_HA σ2).isLt
            refine lv_iconst (v := (nI (0))) hx hb dH_choose_32 (by decide) ?_
            refine sH_US X Y (k := (gH_HA σ2).val) false (by decide) (by omega) dH_choose_33 (fun H locs Y => ?_)
            refine lv_aload_n hx hb dH_choose_34 rfl (lv_at hl 0 rfl) ?_
            refine cl_vv (na := 0) (rest := []) X hD Y (tH_moveHand l g a ha (uH_US σ2 ((gH_HA σ2).val) false)  ) gH_H_moveHand (by decide +kernel) rfl rfl rfl ⟨rfl, rfl⟩ ⟨Nat.le_of_ble_eq_true rfl, Nat.le_of_ble_eq_true rfl⟩ ⟨Nat.zero_le _, Nat.zero_le _⟩ hl.1 rfl (Nat.le_of_ble_eq_true rfl) dH_choose_35 (fun H locs Y => ?_)
            refine lv_iinc (v := (nI (i2 + 1))) (lv' := [(2, .int (nI (i2 + 1))), (0, .ref (a 0)), (1, .int (sp))]) hx hb dH_choose_38 hl (k := 2) rfl (nI_1 _) (by decide) rfl (fun ls hl => ?_)
            refine lv_goto (tgt := 2) hx hb dH_choose_41 (by decide) ?_
            exact ih2 (i2 + 1) (h_mv (uH_US σ2 ((gH_HA σ2).val) false)) (by omega) (by omega) (by rw [← eσ2, show 16 - i2 = (16 - (i2 + 1)) + 1 by omega]; simp [h_chs, h_cs1, h5, h13, h21]) _ _ _ Y (lv_sub hl [1, 2, 0] rfl)
  exact loop2 (16 + 1) 0 s (by omega) (by omega) (rfl) _ _ _ Y (lv_sub hl [1, 2, 0] rfl)
end
section
/-! written by wip/whole/specH.py -/
set_option maxHeartbeats 1000000 in
set_option maxRecDepth 100000 in
theorem tH_bookmarkAllOf (l : Launch) (g : GG) (a : Nat → Nat) (ha : apH a) (s : HS) (v : Nat) (hv : v < 8) : Cv l g (wldH g a) (adH a) yH_bookmarkAllOf kH_bookmarkAllOf ({ frames := 1, cells := 0, slots := 0, locals := 20 }) [.ref (a 0), .int (nI (v))] s (h_bkall v s) := by
  have hD := wldH_D (g := g) ha
  refine Cv.of (own := RH) (cc := cH_bookmarkAllOf) (nL := 4) hD (by decide) rfl (Nat.le_of_ble_eq_true rfl) ?_
  intro p e S m args below meth c Q X ret H locs ls Y hl
  have hx := X.1
  have hb := X.2.1
  have hl : lv_has ls 4 [(0, .ref (a 0)), (1, .int (nI (v)))] := hl
  refine lv_iload_n hx hb dH_bookmarkAllOf_0 rfl (lv_at hl 1 rfl) ?_
  refine cl_s (na := 1) (rest := []) X Y (tH_firstPlaceOf l v ) gH_H_firstPlaceOf (by decide +kernel) rfl ⟨rfl, rfl⟩ ⟨Nat.le_of_ble_eq_true rfl, Nat.le_of_ble_eq_true rfl⟩ ⟨Nat.zero_le _, Nat.zero_le _⟩ hl.1 rfl (Nat.le_of_ble_eq_true rfl) dH_bookmarkAllOf_1 (fun H locs Y => ?_)
  refine lv_istore_n (lv' := [(2, .int (nI (4 * v))), (0, .ref (a 0)), (1, .int (nI (v)))]) hx hb dH_bookmarkAllOf_4 rfl hl (by decide) rfl (fun ls hl => ?_)
  refine lv_iload_n hx hb dH_bookmarkAllOf_5 rfl (lv_at hl 0 rfl) ?_
  refine lv_istore_n (lv' := [(3, .int (nI (4 * v))), (2, .int (nI (4 * v))), (0, .ref (a 0)), (1, .int (nI (v)))]) hx hb dH_bookmarkAllOf_6 rfl hl (by decide) rfl (fun ls hl => ?_)
  have loop7 : ∀ (n7 i7 : Nat) (σ7 : HS), i7 ≤ 4 → 4 < i7 + n7 → (fldN (h_bk1 v) s i7 = σ7) → ∀ (H : Heap) (locs : List Loc) (ls : Array Slot), Yw g (wldH g a) (adH a) S H locs σ7 → lv_has ls 4 [(2, .int (nI (4 * v))), (0, .ref (a 0)), (1, .int (nI (v))), (3, .int (nI (4 * v + i7)))] → W p l e ({ frames := 1, cells := 0, slots := 0, locals := 20 }) S m args below meth c H locs 0 0 Q (F0 m 7 ls []) := by
    intro n7
    induction n7 with
    | zero =>
      intro i7 σ7 b1 b2
      exact absurd b2 (by omega)
    | succ n7 ih7 =>
      intro i7 σ7 hi7 hn7 eσ7 H locs ls Y hl
      refine lv_iload_n hx hb dH_bookmarkAllOf_7 rfl (lv_at hl 3 rfl) ?_
      refine lv_iload_n hx hb dH_bookmarkAllOf_8 rfl (lv_at hl 0 rfl) ?_
      refine lv_iconst (v := (nI (4))) hx hb dH_bookmarkAllOf_9 (by decide) ?_
      refine bn_add hx hb dH_bookmarkAllOf_10 ?_
      refine bn_ge (tgt := 36) hx hb dH_bookmarkAllOf_11 (by decide) (by omega) (by omega) (fun h11 => ?_) (fun h11 => ?_)
      · skip
        obtain rfl : i7 = 4 := by omega
        subst eσ7
        refine lv_iconst (v := (nI (2))) hx hb dH_bookmarkAllOf_36 (by decide) ?_
        refine lv_iload_n hx hb dH_bookmarkAllOf_37 rfl (lv_at hl 0 rfl) ?_
        refine bn_mul hx hb dH_bookmarkAllOf_38 ?_
        refine lv_istore_n (lv' := [(3, .int (nI (2 * (4 * v)))), (2, .int (nI (4 * v))), (0, .ref (a 0)), (1, .int (nI (v)))]) hx hb dH_bookmarkAllOf_39 rfl hl (by decide) rfl (fun ls hl => ?_)
        have loop40 : ∀ (n40 i40 : Nat) (σ40 : HS), i40 ≤ 8 → 8 < i40 + n40 → (fldN (h_bk2 v) ((fldN (h_bk1 v) s 4)) i40 = σ40) → ∀ (H : Heap) (locs : List Loc) (ls : Array Slot), Yw g (wldH g a) (adH a) S H locs σ40 → lv_has ls 4 [(2, .int (nI (4 * v))), (0, .ref (a 0)), (1, .int (nI (v))), (3, .int (nI (2 * (4 * v) + i40)))] → W p l e ({ frames := 1, cells := 0, slots := 0, locals := 20 }) S m args below meth c H locs 0 0 Q (F0 m 40 ls []) := by
          intro n40
          induction n40 with
          | zero =>
            intro i40 σ40 b1 b2
            exact absurd b2 (by omega)
          | succ n40 ih40 =>
            intro i40 σ40 hi40 hn40 eσ40 H locs ls Y hl
            refine lv_iload_n hx hb dH_bookmarkAllOf_40 rfl (lv_at hl 3 rfl) ?_
            refine lv_iconst (v := (nI (2))) hx hb dH_bookmarkAllOf_41 (by decide) ?_
            refine lv_iload_n hx hb dH_bookmarkAllOf_42 rfl (lv_at hl 0 rfl) ?_
            refine lv_iconst (v := (nI (4))) hx hb dH_bookmarkAllOf_43 (by decide) ?_
            refine bn_add hx hb dH_bookmarkAllOf_44 ?_
            refine bn_mul hx hb dH_bookmarkAllOf_45 ?_
            refine bn_ge (tgt := 77) hx hb dH_bookmarkAllOf_46 (by decide) (by omega) (by omega) (fun h46 => ?_) (fun h46 => ?_)
            · skip
              obtain rfl : i40 = 8 := by omega
              subst eσ40
              have E : (fldN (h_bk2 v) ((fldN (h_bk1 v) s 4)) 8) = h_bkall v s := rfl
              rw [E] at Y
              exact ret _ _ _ _ Y dH_bookmarkAllOf_77
            · skip
              refine lv_aload_n hx hb dH_bookmarkAllOf_49 rfl (lv_at hl 1 rfl) ?_
              refine rH_FD X Y dH_bookmarkAllOf_50 ?_
              refine lv_iload_n hx hb dH_bookmarkAllOf_53 rfl (lv_at hl 3 rfl) ?_
              refine lH_FD X Y (k := 2 * (4 * v) + i40) (by omega) dH_bookmarkAllOf_54 ?_
              refine lv_iconst (v := (-1)) hx hb dH_bookmarkAllOf_55 (by decide) ?_
              refine bo_eq (tgt := 71) hx hb dH_bookmarkAllOf_56 (by decide) (fun h56 => ?_) (fun k2 h56 => ?_)
              · skip
                refine lv_iinc (v := (nI (2 * (4 * v) + i40 + 1))) (lv' := [(3, .int (nI (2 * (4 * v) + i40 + 1))), (2, .int (nI (4 * v))), (0, .ref (a 0)), (1, .int (nI (v)))]) hx hb dH_bookmarkAllOf_71 hl (k := 3) rfl (nI_1 _) (by decide) rfl (fun ls hl => ?_)
                refine lv_goto (tgt := 40) hx hb dH_bookmarkAllOf_74 (by decide) ?_
                exact ih40 (i40 + 1) σ40 (by omega) (by omega) (by show h_bk2 v i40 (fldN (h_bk2 v) ((fldN (h_bk1 v) s 4)) i40) = _; rw [eσ40]; simp [h_bk2, h11, h46, h56]) _ _ _ Y (lv_sub hl [1, 2, 3, 0] rfl)
              · skip
                have hq3 := k2.isLt
                refine lv_aload_n hx hb dH_bookmarkAllOf_59 rfl (lv_at hl 1 rfl) ?_
                refine rH_BM X Y dH_bookmarkAllOf_60 ?_
                refine lv_aload_n hx hb dH_bookmarkAllOf_63 rfl (lv_at hl 1 rfl) ?_
                refine rH_FD X Y dH_bookmarkAllOf_64 ?_
                refine lv_iload_n hx hb dH_bookmarkAllOf_67 rfl (lv_at hl 3 rfl) ?_
                refine lH_FD X Y (k := 2 * (4 * v) + i40) (by omega) dH_bookmarkAllOf_68 ?_
                refine bn_top (y := nI k2.val) (by rw [h56]; rfl) ?_
                refine lv_iconst (v := (nI (1))) hx hb dH_bookmarkAllOf_69 (by decide) ?_
                refine sH_BM X Y (k := k2.val) true (by decide) (by omega) dH_bookmarkAllOf_70 (fun H locs Y => ?_)
                refine lv_iinc (v := (nI (2 * (4 * v) + i40 + 1))) (lv' := [(3, .int (nI (2 * (4 * v) + i40 + 1))), (2, .int (nI (4 * v))), (0, .ref (a 0)), (1, .int (nI (v)))]) hx hb dH_bookmarkAllOf_71 hl (k := 3) rfl (nI_1 _) (by decide) rfl (fun ls hl => ?_)
                refine lv_goto (tgt := 40) hx hb dH_bookmarkAllOf_74 (by decide) ?_
                exact ih40 (i40 + 1) (uH_BM σ40 k2.val true) (by omega) (by omega) (by show h_bk2 v i40 (fldN (h_bk2 v) ((fldN (h_bk1 v) s 4)) i40) = _; rw [eσ40]; simp [h_bk2, h11, h46, h56]) _ _ _ Y (lv_sub hl [1, 2, 3, 0] rfl)
        exact loop40 (8 + 1) 0 (((fldN (h_bk1 v) s 4))) (by omega) (by omega) (fldN_zero) _ _ _ Y (lv_sub hl [1, 2, 3, 0] rfl)
      · skip
        refine lv_aload_n hx hb dH_bookmarkAllOf_14 rfl (lv_at hl 1 rfl) ?_
        refine rH_TK X Y dH_bookmarkAllOf_15 ?_
        refine lv_iload_n hx hb dH_bookmarkAllOf_18 rfl (lv_at hl 3 rfl) ?_
        refine lH_TK X Y (k := 4 * v + i7) (by omega) dH_bookmarkAllOf_19 ?_
        refine bb_eq (tgt := 30) hx hb dH_bookmarkAllOf_20 (by decide) (fun h20 => ?_) (fun h20 => ?_)
        · skip
          refine lv_iinc (v := (nI (4 * v + i7 + 1))) (lv' := [(3, .int (nI (4 * v + i7 + 1))), (2, .int (nI (4 * v))), (0, .ref (a 0)), (1, .int (nI (v)))]) hx hb dH_bookmarkAllOf_30 hl (k := 3) rfl (nI_1 _) (by decide) rfl (fun ls hl => ?_)
          refine lv_goto (tgt := 7) hx hb dH_bookmarkAllOf_33 (by decide) ?_
          exact ih7 (i7 + 1) σ7 (by omega) (by omega) (by show h_bk1 v i7 (fldN (h_bk1 v) s i7) = _; rw [eσ7]; simp [h_bk1, h11, h20]) _ _ _ Y (lv_sub hl [1, 2, 3, 0] rfl)
        · skip
          refine lv_aload_n hx hb dH_bookmarkAllOf_23 rfl (lv_at hl 1 rfl) ?_
          refine rH_BM X Y dH_bookmarkAllOf_24 ?_
          refine lv_iload_n hx hb dH_bookmarkAllOf_27 rfl (lv_at hl 3 rfl) ?_
          refine lv_iconst (v := (nI (1))) hx hb dH_bookmarkAllOf_28 (by decide) ?_
          refine sH_BM X Y (k := 4 * v + i7) true (by decide) (by omega) dH_bookmarkAllOf_29 (fun H locs Y => ?_)
          refine lv_iinc (v := (nI (4 * v + i7 + 1))) (lv' := [(3, .int (nI (4 * v + i7 + 1))), (2, .int (nI (4 * v))), (0, .ref (a 0)), (1, .int (nI (v)))]) hx hb dH_bookmarkAllOf_30 hl (k := 3) rfl (nI_1 _) (by decide) rfl (fun ls hl => ?_)
          refine lv_goto (tgt := 7) hx hb dH_bookmarkAllOf_33 (by decide) ?_
          exact ih7 (i7 + 1) (uH_BM σ7 (4 * v + i7) true) (by omega) (by omega) (by show h_bk1 v i7 (fldN (h_bk1 v) s i7) = _; rw [eσ7]; simp [h_bk1, h11, h20]) _ _ _ Y (lv_sub hl [1, 2, 3, 0] rfl)
  exact loop7 (4 + 1) 0 s (by omega) (by omega) (fldN_zero) _ _ _ Y (lv_sub hl [1, 2, 3, 0] rfl)
set_option maxHeartbeats 1000000 in
set_option maxRecDepth 100000 in
theorem tH_putOut (l : Launch) (g : GG) (a : Nat → Nat) (ha : apH a) (s : HS) (v : Nat) (hv : v < 8) : Cv l g (wldH g a) (adH a) yH_putOut kH_putOut ({ frames := 2, cells := 0, slots := 0, locals := 44 }) [.ref (a 0), .int (nI (v))] s (h_putOut v s) := by
  have hD := wldH_D (g := g) ha
  refine Cv.of (own := RH) (cc := cH_putOut) (nL := 3) hD (by decide) rfl (Nat.le_of_ble_eq_true rfl) ?_
  intro p e S m args below meth c Q X ret H locs ls Y hl
  have hx := X.1
  have hb := X.2.1
  have hl : lv_has ls 3 [(0, .ref (a 0)), (1, .int (nI (v)))] := hl
  refine lv_aload_n hx hb dH_putOut_0 rfl (lv_at hl 0 rfl) ?_
  refine lv_iload_n hx hb dH_putOut_1 rfl (lv_at hl 1 rfl) ?_
  refine cl_vv (na := 1) (rest := []) X hD Y (tH_bookmarkAllOf l g a ha s v (by omega)) gH_H_bookmarkAllOf (by decide +kernel) rfl rfl rfl ⟨rfl, rfl⟩ ⟨Nat.le_of_ble_eq_true rfl, Nat.le_of_ble_eq_true rfl⟩ ⟨Nat.zero_le _, Nat.zero_le _⟩ hl.1 rfl (Nat.le_of_ble_eq_true rfl) dH_putOut_2 (fun H locs Y => ?_)
  refine lv_iconst (v := (nI (0))) hx hb dH_putOut_5 (by decide) ?_
  refine lv_istore_n (lv' := [(2, .int (nI (0))), (0, .ref (a 0)), (1, .int (nI (v)))]) hx hb dH_putOut_6 rfl hl (by decide) rfl (fun ls hl => ?_)
  have loop7 : ∀ (n7 i7 : Nat) (σ7 : HS), i7 ≤ 8 → 8 < i7 + n7 → (fldN (h_cinc v) (h_bkall v s) i7 = σ7) → ∀ (H : Heap) (locs : List Loc) (ls : Array Slot), Yw g (wldH g a) (adH a) S H locs σ7 → lv_has ls 3 [(0, .ref (a 0)), (1, .int (nI (v))), (2, .int (nI (i7)))] → W p l e ({ frames := 2, cells := 0, slots := 0, locals := 44 }) S m args below meth c H locs 0 0 Q (F0 m 7 ls []) := by
    intro n7
    induction n7 with
    | zero =>
      intro i7 σ7 b1 b2
      exact absurd b2 (by omega)
    | succ n7 ih7 =>
      intro i7 σ7 hi7 hn7 eσ7 H locs ls Y hl
      refine lv_iload_n hx hb dH_putOut_7 rfl (lv_at hl 2 rfl) ?_
      refine lv_bipush (v := (nI (8))) hx hb dH_putOut_8 (by decide) ?_
      refine bn_ge (tgt := 38) hx hb dH_putOut_10 (by decide) (by omega) (by omega) (fun h10 => ?_) (fun h10 => ?_)
      · skip
        obtain rfl : i7 = 8 := by omega
        subst eσ7
        refine lv_aload_n hx hb dH_putOut_38 rfl (lv_at hl 0 rfl) ?_
        refine rH_ST X Y dH_putOut_39 ?_
        refine lv_iload_n hx hb dH_putOut_42 rfl (lv_at hl 1 rfl) ?_
        refine lv_iconst (v := (nI (2))) hx hb dH_putOut_43 (by decide) ?_
        refine sH_ST X Y (k := v) (⟨2, by omega⟩) rfl (by omega) dH_putOut_44 (fun H locs Y => ?_)
        refine lv_aload_n hx hb dH_putOut_45 rfl (lv_at hl 0 rfl) ?_
        refine rH_US X Y dH_putOut_46 ?_
        refine lv_iload_n hx hb dH_putOut_49 rfl (lv_at hl 1 rfl) ?_
        refine lv_iconst (v := (nI (0))) hx hb dH_putOut_50 (by decide) ?_
        refine sH_US X Y (k := v) false (by decide) (by omega) dH_putOut_51 (fun H locs Y => ?_)
        have E : uH_US (uH_ST ((fldN (h_cinc v) (h_bkall v s) 8)) v (⟨2, by omega⟩)) v false = h_putOut v s := rfl
        rw [E] at Y
        exact ret _ _ _ _ Y dH_putOut_52
      · skip
        refine lv_aload_n hx hb dH_putOut_13 rfl (lv_at hl 0 rfl) ?_
        refine lv_iload_n hx hb dH_putOut_14 rfl (lv_at hl 1 rfl) ?_
        refine lv_iload_n hx hb dH_putOut_15 rfl (lv_at hl 2 rfl) ?_
        refine cl_vi (na := 2) (rest := []) X hD Y (tH_refersTo l g a ha σ7 v i7 (by omega) (by omega)) gH_H_refersTo (by decide +kernel) rfl rfl rfl ⟨rfl, rfl⟩ ⟨Nat.le_of_ble_eq_true rfl, Nat.le_of_ble_eq_true rfl⟩ ⟨Nat.zero_le _, Nat.zero_le _⟩ hl.1 rfl (Nat.le_of_ble_eq_true rfl) dH_putOut_16 (fun H locs Y => ?_)
        refine bb_eq (tgt := 32) hx hb dH_putOut_19 (by decide) (fun h19 => ?_) (fun h19 => ?_)
        · skip
          refine lv_iinc (v := (nI (i7 + 1))) (lv' := [(2, .int (nI (i7 + 1))), (0, .ref (a 0)), (1, .int (nI (v)))]) hx hb dH_putOut_32 hl (k := 2) rfl (nI_1 _) (by decide) rfl (fun ls hl => ?_)
          refine lv_goto (tgt := 7) hx hb dH_putOut_35 (by decide) ?_
          exact ih7 (i7 + 1) σ7 (by omega) (by omega) (by show h_cinc v i7 (fldN (h_cinc v) (h_bkall v s) i7) = _; rw [eσ7]; simp [h_cinc, h10, h19]) _ _ _ Y (lv_sub hl [1, 2, 0] rfl)
        · skip
          refine lv_aload_n hx hb dH_putOut_22 rfl (lv_at hl 0 rfl) ?_
          refine rH_CT X Y dH_putOut_23 ?_
          refine lv_iload_n hx hb dH_putOut_26 rfl (lv_at hl 2 rfl) ?_
          refine lv_dup2_11 hx hb dH_putOut_27 rfl rfl ?_
          refine lH_CT X Y (k := i7) (by omega) dH_putOut_28 ?_
          refine lv_iconst (v := (nI (1))) hx hb dH_putOut_29 (by decide) ?_
          refine lv_iadd hx hb dH_putOut_30 ?_
          refine sH_CT X Y (k := i7) (((gH_CT σ7 i7) + (nI (1)))) rfl (by omega) dH_putOut_31 (fun H locs Y => ?_)
          refine lv_iinc (v := (nI (i7 + 1))) (lv' := [(2, .int (nI (i7 + 1))), (0, .ref (a 0)), (1, .int (nI (v)))]) hx hb dH_putOut_32 hl (k := 2) rfl (nI_1 _) (by decide) rfl (fun ls hl => ?_)
          refine lv_goto (tgt := 7) hx hb dH_putOut_35 (by decide) ?_
          exact ih7 (i7 + 1) (uH_CT σ7 i7 (((gH_CT σ7 i7) + (nI (1))))) (by omega) (by omega) (by show h_cinc v i7 (fldN (h_cinc v) (h_bkall v s) i7) = _; rw [eσ7]; simp [h_cinc, h10, h19]) _ _ _ Y (lv_sub hl [1, 2, 0] rfl)
  exact loop7 (8 + 1) 0 ((h_bkall v s)) (by omega) (by omega) (fldN_zero) _ _ _ Y (lv_sub hl [1, 2, 0] rfl)
set_option maxHeartbeats 1000000 in
set_option maxRecDepth 100000 in
theorem tH_forgetBookmarksUnlessCounted (l : Launch) (g : GG) (a : Nat → Nat) (ha : apH a) (s : HS) (w : Nat) (hw : w < 8) : Cv l g (wldH g a) (adH a) yH_forgetBookmarksUnlessCounted kH_forgetBookmarksUnlessCounted ({ frames := 1, cells := 0, slots := 0, locals := 20 }) [.ref (a 0), .int (nI (w))] s (h_forget w s) := by
  have hD := wldH_D (g := g) ha
  refine Cv.of (own := RH) (cc := cH_forgetBookmarksUnlessCounted) (nL := 4) hD (by decide) rfl (Nat.le_of_ble_eq_true rfl) ?_
  intro p e S m args below meth c Q X ret H locs ls Y hl
  have hx := X.1
  have hb := X.2.1
  have hl : lv_has ls 4 [(0, .ref (a 0)), (1, .int (nI (w)))] := hl
  refine lv_aload_n hx hb dH_forgetBookmarksUnlessCounted_0 rfl (lv_at hl 0 rfl) ?_
  refine rH_ST X Y dH_forgetBookmarksUnlessCounted_1 ?_
  refine lv_iload_n hx hb dH_forgetBookmarksUnlessCounted_4 rfl (lv_at hl 1 rfl) ?_
  refine lH_ST X Y (k := w) (by omega) dH_forgetBookmarksUnlessCounted_5 ?_
  have hq1 := (gH_ST s w).isLt
  refine lv_iconst (v := (nI (1))) hx hb dH_forgetBookmarksUnlessCounted_6 (by decide) ?_
  refine bn_ne (tgt := 19) hx hb dH_forgetBookmarksUnlessCounted_7 (by decide) (by omega) (by omega) (fun h7 => ?_) (fun h7 => ?_)
  · skip
    have E : s = h_forget w s := by simp [h_forget, h7]
    rw [E] at Y
    exact ret _ _ _ _ Y dH_forgetBookmarksUnlessCounted_19
  · skip
    refine lv_aload_n hx hb dH_forgetBookmarksUnlessCounted_10 rfl (lv_at hl 0 rfl) ?_
    refine rH_CT X Y dH_forgetBookmarksUnlessCounted_11 ?_
    refine lv_iload_n hx hb dH_forgetBookmarksUnlessCounted_14 rfl (lv_at hl 1 rfl) ?_
    refine lH_CT X Y (k := w) (by omega) dH_forgetBookmarksUnlessCounted_15 ?_
    refine lv_if_eq (tgt := 20) hx hb dH_forgetBookmarksUnlessCounted_16 (by decide) (fun h16 => ?_) (fun h16 => ?_)
    · skip
      refine lv_iload_n hx hb dH_forgetBookmarksUnlessCounted_20 rfl (lv_at hl 1 rfl) ?_
      refine cl_s (na := 1) (rest := []) X Y (tH_firstPlaceOf l w ) gH_H_firstPlaceOf (by decide +kernel) rfl ⟨rfl, rfl⟩ ⟨Nat.le_of_ble_eq_true rfl, Nat.le_of_ble_eq_true rfl⟩ ⟨Nat.zero_le _, Nat.zero_le _⟩ hl.1 rfl (Nat.le_of_ble_eq_true rfl) dH_forgetBookmarksUnlessCounted_21 (fun H locs Y => ?_)
      refine lv_istore_n (lv' := [(2, .int (nI (4 * w))), (0, .ref (a 0)), (1, .int (nI (w)))]) hx hb dH_forgetBookmarksUnlessCounted_24 rfl hl (by decide) rfl (fun ls hl => ?_)
      refine lv_iload_n hx hb dH_forgetBookmarksUnlessCounted_25 rfl (lv_at hl 0 rfl) ?_
      refine lv_istore_n (lv' := [(3, .int (nI (4 * w))), (2, .int (nI (4 * w))), (0, .ref (a 0)), (1, .int (nI (w)))]) hx hb dH_forgetBookmarksUnlessCounted_26 rfl hl (by decide) rfl (fun ls hl => ?_)
      have loop27 : ∀ (n27 i27 : Nat) (σ27 : HS), i27 ≤ 4 → 4 < i27 + n27 → (fldN (h_fg1 w) s i27 = σ27) → ∀ (H : Heap) (locs : List Loc) (ls : Array Slot), Yw g (wldH g a) (adH a) S H locs σ27 → lv_has ls 4 [(2, .int (nI (4 * w))), (0, .ref (a 0)), (1, .int (nI (w))), (3, .int (nI (4 * w + i27)))] → W p l e ({ frames := 1, cells := 0, slots := 0, locals := 20 }) S m args below meth c H locs 0 0 Q (F0 m 27 ls []) := by
        intro n27
        induction n27 with
        | zero =>
          intro i27 σ27 b1 b2
          exact absurd b2 (by omega)
        | succ n27 ih27 =>
          intro i27 σ27 hi27 hn27 eσ27 H locs ls Y hl
          refine lv_iload_n hx hb dH_forgetBookmarksUnlessCounted_27 rfl (lv_at hl 3 rfl) ?_
          refine lv_iload_n hx hb dH_forgetBookmarksUnlessCounted_28 rfl (lv_at hl 0 rfl) ?_
          refine lv_iconst (v := (nI (4))) hx hb dH_forgetBookmarksUnlessCounted_29 (by decide) ?_
          refine bn_add hx hb dH_forgetBookmarksUnlessCounted_30 ?_
          refine bn_ge (tgt := 47) hx hb dH_forgetBookmarksUnlessCounted_31 (by decide) (by omega) (by omega) (fun h31 => ?_) (fun h31 => ?_)
          · skip
            obtain rfl : i27 = 4 := by omega
            subst eσ27
            have E : (fldN (h_fg1 w) s 4) = h_forget w s := by simp [h_forget, h7, h16, h31]
            rw [E] at Y
            exact ret _ _ _ _ Y dH_forgetBookmarksUnlessCounted_47
          · skip
            refine lv_aload_n hx hb dH_forgetBookmarksUnlessCounted_34 rfl (lv_at hl 1 rfl) ?_
            refine rH_BM X Y dH_forgetBookmarksUnlessCounted_35 ?_
            refine lv_iload_n hx hb dH_forgetBookmarksUnlessCounted_38 rfl (lv_at hl 3 rfl) ?_
            refine lv_iconst (v := (nI (0))) hx hb dH_forgetBookmarksUnlessCounted_39 (by decide) ?_
            refine sH_BM X Y (k := 4 * w + i27) false (by decide) (by omega) dH_forgetBookmarksUnlessCounted_40 (fun H locs Y => ?_)
            refine lv_iinc (v := (nI (4 * w + i27 + 1))) (lv' := [(3, .int (nI (4 * w + i27 + 1))), (2, .int (nI (4 * w))), (0, .ref (a 0)), (1, .int (nI (w)))]) hx hb dH_forgetBookmarksUnlessCounted_41 hl (k := 3) rfl (nI_1 _) (by decide) rfl (fun ls hl => ?_)
            refine lv_goto (tgt := 27) hx hb dH_forgetBookmarksUnlessCounted_44 (by decide) ?_
            exact ih27 (i27 + 1) (uH_BM σ27 (4 * w + i27) false) (by omega) (by omega) (by show h_fg1 w i27 (fldN (h_fg1 w) s i27) = _; rw [eσ27]; simp [h_fg1, h7, h16, h31]) _ _ _ Y (lv_sub hl [1, 2, 3, 0] rfl)
      exact loop27 (4 + 1) 0 s (by omega) (by omega) (fldN_zero) _ _ _ Y (lv_sub hl [1, 2, 3, 0] rfl)
    · skip
      have E : s = h_forget w s := by simp [h_forget, h7, h16]
      rw [E] at Y
      exact ret _ _ _ _ Y dH_forgetBookmarksUnlessCounted_19
set_option maxHeartbeats 1000000 in
set_option maxRecDepth 100000 in
theorem tH_bringIn (l : Launch) (g : GG) (a : Nat → Nat) (ha : apH a) (s : HS) (v : Nat) (hv : v < 8) : Cv l g (wldH g a) (adH a) yH_bringIn kH_bringIn ({ frames := 2, cells := 0, slots := 0, locals := 44 }) [.ref (a 0), .int (nI (v))] s (h_bringIn v s) := by
  have hD := wldH_D (g := g) ha
  refine Cv.of (own := RH) (cc := cH_bringIn) (nL := 3) hD (by decide) rfl (Nat.le_of_ble_eq_true rfl) ?_
  intro p e S m args below meth c Q X ret H locs ls Y hl
  have hx := X.1
  have hb := X.2.1
  have hl : lv_has ls 3 [(0, .ref (a 0)), (1, .int (nI (v)))] := hl
  refine lv_aload_n hx hb dH_bringIn_0 rfl (lv_at hl 0 rfl) ?_
  refine rH_ST X Y dH_bringIn_1 ?_
  refine lv_iload_n hx hb dH_bringIn_4 rfl (lv_at hl 1 rfl) ?_
  refine lv_iconst (v := (nI (1))) hx hb dH_bringIn_5 (by decide) ?_
  refine sH_ST X Y (k := v) (⟨1, by omega⟩) rfl (by omega) dH_bringIn_6 (fun H locs Y => ?_)
  refine lv_aload_n hx hb dH_bringIn_7 rfl (lv_at hl 0 rfl) ?_
  refine rH_US X Y dH_bringIn_8 ?_
  refine lv_iload_n hx hb dH_bringIn_11 rfl (lv_at hl 1 rfl) ?_
  refine lv_iconst (v := (nI (0))) hx hb dH_bringIn_12 (by decide) ?_
  refine sH_US X Y (k := v) false (by decide) (by omega) dH_bringIn_13 (fun H locs Y => ?_)
  refine lv_iconst (v := (nI (0))) hx hb dH_bringIn_14 (by decide) ?_
  refine lv_istore_n (lv' := [(2, .int (nI (0))), (0, .ref (a 0)), (1, .int (nI (v)))]) hx hb dH_bringIn_15 rfl hl (by decide) rfl (fun ls hl => ?_)
  have loop16 : ∀ (n16 i16 : Nat) (σ16 : HS), i16 ≤ 8 → 8 < i16 + n16 → (fldN (h_bi1 v) (uH_US (uH_ST s v (⟨1, by omega⟩)) v false) i16 = σ16) → ∀ (H : Heap) (locs : List Loc) (ls : Array Slot), Yw g (wldH g a) (adH a) S H locs σ16 → lv_has ls 3 [(0, .ref (a 0)), (1, .int (nI (v))), (2, .int (nI (i16)))] → W p l e ({ frames := 2, cells := 0, slots := 0, locals := 44 }) S m args below meth c H locs 0 0 Q (F0 m 16 ls []) := by
    intro n16
    induction n16 with
    | zero =>
      intro i16 σ16 b1 b2
      exact absurd b2 (by omega)
    | succ n16 ih16 =>
      intro i16 σ16 hi16 hn16 eσ16 H locs ls Y hl
      refine lv_iload_n hx hb dH_bringIn_16 rfl (lv_at hl 2 rfl) ?_
      refine lv_bipush (v := (nI (8))) hx hb dH_bringIn_17 (by decide) ?_
      refine bn_ge (tgt := 52) hx hb dH_bringIn_19 (by decide) (by omega) (by omega) (fun h19 => ?_) (fun h19 => ?_)
      · skip
        obtain rfl : i16 = 8 := by omega
        subst eσ16
        refine lv_aload_n hx hb dH_bringIn_52 rfl (lv_at hl 0 rfl) ?_
        refine lv_iload_n hx hb dH_bringIn_53 rfl (lv_at hl 1 rfl) ?_
        refine cl_vv (na := 1) (rest := []) X hD Y (tH_forgetBookmarksUnlessCounted l g a ha ((fldN (h_bi1 v) (uH_US (uH_ST s v (⟨1, by omega⟩)) v false) 8)) v (by omega)) gH_H_forgetBookmarksUnlessCounted (by decide +kernel) rfl rfl rfl ⟨rfl, rfl⟩ ⟨Nat.le_of_ble_eq_true rfl, Nat.le_of_ble_eq_true rfl⟩ ⟨Nat.zero_le _, Nat.zero_le _⟩ hl.1 rfl (Nat.le_of_ble_eq_true rfl) dH_bringIn_54 (fun H locs Y => ?_)
        have E : h_forget v ((fldN (h_bi1 v) (uH_US (uH_ST s v (⟨1, by omega⟩)) v false) 8)) = h_bringIn v s := rfl
        rw [E] at Y
        exact ret _ _ _ _ Y dH_bringIn_57
      · skip
        refine lv_aload_n hx hb dH_bringIn_22 rfl (lv_at hl 0 rfl) ?_
        refine lv_iload_n hx hb dH_bringIn_23 rfl (lv_at hl 1 rfl) ?_
        refine lv_iload_n hx hb dH_bringIn_24 rfl (lv_at hl 2 rfl) ?_
        refine cl_vi (na := 2) (rest := []) X hD Y (tH_refersTo l g a ha σ16 v i16 (by omega) (by omega)) gH_H_refersTo (by decide +kernel) rfl rfl rfl ⟨rfl, rfl⟩ ⟨Nat.le_of_ble_eq_true rfl, Nat.le_of_ble_eq_true rfl⟩ ⟨Nat.zero_le _, Nat.zero_le _⟩ hl.1 rfl (Nat.le_of_ble_eq_true rfl) dH_bringIn_25 (fun H locs Y => ?_)
        refine bb_eq (tgt := 46) hx hb dH_bringIn_28 (by decide) (fun h28 => ?_) (fun h28 => ?_)
        · skip
          refine lv_iinc (v := (nI (i16 + 1))) (lv' := [(2, .int (nI (i16 + 1))), (0, .ref (a 0)), (1, .int (nI (v)))]) hx hb dH_bringIn_46 hl (k := 2) rfl (nI_1 _) (by decide) rfl (fun ls hl => ?_)
          refine lv_goto (tgt := 16) hx hb dH_bringIn_49 (by decide) ?_
          exact ih16 (i16 + 1) σ16 (by omega) (by omega) (by show h_bi1 v i16 (fldN (h_bi1 v) (uH_US (uH_ST s v (⟨1, by omega⟩)) v false) i16) = _; rw [eσ16]; simp [h_bi1, h19, h28]) _ _ _ Y (lv_sub hl [1, 2, 0] rfl)
        · skip
          refine lv_aload_n hx hb dH_bringIn_31 rfl (lv_at hl 0 rfl) ?_
          refine rH_CT X Y dH_bringIn_32 ?_
          refine lv_iload_n hx hb dH_bringIn_35 rfl (lv_at hl 2 rfl) ?_
          refine lv_dup2_11 hx hb dH_bringIn_36 rfl rfl ?_
          refine lH_CT X Y (k := i16) (by omega) dH_bringIn_37 ?_
          refine lv_iconst (v := (nI (1))) hx hb dH_bringIn_38 (by decide) ?_
          refine lv_isub hx hb dH_bringIn_39 ?_
          refine sH_CT X Y (k := i16) (((gH_CT σ16 i16) - (nI (1)))) rfl (by omega) dH_bringIn_40 (fun H locs Y => ?_)
          refine lv_aload_n hx hb dH_bringIn_41 rfl (lv_at hl 0 rfl) ?_
          refine lv_iload_n hx hb dH_bringIn_42 rfl (lv_at hl 2 rfl) ?_
          refine cl_vv (na := 1) (rest := []) X hD Y (tH_forgetBookmarksUnlessCounted l g a ha (uH_CT σ16 i16 (((gH_CT σ16 i16) - (nI (1))))) i16 (by omega)) gH_H_forgetBookmarksUnlessCounted (by decide +kernel) rfl rfl rfl ⟨rfl, rfl⟩ ⟨Nat.le_of_ble_eq_true rfl, Nat.le_of_ble_eq_true rfl⟩ ⟨Nat.zero_le _, Nat.zero_le _⟩ hl.1 rfl (Nat.le_of_ble_eq_true rfl) dH_bringIn_43 (fun H locs Y => ?_)
          refine lv_iinc (v := (nI (i16 + 1))) (lv' := [(2, .int (nI (i16 + 1))), (0, .ref (a 0)), (1, .int (nI (v)))]) hx hb dH_bringIn_46 hl (k := 2) rfl (nI_1 _) (by decide) rfl (fun ls hl => ?_)
          refine lv_goto (tgt := 16) hx hb dH_bringIn_49 (by decide) ?_
          exact ih16 (i16 + 1) (h_forget i16 (uH_CT σ16 i16 (((gH_CT σ16 i16) - (nI (1)))))) (by omega) (by omega) (by show h_bi1 v i16 (fldN (h_bi1 v) (uH_US (uH_ST s v (⟨1, by omega⟩)) v false) i16) = _; rw [eσ16]; simp [h_bi1, h19, h28]) _ _ _ Y (lv_sub hl [1, 2, 0] rfl)
  exact loop16 (8 + 1) 0 ((uH_US (uH_ST s v (⟨1, by omega⟩)) v false)) (by omega) (by omega) (fldN_zero) _ _ _ Y (lv_sub hl [1, 2, 0] rfl)
set_option maxHeartbeats 1000000 in
set_option maxRecDepth 100000 in
theorem tH_makeRoomForPage (l : Launch) (g : GG) (a : Nat → Nat) (ha : apH a) (s : HS)  : Cv l g (wldH g a) (adH a) yH_makeRoomForPage kH_makeRoomForPage ({ frames := 3, cells := 0, slots := 0, locals := 66 }) [.ref (a 0)] s (h_room s) := by
  have hD := wldH_D (g := g) ha
  refine Cv.of (own := RH) (cc := cH_makeRoomForPage) (nL := 1) hD (by decide) rfl (Nat.le_of_ble_eq_true rfl) ?_
  intro p e S m args below meth c Q X ret H locs ls Y hl
  have hx := X.1
  have hb := X.2.1
  have hl : lv_has ls 1 [(0, .ref (a 0))] := hl
  refine lv_aload_n hx hb dH_makeRoomForPage_0 rfl (lv_at hl 0 rfl) ?_
  refine cl_vi (na := 0) (rest := []) X hD Y (tH_pagesIn l g a ha s  ) gH_H_pagesIn (by decide +kernel) rfl rfl rfl ⟨rfl, rfl⟩ ⟨Nat.le_of_ble_eq_true rfl, Nat.le_of_ble_eq_true rfl⟩ ⟨Nat.zero_le _, Nat.zero_le _⟩ hl.1 rfl (Nat.le_of_ble_eq_true rfl) dH_makeRoomForPage_1 (fun H locs Y => ?_)
  have hf1 := h_in_le s
  refine lv_aload_n hx hb dH_makeRoomForPage_4 rfl (lv_at hl 0 rfl) ?_
  refine rH_BU X Y dH_makeRoomForPage_5 ?_
  have hq2 := (gH_BU s).isLt
  refine bn_lt (tgt := 20) hx hb dH_makeRoomForPage_8 (by decide) (by omega) (by omega) (fun h8 => ?_) (fun h8 => ?_)
  · skip
    have E : s = h_room s := by first | (rw [h_room, if_pos h8]) | (rw [h_room, if_neg (Nat.not_lt_of_le h8)])
    rw [E] at Y
    exact ret _ _ _ _ Y dH_makeRoomForPage_20
  · skip
    refine lv_aload_n hx hb dH_makeRoomForPage_11 rfl (lv_at hl 0 rfl) ?_
    refine lv_aload_n hx hb dH_makeRoomForPage_12 rfl (lv_at hl 0 rfl) ?_
    refine lv_iconst (v := (-1)) hx hb dH_makeRoomForPage_13 (by decide) ?_
    refine cl_vi (na := 1) (rest := [.ref (a 0)]) X hD Y (tH_choose l g a ha s ((-1)) ) gH_H_choose (by decide +kernel) rfl rfl rfl ⟨rfl, rfl⟩ ⟨Nat.le_of_ble_eq_true rfl, Nat.le_of_ble_eq_true rfl⟩ ⟨Nat.zero_le _, Nat.zero_le _⟩ hl.1 rfl (Nat.le_of_ble_eq_true rfl) dH_makeRoomForPage_14 (fun H locs Y => ?_)
    have hf3 := h_chp_lt s ((-1))
    refine cl_vv (na := 1) (rest := []) X hD Y (tH_putOut l g a ha (h_cho s ((-1))) (h_chp s ((-1))) (by omega)) gH_H_putOut (by decide +kernel) rfl rfl rfl ⟨rfl, rfl⟩ ⟨Nat.le_of_ble_eq_true rfl, Nat.le_of_ble_eq_true rfl⟩ ⟨Nat.zero_le _, Nat.zero_le _⟩ hl.1 rfl (Nat.le_of_ble_eq_true rfl) dH_makeRoomForPage_17 (fun H locs Y => ?_)
    have E : h_putOut (h_chp s ((-1))) (h_cho s ((-1))) = h_room s := by first | (rw [h_room, if_pos h8]) | (rw [h_room, if_neg (Nat.not_lt_of_le h8)])
    rw [E] at Y
    exact ret _ _ _ _ Y dH_makeRoomForPage_20
set_option maxHeartbeats 1000000 in
set_option maxRecDepth 100000 in
theorem tH_touch (l : Launch) (g : GG) (a : Nat → Nat) (ha : apH a) (s : HS) (v : Nat) (hv : v < 8) : Cv l g (wldH g a) (adH a) yH_touch kH_touch ({ frames := 4, cells := 0, slots := 0, locals := 86 }) [.ref (a 0), .int (nI (v))] s (h_touch v s) := by
  have hD := wldH_D (g := g) ha
  refine Cv.of (own := RH) (cc := cH_touch) (nL := 2) hD (by decide) rfl (Nat.le_of_ble_eq_true rfl) ?_
  intro p e S m args below meth c Q X ret H locs ls Y hl
  have hx := X.1
  have hb := X.2.1
  have hl : lv_has ls 2 [(0, .ref (a 0)), (1, .int (nI (v)))] := hl
  refine lv_aload_n hx hb dH_touch_0 rfl (lv_at hl 0 rfl) ?_
  refine rH_ST X Y dH_touch_1 ?_
  refine lv_iload_n hx hb dH_touch_4 rfl (lv_at hl 1 rfl) ?_
  refine lH_ST X Y (k := v) (by omega) dH_touch_5 ?_
  have hq1 := (gH_ST s v).isLt
  refine lv_iconst (v := (nI (2))) hx hb dH_touch_6 (by decide) ?_
  refine bn_ne (tgt := 29) hx hb dH_touch_7 (by decide) (by omega) (by omega) (fun h7 => ?_) (fun h7 => ?_)
  · skip
    refine lv_aload_n hx hb dH_touch_29 rfl (lv_at hl 0 rfl) ?_
    refine rH_US X Y dH_touch_30 ?_
    refine lv_iload_n hx hb dH_touch_33 rfl (lv_at hl 1 rfl) ?_
    refine lv_iconst (v := (nI (1))) hx hb dH_touch_34 (by decide) ?_
    refine sH_US X Y (k := v) true (by decide) (by omega) dH_touch_35 (fun H locs Y => ?_)
    have E : uH_US s v true = h_touch v s := by simp [h_touch, h_fi, h7]
    rw [E] at Y
    exact ret _ _ _ _ Y dH_touch_36
  · skip
    refine lv_aload_n hx hb dH_touch_10 rfl (lv_at hl 0 rfl) ?_
    refine lv_dup hx hb dH_touch_11 rfl ?_
    refine rH_FA X Y dH_touch_12 ?_
    refine lv_iconst (v := (nI (1))) hx hb dH_touch_15 (by decide) ?_
    refine lv_iadd hx hb dH_touch_16 ?_
    refine pH_FA X Y (((gH_FA s) + (nI (1)))) rfl dH_touch_17 (fun H locs Y => ?_)
    refine lv_aload_n hx hb dH_touch_20 rfl (lv_at hl 0 rfl) ?_
    refine cl_vv (na := 0) (rest := []) X hD Y (tH_makeRoomForPage l g a ha (uH_FA s (((gH_FA s) + (nI (1)))))  ) gH_H_makeRoomForPage (by decide +kernel) rfl rfl rfl ⟨rfl, rfl⟩ ⟨Nat.le_of_ble_eq_true rfl, Nat.le_of_ble_eq_true rfl⟩ ⟨Nat.zero_le _, Nat.zero_le _⟩ hl.1 rfl (Nat.le_of_ble_eq_true rfl) dH_touch_21 (fun H locs Y => ?_)
    refine lv_aload_n hx hb dH_touch_24 rfl (lv_at hl 0 rfl) ?_
    refine lv_iload_n hx hb dH_touch_25 rfl (lv_at hl 1 rfl) ?_
    refine cl_vv (na := 1) (rest := []) X hD Y (tH_bringIn l g a ha (h_room (uH_FA s (((gH_FA s) + (nI (1)))))) v (by omega)) gH_H_bringIn (by decide +kernel) rfl rfl rfl ⟨rfl, rfl⟩ ⟨Nat.le_of_ble_eq_true rfl, Nat.le_of_ble_eq_true rfl⟩ ⟨Nat.zero_le _, Nat.zero_le _⟩ hl.1 rfl (Nat.le_of_ble_eq_true rfl) dH_touch_26 (fun H locs Y => ?_)
    refine lv_aload_n hx hb dH_touch_29 rfl (lv_at hl 0 rfl) ?_
    refine rH_US X Y dH_touch_30 ?_
    refine lv_iload_n hx hb dH_touch_33 rfl (lv_at hl 1 rfl) ?_
    refine lv_iconst (v := (nI (1))) hx hb dH_touch_34 (by decide) ?_
    refine sH_US X Y (k := v) true (by decide) (by omega) dH_touch_35 (fun H locs Y => ?_)
    have E : uH_US (h_bringIn v (h_room (uH_FA s (((gH_FA s) + (nI (1))))))) v true = h_touch v s := by simp [h_touch, h_fi, h7]
    rw [E] at Y
    exact ret _ _ _ _ Y dH_touch_36
set_option maxHeartbeats 1000000 in
set_option maxRecDepth 100000 in
theorem tH_bringInAll (l : Launch) (g : GG) (a : Nat → Nat) (ha : apH a) (s : HS)  : Cv l g (wldH g a) (adH a) yH_bringInAll kH_bringInAll ({ frames := 3, cells := 0, slots := 0, locals := 66 }) [.ref (a 0)] s (h_bringAll s) := by
  have hD := wldH_D (g := g) ha
  refine Cv.of (own := RH) (cc := cH_bringInAll) (nL := 2) hD (by decide) rfl (Nat.le_of_ble_eq_true rfl) ?_
  intro p e S m args below meth c Q X ret H locs ls Y hl
  have hx := X.1
  have hb := X.2.1
  have hl : lv_has ls 2 [(0, .ref (a 0))] := hl
  refine lv_iconst (v := (nI (0))) hx hb dH_bringInAll_0 (by decide) ?_
  refine lv_istore_n (lv' := [(1, .int (nI (0))), (0, .ref (a 0))]) hx hb dH_bringInAll_1 rfl hl (by decide) rfl (fun ls hl => ?_)
  have loop2 : ∀ (n2 i2 : Nat) (σ2 : HS), i2 ≤ 8 → 8 < i2 + n2 → (fldN h_ba1 s i2 = σ2) → ∀ (H : Heap) (locs : List Loc) (ls : Array Slot), Yw g (wldH g a) (adH a) S H locs σ2 → lv_has ls 2 [(0, .ref (a 0)), (1, .int (nI (i2)))] → W p l e ({ frames := 3, cells := 0, slots := 0, locals := 66 }) S m args below meth c H locs 0 0 Q (F0 m 2 ls []) := by
    intro n2
    induction n2 with
    | zero =>
      intro i2 σ2 b1 b2
      exact absurd b2 (by omega)
    | succ n2 ih2 =>
      intro i2 σ2 hi2 hn2 eσ2 H locs ls Y hl
      refine lv_iload_n hx hb dH_bringInAll_2 rfl (lv_at hl 1 rfl) ?_
      refine lv_bipush (v := (nI (8))) hx hb dH_bringInAll_3 (by decide) ?_
      refine bn_ge (tgt := 39) hx hb dH_bringInAll_5 (by decide) (by omega) (by omega) (fun h5 => ?_) (fun h5 => ?_)
      · skip
        obtain rfl : i2 = 8 := by omega
        subst eσ2
        have E : (fldN h_ba1 s 8) = h_bringAll s := rfl
        rw [E] at Y
        exact ret _ _ _ _ Y dH_bringInAll_39
      · skip
        refine lv_aload_n hx hb dH_bringInAll_8 rfl (lv_at hl 0 rfl) ?_
        refine rH_ST X Y dH_bringInAll_9 ?_
        refine lv_iload_n hx hb dH_bringInAll_12 rfl (lv_at hl 1 rfl) ?_
        refine lH_ST X Y (k := i2) (by omega) dH_bringInAll_13 ?_
        have hq1 := (gH_ST σ2 i2).isLt
        refine lv_iconst (v := (nI (2))) hx hb dH_bringInAll_14 (by decide) ?_
        refine bn_ne (tgt := 33) hx hb dH_bringInAll_15 (by decide) (by omega) (by omega) (fun h15 => ?_) (fun h15 => ?_)
        · skip
          refine lv_iinc (v := (nI (i2 + 1))) (lv' := [(1, .int (nI (i2 + 1))), (0, .ref (a 0))]) hx hb dH_bringInAll_33 hl (k := 1) rfl (nI_1 _) (by decide) rfl (fun ls hl => ?_)
          refine lv_goto (tgt := 2) hx hb dH_bringInAll_36 (by decide) ?_
          exact ih2 (i2 + 1) σ2 (by omega) (by omega) (by show h_ba1 i2 (fldN h_ba1 s i2) = _; rw [eσ2]; simp [h_ba1, h_fi, h5, h15]) _ _ _ Y (lv_sub hl [1, 0] rfl)
        · skip
          refine lv_aload_n hx hb dH_bringInAll_18 rfl (lv_at hl 0 rfl) ?_
          refine lv_dup hx hb dH_bringInAll_19 rfl ?_
          refine rH_FA X Y dH_bringInAll_20 ?_
          refine lv_iconst (v := (nI (1))) hx hb dH_bringInAll_23 (by decide) ?_
          refine lv_iadd hx hb dH_bringInAll_24 ?_
          refine pH_FA X Y (((gH_FA σ2) + (nI (1)))) rfl dH_bringInAll_25 (fun H locs Y => ?_)
          refine lv_aload_n hx hb dH_bringInAll_28 rfl (lv_at hl 0 rfl) ?_
          refine lv_iload_n hx hb dH_bringInAll_29 rfl (lv_at hl 1 rfl) ?_
          refine cl_vv (na := 1) (rest := []) X hD Y (tH_bringIn l g a ha (uH_FA σ2 (((gH_FA σ2) + (nI (1))))) i2 (by omega)) gH_H_bringIn (by decide +kernel) rfl rfl rfl ⟨rfl, rfl⟩ ⟨Nat.le_of_ble_eq_true rfl, Nat.le_of_ble_eq_true rfl⟩ ⟨Nat.zero_le _, Nat.zero_le _⟩ hl.1 rfl (Nat.le_of_ble_eq_true rfl) dH_bringInAll_30 (fun H locs Y => ?_)
          refine lv_iinc (v := (nI (i2 + 1))) (lv' := [(1, .int (nI (i2 + 1))), (0, .ref (a 0))]) hx hb dH_bringInAll_33 hl (k := 1) rfl (nI_1 _) (by decide) rfl (fun ls hl => ?_)
          refine lv_goto (tgt := 2) hx hb dH_bringInAll_36 (by decide) ?_
          exact ih2 (i2 + 1) (h_bringIn i2 (uH_FA σ2 (((gH_FA σ2) + (nI (1)))))) (by omega) (by omega) (by show h_ba1 i2 (fldN h_ba1 s i2) = _; rw [eσ2]; simp [h_ba1, h_fi, h5, h15]) _ _ _ Y (lv_sub hl [1, 0] rfl)
  exact loop2 (8 + 1) 0 s (by omega) (by omega) (fldN_zero) _ _ _ Y (lv_sub hl [1, 0] rfl)
set_option maxHeartbeats 1000000 in
set_option maxRecDepth 100000 in
theorem tH_putOutBeyondBudget (l : Launch) (g : GG) (a : Nat → Nat) (ha : apH a) (s : HS) (sp : Int32) : Ci l g (wldH g a) (adH a) yH_putOutBeyondBudget kH_putOutBeyondBudget ({ frames := 3, cells := 0, slots := 0, locals := 66 }) [.ref (a 0), .int (sp)] s (nI (h_byn s)) (h_beyond sp s) := by
  have hD := wldH_D (g := g) ha
  refine Ci.of (own := RH) (cc := cH_putOutBeyondBudget) (nL := 4) hD (by decide) rfl (Nat.le_of_ble_eq_true rfl) ?_
  intro p e S m args below meth c Q X ret H locs ls Y hl
  have hx := X.1
  have hb := X.2.1
  have hl : lv_has ls 4 [(0, .ref (a 0)), (1, .int (sp))] := hl
  refine lv_iconst (v := (nI (0))) hx hb dH_putOutBeyondBudget_0 (by decide) ?_
  refine lv_istore_n (lv' := [(2, .int (nI (0))), (0, .ref (a 0)), (1, .int (sp))]) hx hb dH_putOutBeyondBudget_1 rfl hl (by decide) rfl (fun ls hl => ?_)
  refine lv_aload_n hx hb dH_putOutBeyondBudget_2 rfl (lv_at hl 1 rfl) ?_
  refine cl_vi (na := 0) (rest := []) X hD Y (tH_pagesIn l g a ha s  ) gH_H_pagesIn (by decide +kernel) rfl rfl rfl ⟨rfl, rfl⟩ ⟨Nat.le_of_ble_eq_true rfl, Nat.le_of_ble_eq_true rfl⟩ ⟨Nat.zero_le _, Nat.zero_le _⟩ hl.1 rfl (Nat.le_of_ble_eq_true rfl) dH_putOutBeyondBudget_3 (fun H locs Y => ?_)
  have hf1 := h_in_le s
  refine lv_istore_n (lv' := [(3, .int (nI (h_in s))), (2, .int (nI (0))), (0, .ref (a 0)), (1, .int (sp))]) hx hb dH_putOutBeyondBudget_6 rfl hl (by decide) rfl (fun ls hl => ?_)
  have loop7 : ∀ (n7 i7 : Nat) (σ7 : HS), i7 ≤ h_byn s → h_byn s < i7 + n7 → (fldN (h_by1 sp) s i7 = σ7) → ((gH_BU σ7).val = (gH_BU s).val) → ∀ (H : Heap) (locs : List Loc) (ls : Array Slot), Yw g (wldH g a) (adH a) S H locs σ7 → lv_has ls 4 [(0, .ref (a 0)), (1, .int (sp)), (2, .int (nI (i7))), (3, .int (nI (h_in s - i7)))] → W p l e ({ frames := 3, cells := 0, slots := 0, locals := 66 }) S m args below meth c H locs 0 0 Q (F0 m 7 ls []) := by
    intro n7
    induction n7 with
    | zero =>
      intro i7 σ7 b1 b2
      exact absurd b2 (by omega)
    | succ n7 ih7 =>
      intro i7 σ7 hi7 hn7 eσ7 hbu H locs ls Y hl
      have hin := h_in_le s
      have hby : h_byn s = h_in s - (gH_BU s).val := rfl
      refine lv_iload_n hx hb dH_putOutBeyondBudget_7 rfl (lv_at hl 3 rfl) ?_
      refine lv_aload_n hx hb dH_putOutBeyondBudget_8 rfl (lv_at hl 0 rfl) ?_
      refine rH_BU X Y dH_putOutBeyondBudget_9 ?_
      have hq2 := (gH_BU σ7).isLt
      refine bn_le (tgt := 33) hx hb dH_putOutBeyondBudget_12 (by decide) (by omega) (by omega) (fun h12 => ?_) (fun h12 => ?_)
      · skip
        obtain rfl : i7 = h_byn s := by omega
        subst eσ7
        refine lv_iload_n hx hb dH_putOutBeyondBudget_33 rfl (lv_at hl 2 rfl) ?_
        have E : (fldN (h_by1 sp) s (h_byn s)) = h_beyond sp s := rfl
        rw [E] at Y
        exact ret _ _ _ _ _ Y (rfl) dH_putOutBeyondBudget_34
      · skip
        refine lv_aload_n hx hb dH_putOutBeyondBudget_15 rfl (lv_at hl 0 rfl) ?_
        refine lv_aload_n hx hb dH_putOutBeyondBudget_16 rfl (lv_at hl 0 rfl) ?_
        refine lv_iload_n hx hb dH_putOutBeyondBudget_17 rfl (lv_at hl 1 rfl) ?_
        refine cl_vi (na := 1) (rest := [.ref (a 0)]) X hD Y (tH_choose l g a ha σ7 ((sp)) ) gH_H_choose (by decide +kernel) rfl rfl rfl ⟨rfl, rfl⟩ ⟨Nat.le_of_ble_eq_true rfl, Nat.le_of_ble_eq_true rfl⟩ ⟨Nat.zero_le _, Nat.zero_le _⟩ hl.1 rfl (Nat.le_of_ble_eq_true rfl) dH_putOutBeyondBudget_18 (fun H locs Y => ?_)
        have hf3 := h_chp_lt σ7 ((sp))
        refine cl_vv (na := 1) (rest := []) X hD Y (tH_putOut l g a ha (h_cho σ7 ((sp))) (h_chp σ7 ((sp))) (by omega)) gH_H_putOut (by decide +kernel) rfl rfl rfl ⟨rfl, rfl⟩ ⟨Nat.le_of_ble_eq_true rfl, Nat.le_of_ble_eq_true rfl⟩ ⟨Nat.zero_le _, Nat.zero_le _⟩ hl.1 rfl (Nat.le_of_ble_eq_true rfl) dH_putOutBeyondBudget_21 (fun H locs Y => ?_)
        refine lv_iinc (v := (nI (i7 + 1))) (lv' := [(2, .int (nI (i7 + 1))), (0, .ref (a 0)), (1, .int (sp)), (3, .int (nI (h_in s - i7)))]) hx hb dH_putOutBeyondBudget_24 hl (k := 2) rfl (nI_1 _) (by decide) rfl (fun ls hl => ?_)
        refine lv_iinc (v := (nI (h_in s - i7 - 1))) (lv' := [(3, .int (nI (h_in s - i7 - 1))), (2, .int (nI (i7 + 1))), (0, .ref (a 0)), (1, .int (sp))]) hx hb dH_putOutBeyondBudget_27 hl (k := 3) rfl (bn_dec (by omega)) (by decide) rfl (fun ls hl => ?_)
        refine lv_goto (tgt := 7) hx hb dH_putOutBeyondBudget_30 (by decide) ?_
        exact ih7 (i7 + 1) (h_putOut (h_chp σ7 ((sp))) (h_cho σ7 ((sp)))) (by omega) (by omega) (by show h_by1 sp i7 (fldN (h_by1 sp) s i7) = _; rw [eσ7]; simp [h_by1, h12]) ((congrArg Fin.val (bu_by1 sp i7 σ7)).trans hbu) _ _ _ Y (lv_sub hl [2, 3, 1, 0] rfl)
  exact loop7 ((h_byn s) + 1) 0 s (by omega) (by omega) (fldN_zero) (rfl) _ _ _ Y (lv_sub hl [2, 3, 1, 0] rfl)
end
section
/-! written by wip/whole/specH.py -/
set_option maxHeartbeats 1000000 in
set_option maxRecDepth 100000 in
theorem tH_keep (l : Launch) (g : GG) (a : Nat → Nat) (ha : apH a) (s : HS) (x : Option (Fin 32)) (hks : KI s) : Cv l g (wldH g a) (adH a) yH_keep kH_keep ({ frames := 1, cells := 0, slots := 0, locals := 20 }) [.ref (a 0), .int (oI (x))] s (h_keep x s) := by
  have hD := wldH_D (g := g) ha
  refine Cv.of (own := RH) (cc := cH_keep) (nL := 2) hD (by decide) rfl (Nat.le_of_ble_eq_true rfl) ?_
  intro p e S m args below meth c Q X ret H locs ls Y hl
  have hx := X.1
  have hb := X.2.1
  have hl : lv_has ls 2 [(0, .ref (a 0)), (1, .int (oI (x)))] := hl
  refine lv_iload_n hx hb dH_keep_0 rfl (lv_at hl 1 rfl) ?_
  refine lv_iconst (v := (-1)) hx hb dH_keep_1 (by decide) ?_
  refine bo_eq (tgt := 27) hx hb dH_keep_2 (by decide) (fun h2 => ?_) (fun k1 h2 => ?_)
  · skip
    have E : s = h_keep x s := by first | (simp [h_keep, h2]; done) | (simp [h_keep, h2]; rfl)
    rw [E] at Y
    exact ret _ _ _ _ Y dH_keep_27
  · skip
    have hq2 := k1.isLt
    refine lv_aload_n hx hb dH_keep_5 rfl (lv_at hl 0 rfl) ?_
    refine rH_KP X Y dH_keep_6 ?_
    refine lv_iload_n hx hb dH_keep_9 rfl (lv_at hl 1 rfl) ?_
    refine bn_top (y := nI k1.val) (by rw [h2]; rfl) ?_
    refine lH_KP X Y (k := k1.val) (by omega) dH_keep_10 ?_
    refine bb_ne (tgt := 27) hx hb dH_keep_11 (by decide) (fun h11 => ?_) (fun h11 => ?_)
    · skip
      have E : s = h_keep x s := by first | (simp [h_keep, h2, h11]; done) | (simp [h_keep, h2, h11]; rfl)
      rw [E] at Y
      exact ret _ _ _ _ Y dH_keep_27
    · skip
      have hkl := KI_lt hks (k := k1.val) (by omega) h11
      have hkl2 : gH_KS (uH_KP s k1.val true) < 32 := hkl
      refine lv_aload_n hx hb dH_keep_14 rfl (lv_at hl 0 rfl) ?_
      refine rH_ST X Y dH_keep_15 ?_
      refine lv_iload_n hx hb dH_keep_18 rfl (lv_at hl 1 rfl) ?_
      refine bn_top (y := nI k1.val) (by rw [h2]; rfl) ?_
      refine cl_s (na := 1) (rest := [.ref (a 6)]) X Y (tH_pageOf l k1.val (by omega)) gH_H_pageOf (by decide +kernel) rfl ⟨rfl, rfl⟩ ⟨Nat.le_of_ble_eq_true rfl, Nat.le_of_ble_eq_true rfl⟩ ⟨Nat.zero_le _, Nat.zero_le _⟩ hl.1 rfl (Nat.le_of_ble_eq_true rfl) dH_keep_19 (fun H locs Y => ?_)
      refine lH_ST X Y (k := k1.val / 4) (by omega) dH_keep_22 ?_
      have hq4 := (gH_ST s (k1.val / 4)).isLt
      refine lv_iconst (v := (nI (1))) hx hb dH_keep_23 (by decide) ?_
      refine bn_eq (tgt := 28) hx hb dH_keep_24 (by decide) (by omega) (by omega) (fun h24 => ?_) (fun h24 => ?_)
      · skip
        refine lv_aload_n hx hb dH_keep_28 rfl (lv_at hl 0 rfl) ?_
        refine rH_KP X Y dH_keep_29 ?_
        refine lv_iload_n hx hb dH_keep_32 rfl (lv_at hl 1 rfl) ?_
        refine bn_top (y := nI k1.val) (by rw [h2]; rfl) ?_
        refine lv_iconst (v := (nI (1))) hx hb dH_keep_33 (by decide) ?_
        refine sH_KP X Y (k := k1.val) true (by decide) (by omega) dH_keep_34 (fun H locs Y => ?_)
        refine lv_aload_n hx hb dH_keep_35 rfl (lv_at hl 0 rfl) ?_
        refine rH_KL X Y dH_keep_36 ?_
        refine lv_aload_n hx hb dH_keep_39 rfl (lv_at hl 0 rfl) ?_
        refine rH_KS X Y dH_keep_40 ?_
        refine lv_iload_n hx hb dH_keep_43 rfl (lv_at hl 1 rfl) ?_
        refine bn_top (y := nI k1.val) (by rw [h2]; rfl) ?_
        refine sH_KL X Y (k := gH_KS (uH_KP s k1.val true)) (⟨k1.val, by omega⟩) rfl (by omega) dH_keep_44 (fun H locs Y => ?_)
        refine lv_aload_n hx hb dH_keep_45 rfl (lv_at hl 0 rfl) ?_
        refine lv_dup hx hb dH_keep_46 rfl ?_
        refine rH_KS X Y dH_keep_47 ?_
        refine lv_iconst (v := (nI (1))) hx hb dH_keep_50 (by decide) ?_
        refine bn_add hx hb dH_keep_51 ?_
        refine pH_KS X Y ((gH_KS (uH_KL (uH_KP s k1.val true) (gH_KS (uH_KP s k1.val true)) (⟨k1.val, by omega⟩))) + 1) rfl dH_keep_52 (fun H locs Y => ?_)
        have E : uH_KS (uH_KL (uH_KP s k1.val true) (gH_KS (uH_KP s k1.val true)) (⟨k1.val, by omega⟩)) ((gH_KS (uH_KL (uH_KP s k1.val true) (gH_KS (uH_KP s k1.val true)) (⟨k1.val, by omega⟩))) + 1) = h_keep x s := by first | (simp [h_keep, h2, h11, h24]; done) | (simp [h_keep, h2, h11, h24]; rfl)
        rw [E] at Y
        exact ret _ _ _ _ Y dH_keep_55
      · skip
        have E : s = h_keep x s := by first | (simp [h_keep, h2, h11, h24]; done) | (simp [h_keep, h2, h11, h24]; rfl)
        rw [E] at Y
        exact ret _ _ _ _ Y dH_keep_27
set_option maxHeartbeats 1000000 in
set_option maxRecDepth 100000 in
theorem tH_remove (l : Launch) (g : GG) (a : Nat → Nat) (ha : apH a) (s : HS) (q : Nat) (hq : q < 32) : Cv l g (wldH g a) (adH a) yH_remove kH_remove ({ frames := 0, cells := 0, slots := 0, locals := 0 }) [.ref (a 0), .int (nI (q))] s (h_remove q s) := by
  have hD := wldH_D (g := g) ha
  refine Cv.of (own := RH) (cc := cH_remove) (nL := 3) hD (by decide) rfl (Nat.le_of_ble_eq_true rfl) ?_
  intro p e S m args below meth c Q X ret H locs ls Y hl
  have hx := X.1
  have hb := X.2.1
  have hl : lv_has ls 3 [(0, .ref (a 0)), (1, .int (nI (q)))] := hl
  refine lv_aload_n hx hb dH_remove_0 rfl (lv_at hl 0 rfl) ?_
  refine rH_TK X Y dH_remove_1 ?_
  refine lv_iload_n hx hb dH_remove_4 rfl (lv_at hl 1 rfl) ?_
  refine lv_iconst (v := (nI (0))) hx hb dH_remove_5 (by decide) ?_
  refine sH_TK X Y (k := q) false (by decide) (by omega) dH_remove_6 (fun H locs Y => ?_)
  refine lv_iconst (v := (nI (0))) hx hb dH_remove_7 (by decide) ?_
  refine lv_istore_n (lv' := [(2, .int (nI (0))), (0, .ref (a 0)), (1, .int (nI (q)))]) hx hb dH_remove_8 rfl hl (by decide) rfl (fun ls hl => ?_)
  have loop9 : ∀ (n9 i9 : Nat) (σ9 : HS), i9 ≤ 2 → 2 < i9 + n9 → (fldN (h_rm1 q) (uH_TK s q false) i9 = σ9) → ∀ (H : Heap) (locs : List Loc) (ls : Array Slot), Yw g (wldH g a) (adH a) S H locs σ9 → lv_has ls 3 [(0, .ref (a 0)), (1, .int (nI (q))), (2, .int (nI (i9)))] → W p l e ({ frames := 0, cells := 0, slots := 0, locals := 0 }) S m args below meth c H locs 0 0 Q (F0 m 9 ls []) := by
    intro n9
    induction n9 with
    | zero =>
      intro i9 σ9 b1 b2
      exact absurd b2 (by omega)
    | succ n9 ih9 =>
      intro i9 σ9 hi9 hn9 eσ9 H locs ls Y hl
      refine lv_iload_n hx hb dH_remove_9 rfl (lv_at hl 2 rfl) ?_
      refine lv_iconst (v := (nI (2))) hx hb dH_remove_10 (by decide) ?_
      refine bn_ge (tgt := 31) hx hb dH_remove_11 (by decide) (by omega) (by omega) (fun h11 => ?_) (fun h11 => ?_)
      · skip
        obtain rfl : i9 = 2 := by omega
        subst eσ9
        have E : (fldN (h_rm1 q) (uH_TK s q false) 2) = h_remove q s := rfl
        rw [E] at Y
        exact ret _ _ _ _ Y dH_remove_31
      · skip
        refine lv_aload_n hx hb dH_remove_14 rfl (lv_at hl 0 rfl) ?_
        refine rH_FD X Y dH_remove_15 ?_
        refine lv_iconst (v := (nI (2))) hx hb dH_remove_18 (by decide) ?_
        refine lv_iload_n hx hb dH_remove_19 rfl (lv_at hl 1 rfl) ?_
        refine bn_mul hx hb dH_remove_20 ?_
        refine lv_iload_n hx hb dH_remove_21 rfl (lv_at hl 2 rfl) ?_
        refine bn_add hx hb dH_remove_22 ?_
        refine lv_iconst (v := (-1)) hx hb dH_remove_23 (by decide) ?_
        refine sH_FD X Y (k := (2 * q) + i9) none rfl (by omega) dH_remove_24 (fun H locs Y => ?_)
        refine lv_iinc (v := (nI (i9 + 1))) (lv' := [(2, .int (nI (i9 + 1))), (0, .ref (a 0)), (1, .int (nI (q)))]) hx hb dH_remove_25 hl (k := 2) rfl (nI_1 _) (by decide) rfl (fun ls hl => ?_)
        refine lv_goto (tgt := 9) hx hb dH_remove_28 (by decide) ?_
        exact ih9 (i9 + 1) (uH_FD σ9 ((2 * q) + i9) none) (by omega) (by omega) (by show h_rm1 q i9 (fldN (h_rm1 q) (uH_TK s q false) i9) = _; rw [eσ9]; simp [h_rm1, h11]) _ _ _ Y (lv_sub hl [1, 2, 0] rfl)
  exact loop9 (2 + 1) 0 ((uH_TK s q false)) (by omega) (by omega) (fldN_zero) _ _ _ Y (lv_sub hl [1, 2, 0] rfl)
set_option maxHeartbeats 1000000 in
set_option maxRecDepth 100000 in
theorem tH_isBare (l : Launch) (g : GG) (a : Nat → Nat) (ha : apH a) (s : HS) (v : Nat) (hv : v < 8) : Ci l g (wldH g a) (adH a) yH_isBare kH_isBare ({ frames := 1, cells := 0, slots := 0, locals := 20 }) [.ref (a 0), .int (nI (v))] s (bI (h_bare s v)) s := by
  have hD := wldH_D (g := g) ha
  refine Ci.ofZ (own := RH) (cc := cH_isBare) (nL := 4) hD (by decide) rfl (Nat.le_of_ble_eq_true rfl) ?_
  intro p e S m args below meth c Q X ret H locs ls Y hl
  have hx := X.1
  have hb := X.2.1
  have hl : lv_has ls 4 [(0, .ref (a 0)), (1, .int (nI (v)))] := hl
  refine lv_iload_n hx hb dH_isBare_0 rfl (lv_at hl 1 rfl) ?_
  refine cl_s (na := 1) (rest := []) X Y (tH_firstPlaceOf l v ) gH_H_firstPlaceOf (by decide +kernel) rfl ⟨rfl, rfl⟩ ⟨Nat.le_of_ble_eq_true rfl, Nat.le_of_ble_eq_true rfl⟩ ⟨Nat.zero_le _, Nat.zero_le _⟩ hl.1 rfl (Nat.le_of_ble_eq_true rfl) dH_isBare_1 (fun H locs Y => ?_)
  refine lv_istore_n (lv' := [(2, .int (nI (4 * v))), (0, .ref (a 0)), (1, .int (nI (v)))]) hx hb dH_isBare_4 rfl hl (by decide) rfl (fun ls hl => ?_)
  refine lv_iload_n hx hb dH_isBare_5 rfl (lv_at hl 0 rfl) ?_
  refine lv_istore_n (lv' := [(3, .int (nI (4 * v))), (2, .int (nI (4 * v))), (0, .ref (a 0)), (1, .int (nI (v)))]) hx hb dH_isBare_6 rfl hl (by decide) rfl (fun ls hl => ?_)
  have loop7 : ∀ (n7 i7 : Nat), i7 ≤ 4 → 4 < i7 + n7 → (∀ j, j < i7 → h_bab s v j = false) → ∀ (H : Heap) (locs : List Loc) (ls : Array Slot), Yw g (wldH g a) (adH a) S H locs s → lv_has ls 4 [(2, .int (nI (4 * v))), (0, .ref (a 0)), (1, .int (nI (v))), (3, .int (nI (4 * v + i7)))] → W p l e ({ frames := 1, cells := 0, slots := 0, locals := 20 }) S m args below meth c H locs 0 0 Q (F0 m 7 ls []) := by
    intro n7
    induction n7 with
    | zero =>
      intro i7 b1 b2
      exact absurd b2 (by omega)
    | succ n7 ih7 =>
      intro i7 hi7 hn7 hno H locs ls Y hl
      refine lv_iload_n hx hb dH_isBare_7 rfl (lv_at hl 3 rfl) ?_
      refine lv_iload_n hx hb dH_isBare_8 rfl (lv_at hl 0 rfl) ?_
      refine lv_iconst (v := (nI (4))) hx hb dH_isBare_9 (by decide) ?_
      refine bn_add hx hb dH_isBare_10 ?_
      refine bn_ge (tgt := 31) hx hb dH_isBare_11 (by decide) (by omega) (by omega) (fun h11 => ?_) (fun h11 => ?_)
      · skip
        refine lv_iconst (v := (nI (1))) hx hb dH_isBare_31 (by decide) ?_
        exact ret _ _ _ _ _ Y (by rw [show h_bare s v = true by (simp only [h_bare]; rw [anyN_f (n := 4) (fun j hj => hno j (by omega))]; rfl)]; decide) dH_isBare_32
      · skip
        refine lv_aload_n hx hb dH_isBare_14 rfl (lv_at hl 1 rfl) ?_
        refine rH_TK X Y dH_isBare_15 ?_
        refine lv_iload_n hx hb dH_isBare_18 rfl (lv_at hl 3 rfl) ?_
        refine lH_TK X Y (k := 4 * v + i7) (by omega) dH_isBare_19 ?_
        refine bb_eq (tgt := 25) hx hb dH_isBare_20 (by decide) (fun h20 => ?_) (fun h20 => ?_)
        · skip
          refine lv_iinc (v := (nI (4 * v + i7 + 1))) (lv' := [(3, .int (nI (4 * v + i7 + 1))), (2, .int (nI (4 * v))), (0, .ref (a 0)), (1, .int (nI (v)))]) hx hb dH_isBare_25 hl (k := 3) rfl (nI_1 _) (by decide) rfl (fun ls hl => ?_)
          refine lv_goto (tgt := 7) hx hb dH_isBare_28 (by decide) ?_
          exact ih7 (i7 + 1) (by omega) (by omega) (lt_s hno (by simp [h_bab, h11, h20])) _ _ _ Y (lv_sub hl [1, 2, 3, 0] rfl)
        · skip
          refine lv_iconst (v := (nI (0))) hx hb dH_isBare_23 (by decide) ?_
          exact ret _ _ _ _ _ Y (by rw [show h_bare s v = false by (simp only [h_bare]; rw [anyN_t (i := i7) (by simp [h_bab, h11, h20]) (by omega)]; rfl)]; decide) dH_isBare_24
  exact loop7 (4 + 1) 0 (by omega) (by omega) (fun j hj => absurd hj (by omega)) _ _ _ Y (lv_sub hl [1, 2, 3, 0] rfl)
set_option maxHeartbeats 1000000 in
set_option maxRecDepth 100000 in
theorem tH_markKept (l : Launch) (g : GG) (a : Nat → Nat) (ha : apH a) (s : HS)  : Cv l g (wldH g a) (adH a) yH_markKept kH_markKept ({ frames := 2, cells := 0, slots := 0, locals := 41 }) [.ref (a 0)] s (h_mark s) := by
  have hD := wldH_D (g := g) ha
  refine Cv.of (own := RH) (cc := cH_markKept) (nL := 3) hD (by decide) rfl (Nat.le_of_ble_eq_true rfl) ?_
  intro p e S m args below meth c Q X ret H locs ls Y hl
  have hx := X.1
  have hb := X.2.1
  have hl : lv_has ls 3 [(0, .ref (a 0))] := hl
  refine lv_iconst (v := (nI (0))) hx hb dH_markKept_0 (by decide) ?_
  refine lv_istore_n (lv' := [(1, .int (nI (0))), (0, .ref (a 0))]) hx hb dH_markKept_1 rfl hl (by decide) rfl (fun ls hl => ?_)
  have loop2 : ∀ (n2 i2 : Nat) (σ2 : HS), i2 ≤ 32 → 32 < i2 + n2 → (fldN h_k0 s i2 = σ2) → ∀ (H : Heap) (locs : List Loc) (ls : Array Slot), Yw g (wldH g a) (adH a) S H locs σ2 → lv_has ls 3 [(0, .ref (a 0)), (1, .int (nI (i2)))] → W p l e ({ frames := 2, cells := 0, slots := 0, locals := 41 }) S m args below meth c H locs 0 0 Q (F0 m 2 ls []) := by
    intro n2
    induction n2 with
    | zero =>
      intro i2 σ2 b1 b2
      exact absurd b2 (by omega)
    | succ n2 ih2 =>
      intro i2 σ2 hi2 hn2 eσ2 H locs ls Y hl
      refine lv_iload_n hx hb dH_markKept_2 rfl (lv_at hl 1 rfl) ?_
      refine lv_bipush (v := (nI (32))) hx hb dH_markKept_3 (by decide) ?_
      refine bn_ge (tgt := 21) hx hb dH_markKept_5 (by decide) (by omega) (by omega) (fun h5 => ?_) (fun h5 => ?_)
      · skip
        obtain rfl : i2 = 32 := by omega
        subst eσ2
        refine lv_aload_n hx hb dH_markKept_21 rfl (lv_at hl 0 rfl) ?_
        refine lv_iconst (v := (nI (0))) hx hb dH_markKept_22 (by decide) ?_
        refine pH_KS X Y 0 rfl dH_markKept_23 (fun H locs Y => ?_)
        refine lv_iconst (v := (nI (0))) hx hb dH_markKept_26 (by decide) ?_
        refine lv_istore_n (lv' := [(1, .int (nI (0))), (0, .ref (a 0))]) hx hb dH_markKept_27 rfl hl (by decide) rfl (fun ls hl => ?_)
        have loop28 : ∀ (n28 i28 : Nat) (σ28 : HS), i28 ≤ 4 → 4 < i28 + n28 → (fldN h_kr (uH_KS ((fldN h_k0 s 32)) 0) i28 = σ28) → (KI σ28) → ∀ (H : Heap) (locs : List Loc) (ls : Array Slot), Yw g (wldH g a) (adH a) S H locs σ28 → lv_has ls 3 [(0, .ref (a 0)), (1, .int (nI (i28)))] → W p l e ({ frames := 2, cells := 0, slots := 0, locals := 41 }) S m args below meth c H locs 0 0 Q (F0 m 28 ls []) := by
          intro n28
          induction n28 with
          | zero =>
            intro i28 σ28 b1 b2
            exact absurd b2 (by omega)
          | succ n28 ih28 =>
            intro i28 σ28 hi28 hn28 eσ28 hki28 H locs ls Y hl
            refine lv_iload_n hx hb dH_markKept_28 rfl (lv_at hl 1 rfl) ?_
            refine lv_iconst (v := (nI (4))) hx hb dH_markKept_29 (by decide) ?_
            refine bn_ge (tgt := 49) hx hb dH_markKept_30 (by decide) (by omega) (by omega) (fun h30 => ?_) (fun h30 => ?_)
            · skip
              obtain rfl : i28 = 4 := by omega
              subst eσ28
              refine lv_iconst (v := (nI (0))) hx hb dH_markKept_49 (by decide) ?_
              refine lv_istore_n (lv' := [(1, .int (nI (0))), (0, .ref (a 0))]) hx hb dH_markKept_50 rfl hl (by decide) rfl (fun ls hl => ?_)
              have loop51 : ∀ (n51 i51 : Nat) (σ51 : HS), i51 ≤ 32 → 32 < i51 + n51 → (fldN h_kb ((fldN h_kr (uH_KS ((fldN h_k0 s 32)) 0) 4)) i51 = σ51) → (KI σ51) → ∀ (H : Heap) (locs : List Loc) (ls : Array Slot), Yw g (wldH g a) (adH a) S H locs σ51 → lv_has ls 3 [(0, .ref (a 0)), (1, .int (nI (i51)))] → W p l e ({ frames := 2, cells := 0, slots := 0, locals := 41 }) S m args below meth c H locs 0 0 Q (F0 m 51 ls []) := by
                intro n51
                induction n51 with
                | zero =>
                  intro i51 σ51 b1 b2
                  exact absurd b2 (by omega)
                | succ n51 ih51 =>
                  intro i51 σ51 hi51 hn51 eσ51 hki51 H locs ls Y hl
                  refine lv_iload_n hx hb dH_markKept_51 rfl (lv_at hl 1 rfl) ?_
                  refine lv_bipush (v := (nI (32))) hx hb dH_markKept_52 (by decide) ?_
                  refine bn_ge (tgt := 77) hx hb dH_markKept_54 (by decide) (by omega) (by omega) (fun h54 => ?_) (fun h54 => ?_)
                  · skip
                    obtain rfl : i51 = 32 := by omega
                    subst eσ51
                    refine lv_iconst (v := (nI (0))) hx hb dH_markKept_77 (by decide) ?_
                    refine lv_istore_n (lv' := [(1, .int (nI (0))), (0, .ref (a 0))]) hx hb dH_markKept_78 rfl hl (by decide) rfl (fun ls hl => ?_)
                    have loop79 : ∀ (n79 i79 : Nat) (σ79 : HS), i79 ≤ 32 → 32 < i79 + n79 → (h_wl (32 - i79) i79 σ79 = h_wl 32 0 ((fldN h_kb ((fldN h_kr (uH_KS ((fldN h_k0 s 32)) 0) 4)) 32))) → (KI σ79) → ∀ (H : Heap) (locs : List Loc) (ls : Array Slot), Yw g (wldH g a) (adH a) S H locs σ79 → lv_has ls 3 [(0, .ref (a 0)), (1, .int (nI (i79)))] → W p l e ({ frames := 2, cells := 0, slots := 0, locals := 41 }) S m args below meth c H locs 0 0 Q (F0 m 79 ls []) := by
                      intro n79
                      induction n79 with
                      | zero =>
                        intro i79 σ79 b1 b2
                        exact absurd b2 (by omega)
                      | succ n79 ih79 =>
                        intro i79 σ79 hi79 hn79 eσ79 hki79 H locs ls Y hl
                        have hkl := KI_le hki79
                        refine lv_iload_n hx hb dH_markKept_79 rfl (lv_at hl 1 rfl) ?_
                        refine lv_aload_n hx hb dH_markKept_80 rfl (lv_at hl 0 rfl) ?_
                        refine rH_KS X Y dH_markKept_81 ?_
                        refine bn_ge (tgt := 131) hx hb dH_markKept_84 (by decide) (by omega) (by omega) (fun h84 => ?_) (fun h84 => ?_)
                        · skip
                          have E : σ79 = h_mark s := by first | exact (h_wl_stop h84).symm.trans eσ79 | exact (h_wl_end h90).symm.trans eσ79
                          rw [E] at Y
                          exact ret _ _ _ _ Y dH_markKept_131
                        · skip
                          refine lv_iload_n hx hb dH_markKept_87 rfl (lv_at hl 1 rfl) ?_
                          refine lv_bipush (v := (nI (32))) hx hb dH_markKept_88 (by decide) ?_
                          refine bn_ge (tgt := 131) hx hb dH_markKept_90 (by decide) (by omega) (by omega) (fun h90 => ?_) (fun h90 => ?_)
                          · skip
                            have E : σ79 = h_mark s := by first | exact (h_wl_stop h84).symm.trans eσ79 | exact (h_wl_end h90).symm.trans eσ79
                            rw [E] at Y
                            exact ret _ _ _ _ Y dH_markKept_131
                          · skip
                            refine lv_iconst (v := (nI (0))) hx hb dH_markKept_93 (by decide) ?_
                            refine lv_istore_n (lv' := [(2, .int (nI (0))), (0, .ref (a 0)), (1, .int (nI (i79)))]) hx hb dH_markKept_94 rfl hl (by decide) rfl (fun ls hl => ?_)
                            have loop95 : ∀ (n95 i95 : Nat) (σ95 : HS), i95 ≤ 2 → 2 < i95 + n95 → (fldN (h_wk i79) σ79 i95 = σ95) → (KI σ95) → ∀ (H : Heap) (locs : List Loc) (ls : Array Slot), Yw g (wldH g a) (adH a) S H locs σ95 → lv_has ls 3 [(0, .ref (a 0)), (1, .int (nI (i79))), (2, .int (nI (i95)))] → W p l e ({ frames := 2, cells := 0, slots := 0, locals := 41 }) S m args below meth c H locs 0 0 Q (F0 m 95 ls []) := by
                              intro n95
                              induction n95 with
                              | zero =>
                                intro i95 σ95 b1 b2
                                exact absurd b2 (by omega)
                              | succ n95 ih95 =>
                                intro i95 σ95 hi95 hn95 eσ95 hki95 H locs ls Y hl
                                refine lv_iload_n hx hb dH_markKept_95 rfl (lv_at hl 2 rfl) ?_
                                refine lv_iconst (v := (nI (2))) hx hb dH_markKept_96 (by decide) ?_
                                refine bn_ge (tgt := 125) hx hb dH_markKept_97 (by decide) (by omega) (by omega) (fun h97 => ?_) (fun h97 => ?_)
                                · skip
                                  obtain rfl : i95 = 2 := by omega
                                  subst eσ95
                                  refine lv_iinc (v := (nI (i79 + 1))) (lv' := [(1, .int (nI (i79 + 1))), (0, .ref (a 0)), (2, .int (nI (2)))]) hx hb dH_markKept_125 hl (k := 1) rfl (nI_1 _) (by decide) rfl (fun ls hl => ?_)
                                  refine lv_goto (tgt := 79) hx hb dH_markKept_128 (by decide) ?_
                                  exact ih79 (i79 + 1) ((fldN (h_wk i79) σ79 2)) (by omega) (by omega) (by rw [← eσ79, show 32 - i79 = (32 - (i79 + 1)) + 1 by omega]; simp [h_wl, h5, h30, h54, h84, h90, h97]) (hki95) _ _ _ Y (lv_sub hl [1, 0] rfl)
                                · skip
                                  refine lv_aload_n hx hb dH_markKept_100 rfl (lv_at hl 0 rfl) ?_
                                  refine lv_aload_n hx hb dH_markKept_101 rfl (lv_at hl 0 rfl) ?_
                                  refine rH_FD X Y dH_markKept_102 ?_
                                  refine lv_iconst (v := (nI (2))) hx hb dH_markKept_105 (by decide) ?_
                                  refine lv_aload_n hx hb dH_markKept_106 rfl (lv_at hl 0 rfl) ?_
                                  refine rH_KL X Y dH_markKept_107 ?_
                                  refine lv_iload_n hx hb dH_markKept_110 rfl (lv_at hl 1 rfl) ?_
                                  refine lH_KL X Y (k := i79) (by omega) dH_markKept_111 ?_
                                  have hq1 := (gH_KL σ95 i79).isLt
                                  refine bn_mul hx hb dH_markKept_112 ?_
                                  refine lv_iload_n hx hb dH_markKept_113 rfl (lv_at hl 2 rfl) ?_
                                  refine bn_add hx hb dH_markKept_114 ?_
                                  refine lH_FD X Y (k := (2 * ((gH_KL σ95 i79).val)) + i95) (by omega) dH_markKept_115 ?_
                                  refine cl_vv (na := 1) (rest := []) X hD Y (tH_keep l g a ha σ95 (gH_FD σ95 ((2 * ((gH_KL σ95 i79).val)) + i95)) (by assumption)) gH_H_keep (by decide +kernel) rfl rfl rfl ⟨rfl, rfl⟩ ⟨Nat.le_of_ble_eq_true rfl, Nat.le_of_ble_eq_true rfl⟩ ⟨Nat.zero_le _, Nat.zero_le _⟩ hl.1 rfl (Nat.le_of_ble_eq_true rfl) dH_markKept_116 (fun H locs Y => ?_)
                                  refine lv_iinc (v := (nI (i95 + 1))) (lv' := [(2, .int (nI (i95 + 1))), (0, .ref (a 0)), (1, .int (nI (i79)))]) hx hb dH_markKept_119 hl (k := 2) rfl (nI_1 _) (by decide) rfl (fun ls hl => ?_)
                                  refine lv_goto (tgt := 95) hx hb dH_markKept_122 (by decide) ?_
                                  exact ih95 (i95 + 1) (h_keep (gH_FD σ95 ((2 * ((gH_KL σ95 i79).val)) + i95)) σ95) (by omega) (by omega) (by show h_wk i79 i95 (fldN (h_wk i79) σ79 i95) = _; rw [eσ95]; simp [h_wk, h5, h30, h54, h84, h90, h97]) (KI_keep _ hki95) _ _ _ Y (lv_sub hl [1, 2, 0] rfl)
                            exact loop95 (2 + 1) 0 σ79 (by omega) (by omega) (fldN_zero) (hki79) _ _ _ Y (lv_sub hl [1, 2, 0] rfl)
                    exact loop79 (32 + 1) 0 (((fldN h_kb ((fldN h_kr (uH_KS ((fldN h_k0 s 32)) 0) 4)) 32))) (by omega) (by omega) (rfl) (hki51) _ _ _ Y (lv_sub hl [1, 0] rfl)
                  · skip
                    refine lv_aload_n hx hb dH_markKept_57 rfl (lv_at hl 0 rfl) ?_
                    refine rH_BM X Y dH_markKept_58 ?_
                    refine lv_iload_n hx hb dH_markKept_61 rfl (lv_at hl 1 rfl) ?_
                    refine lH_BM X Y (k := i51) (by omega) dH_markKept_62 ?_
                    refine bb_eq (tgt := 71) hx hb dH_markKept_63 (by decide) (fun h63 => ?_) (fun h63 => ?_)
                    · skip
                      refine lv_iinc (v := (nI (i51 + 1))) (lv' := [(1, .int (nI (i51 + 1))), (0, .ref (a 0))]) hx hb dH_markKept_71 hl (k := 1) rfl (nI_1 _) (by decide) rfl (fun ls hl => ?_)
                      refine lv_goto (tgt := 51) hx hb dH_markKept_74 (by decide) ?_
                      exact ih51 (i51 + 1) σ51 (by omega) (by omega) (by show h_kb i51 (fldN h_kb ((fldN h_kr (uH_KS ((fldN h_k0 s 32)) 0) 4)) i51) = _; rw [eσ51]; simp [h_kb, toP_some (show i51 < 32 by omega), h5, h30, h54, h63]) (by first | exact hki51 | exact KI_keep _ hki51) _ _ _ Y (lv_sub hl [1, 0] rfl)
                    · skip
                      refine lv_aload_n hx hb dH_markKept_66 rfl (lv_at hl 0 rfl) ?_
                      refine lv_iload_n hx hb dH_markKept_67 rfl (lv_at hl 1 rfl) ?_
                      refine cl_vv (na := 1) (rest := []) X hD Y (tH_keep l g a ha σ51 (some ⟨i51, by omega⟩) (by assumption)) gH_H_keep (by decide +kernel) rfl rfl rfl ⟨rfl, rfl⟩ ⟨Nat.le_of_ble_eq_true rfl, Nat.le_of_ble_eq_true rfl⟩ ⟨Nat.zero_le _, Nat.zero_le _⟩ hl.1 rfl (Nat.le_of_ble_eq_true rfl) dH_markKept_68 (fun H locs Y => ?_)
                      refine lv_iinc (v := (nI (i51 + 1))) (lv' := [(1, .int (nI (i51 + 1))), (0, .ref (a 0))]) hx hb dH_markKept_71 hl (k := 1) rfl (nI_1 _) (by decide) rfl (fun ls hl => ?_)
                      refine lv_goto (tgt := 51) hx hb dH_markKept_74 (by decide) ?_
                      exact ih51 (i51 + 1) (h_keep (some ⟨i51, by omega⟩) σ51) (by omega) (by omega) (by show h_kb i51 (fldN h_kb ((fldN h_kr (uH_KS ((fldN h_k0 s 32)) 0) 4)) i51) = _; rw [eσ51]; simp [h_kb, toP_some (show i51 < 32 by omega), h5, h30, h54, h63]) (by first | exact hki51 | exact KI_keep _ hki51) _ _ _ Y (lv_sub hl [1, 0] rfl)
              exact loop51 (32 + 1) 0 (((fldN h_kr (uH_KS ((fldN h_k0 s 32)) 0) 4))) (by omega) (by omega) (fldN_zero) (hki28) _ _ _ Y (lv_sub hl [1, 0] rfl)
            · skip
              refine lv_aload_n hx hb dH_markKept_33 rfl (lv_at hl 0 rfl) ?_
              refine lv_aload_n hx hb dH_markKept_34 rfl (lv_at hl 0 rfl) ?_
              refine rH_RG X Y dH_markKept_35 ?_
              refine lv_iload_n hx hb dH_markKept_38 rfl (lv_at hl 1 rfl) ?_
              refine lH_RG X Y (k := i28) (by omega) dH_markKept_39 ?_
              refine cl_vv (na := 1) (rest := []) X hD Y (tH_keep l g a ha σ28 (gH_RG σ28 i28) (by assumption)) gH_H_keep (by decide +kernel) rfl rfl rfl ⟨rfl, rfl⟩ ⟨Nat.le_of_ble_eq_true rfl, Nat.le_of_ble_eq_true rfl⟩ ⟨Nat.zero_le _, Nat.zero_le _⟩ hl.1 rfl (Nat.le_of_ble_eq_true rfl) dH_markKept_40 (fun H locs Y => ?_)
              refine lv_iinc (v := (nI (i28 + 1))) (lv' := [(1, .int (nI (i28 + 1))), (0, .ref (a 0))]) hx hb dH_markKept_43 hl (k := 1) rfl (nI_1 _) (by decide) rfl (fun ls hl => ?_)
              refine lv_goto (tgt := 28) hx hb dH_markKept_46 (by decide) ?_
              exact ih28 (i28 + 1) (h_keep (gH_RG σ28 i28) σ28) (by omega) (by omega) (by show h_kr i28 (fldN h_kr (uH_KS ((fldN h_k0 s 32)) 0) i28) = _; rw [eσ28]; simp [h_kr, h5, h30]) (KI_keep _ hki28) _ _ _ Y (lv_sub hl [1, 0] rfl)
        exact loop28 (4 + 1) 0 ((uH_KS ((fldN h_k0 s 32)) 0)) (by omega) (by omega) (fldN_zero) (KI_0 s) _ _ _ Y (lv_sub hl [1, 0] rfl)
      · skip
        refine lv_aload_n hx hb dH_markKept_8 rfl (lv_at hl 0 rfl) ?_
        refine rH_KP X Y dH_markKept_9 ?_
        refine lv_iload_n hx hb dH_markKept_12 rfl (lv_at hl 1 rfl) ?_
        refine lv_iconst (v := (nI (0))) hx hb dH_markKept_13 (by decide) ?_
        refine sH_KP X Y (k := i2) false (by decide) (by omega) dH_markKept_14 (fun H locs Y => ?_)
        refine lv_iinc (v := (nI (i2 + 1))) (lv' := [(1, .int (nI (i2 + 1))), (0, .ref (a 0))]) hx hb dH_markKept_15 hl (k := 1) rfl (nI_1 _) (by decide) rfl (fun ls hl => ?_)
        refine lv_goto (tgt := 2) hx hb dH_markKept_18 (by decide) ?_
        exact ih2 (i2 + 1) (uH_KP σ2 i2 false) (by omega) (by omega) (by show h_k0 i2 (fldN h_k0 s i2) = _; rw [eσ2]; simp [h_k0, h5]) _ _ _ Y (lv_sub hl [1, 0] rfl)
  exact loop2 (32 + 1) 0 s (by omega) (by omega) (fldN_zero) _ _ _ Y (lv_sub hl [1, 0] rfl)
set_option maxHeartbeats 1000000 in
set_option maxRecDepth 100000 in
theorem tH_collectWithin (l : Launch) (g : GG) (a : Nat → Nat) (ha : apH a) (s : HS)  : Ci l g (wldH g a) (adH a) yH_collectWithin kH_collectWithin ({ frames := 3, cells := 0, slots := 0, locals := 63 }) [.ref (a 0)] s (nI (h_gone s)) (h_collect s) := by
  have hD := wldH_D (g := g) ha
  refine Ci.of (own := RH) (cc := cH_collectWithin) (nL := 3) hD (by decide) rfl (Nat.le_of_ble_eq_true rfl) ?_
  intro p e S m args below meth c Q X ret H locs ls Y hl
  have hx := X.1
  have hb := X.2.1
  have hl : lv_has ls 3 [(0, .ref (a 0))] := hl
  refine lv_aload_n hx hb dH_collectWithin_0 rfl (lv_at hl 0 rfl) ?_
  refine cl_vv (na := 0) (rest := []) X hD Y (tH_markKept l g a ha s  ) gH_H_markKept (by decide +kernel) rfl rfl rfl ⟨rfl, rfl⟩ ⟨Nat.le_of_ble_eq_true rfl, Nat.le_of_ble_eq_true rfl⟩ ⟨Nat.zero_le _, Nat.zero_le _⟩ hl.1 rfl (Nat.le_of_ble_eq_true rfl) dH_collectWithin_1 (fun H locs Y => ?_)
  refine lv_iconst (v := (nI (0))) hx hb dH_collectWithin_4 (by decide) ?_
  refine lv_istore_n (lv' := [(1, .int (nI (0))), (0, .ref (a 0))]) hx hb dH_collectWithin_5 rfl hl (by decide) rfl (fun ls hl => ?_)
  refine lv_iconst (v := (nI (0))) hx hb dH_collectWithin_6 (by decide) ?_
  refine lv_istore_n (lv' := [(2, .int (nI (0))), (1, .int (nI (0))), (0, .ref (a 0))]) hx hb dH_collectWithin_7 rfl hl (by decide) rfl (fun ls hl => ?_)
  have loop8 : ∀ (n8 i8 : Nat) (k8 : Nat) (σ8 : HS), i8 ≤ 32 → 32 < i8 + n8 → (fldN h_co1 (0, h_mark s) i8 = (k8, σ8)) → (k8 ≤ i8) → ∀ (H : Heap) (locs : List Loc) (ls : Array Slot), Yw g (wldH g a) (adH a) S H locs σ8 → lv_has ls 3 [(0, .ref (a 0)), (1, .int (nI (k8))), (2, .int (nI (i8)))] → W p l e ({ frames := 3, cells := 0, slots := 0, locals := 63 }) S m args below meth c H locs 0 0 Q (F0 m 8 ls []) := by
    intro n8
    induction n8 with
    | zero =>
      intro i8 k8 σ8 b1 b2
      exact absurd b2 (by omega)
    | succ n8 ih8 =>
      intro i8 k8 σ8 hi8 hn8 e8 hk8 H locs ls Y hl
      refine lv_iload_n hx hb dH_collectWithin_8 rfl (lv_at hl 2 rfl) ?_
      refine lv_bipush (v := (nI (32))) hx hb dH_collectWithin_9 (by decide) ?_
      refine bn_ge (tgt := 59) hx hb dH_collectWithin_11 (by decide) (by omega) (by omega) (fun h11 => ?_) (fun h11 => ?_)
      · skip
        obtain rfl : i8 = 32 := by omega
        refine lv_iconst (v := (nI (0))) hx hb dH_collectWithin_59 (by decide) ?_
        refine lv_istore_n (lv' := [(2, .int (nI (0))), (0, .ref (a 0)), (1, .int (nI (k8)))]) hx hb dH_collectWithin_60 rfl hl (by decide) rfl (fun ls hl => ?_)
        have loop61 : ∀ (n61 i61 : Nat) (σ61 : HS), i61 ≤ 8 → 8 < i61 + n61 → (fldN h_co2 σ8 i61 = σ61) → ∀ (H : Heap) (locs : List Loc) (ls : Array Slot), Yw g (wldH g a) (adH a) S H locs σ61 → lv_has ls 3 [(0, .ref (a 0)), (1, .int (nI (k8))), (2, .int (nI (i61)))] → W p l e ({ frames := 3, cells := 0, slots := 0, locals := 63 }) S m args below meth c H locs 0 0 Q (F0 m 61 ls []) := by
          intro n61
          induction n61 with
          | zero =>
            intro i61 σ61 b1 b2
            exact absurd b2 (by omega)
          | succ n61 ih61 =>
            intro i61 σ61 hi61 hn61 eσ61 H locs ls Y hl
            refine lv_iload_n hx hb dH_collectWithin_61 rfl (lv_at hl 2 rfl) ?_
            refine lv_bipush (v := (nI (8))) hx hb dH_collectWithin_62 (by decide) ?_
            refine bn_ge (tgt := 105) hx hb dH_collectWithin_64 (by decide) (by omega) (by omega) (fun h64 => ?_) (fun h64 => ?_)
            · skip
              obtain rfl : i61 = 8 := by omega
              subst eσ61
              refine lv_iload_n hx hb dH_collectWithin_105 rfl (lv_at hl 1 rfl) ?_
              have E : (fldN h_co2 σ8 8) = h_collect s := by simp only [h_collect, h_cog, e8]
              rw [E] at Y
              exact ret _ _ _ _ _ Y (by simp only [h_gone, h_cog, e8]) dH_collectWithin_106
            · skip
              refine lv_aload_n hx hb dH_collectWithin_67 rfl (lv_at hl 0 rfl) ?_
              refine rH_ST X Y dH_collectWithin_68 ?_
              refine lv_iload_n hx hb dH_collectWithin_71 rfl (lv_at hl 2 rfl) ?_
              refine lH_ST X Y (k := i61) (by omega) dH_collectWithin_72 ?_
              have hq2 := (gH_ST σ61 i61).isLt
              refine lv_iconst (v := (nI (1))) hx hb dH_collectWithin_73 (by decide) ?_
              refine bn_ne (tgt := 99) hx hb dH_collectWithin_74 (by decide) (by omega) (by omega) (fun h74 => ?_) (fun h74 => ?_)
              · skip
                refine lv_iinc (v := (nI (i61 + 1))) (lv' := [(2, .int (nI (i61 + 1))), (0, .ref (a 0)), (1, .int (nI (k8)))]) hx hb dH_collectWithin_99 hl (k := 2) rfl (nI_1 _) (by decide) rfl (fun ls hl => ?_)
                refine lv_goto (tgt := 61) hx hb dH_collectWithin_102 (by decide) ?_
                exact ih61 (i61 + 1) σ61 (by omega) (by omega) (by show h_co2 i61 (fldN h_co2 σ8 i61) = _; rw [eσ61]; simp [h_co2, h11, h64, h74]) _ _ _ Y (lv_sub hl [1, 2, 0] rfl)
              · skip
                refine lv_aload_n hx hb dH_collectWithin_77 rfl (lv_at hl 0 rfl) ?_
                refine lv_iload_n hx hb dH_collectWithin_78 rfl (lv_at hl 2 rfl) ?_
                refine cl_vi (na := 1) (rest := []) X hD Y (tH_isBare l g a ha σ61 i61 (by omega)) gH_H_isBare (by decide +kernel) rfl rfl rfl ⟨rfl, rfl⟩ ⟨Nat.le_of_ble_eq_true rfl, Nat.le_of_ble_eq_true rfl⟩ ⟨Nat.zero_le _, Nat.zero_le _⟩ hl.1 rfl (Nat.le_of_ble_eq_true rfl) dH_collectWithin_79 (fun H locs Y => ?_)
                refine bb_eq (tgt := 99) hx hb dH_collectWithin_82 (by decide) (fun h82 => ?_) (fun h82 => ?_)
                · skip
                  refine lv_iinc (v := (nI (i61 + 1))) (lv' := [(2, .int (nI (i61 + 1))), (0, .ref (a 0)), (1, .int (nI (k8)))]) hx hb dH_collectWithin_99 hl (k := 2) rfl (nI_1 _) (by decide) rfl (fun ls hl => ?_)
                  refine lv_goto (tgt := 61) hx hb dH_collectWithin_102 (by decide) ?_
                  exact ih61 (i61 + 1) σ61 (by omega) (by omega) (by show h_co2 i61 (fldN h_co2 σ8 i61) = _; rw [eσ61]; simp [h_co2, h11, h64, h74, h82]) _ _ _ Y (lv_sub hl [1, 2, 0] rfl)
                · skip
                  refine lv_aload_n hx hb dH_collectWithin_85 rfl (lv_at hl 0 rfl) ?_
                  refine rH_ST X Y dH_collectWithin_86 ?_
                  refine lv_iload_n hx hb dH_collectWithin_89 rfl (lv_at hl 2 rfl) ?_
                  refine lv_iconst (v := (nI (0))) hx hb dH_collectWithin_90 (by decide) ?_
                  refine sH_ST X Y (k := i61) (⟨0, by omega⟩) rfl (by omega) dH_collectWithin_91 (fun H locs Y => ?_)
                  refine lv_aload_n hx hb dH_collectWithin_92 rfl (lv_at hl 0 rfl) ?_
                  refine rH_US X Y dH_collectWithin_93 ?_
                  refine lv_iload_n hx hb dH_collectWithin_96 rfl (lv_at hl 2 rfl) ?_
                  refine lv_iconst (v := (nI (0))) hx hb dH_collectWithin_97 (by decide) ?_
                  refine sH_US X Y (k := i61) false (by decide) (by omega) dH_collectWithin_98 (fun H locs Y => ?_)
                  refine lv_iinc (v := (nI (i61 + 1))) (lv' := [(2, .int (nI (i61 + 1))), (0, .ref (a 0)), (1, .int (nI (k8)))]) hx hb dH_collectWithin_99 hl (k := 2) rfl (nI_1 _) (by decide) rfl (fun ls hl => ?_)
                  refine lv_goto (tgt := 61) hx hb dH_collectWithin_102 (by decide) ?_
                  exact ih61 (i61 + 1) (uH_US (uH_ST σ61 i61 (⟨0, by omega⟩)) i61 false) (by omega) (by omega) (by show h_co2 i61 (fldN h_co2 σ8 i61) = _; rw [eσ61]; simp [h_co2, h11, h64, h74, h82]) _ _ _ Y (lv_sub hl [1, 2, 0] rfl)
        exact loop61 (8 + 1) 0 σ8 (by omega) (by omega) (fldN_zero) _ _ _ Y (lv_sub hl [1, 2, 0] rfl)
      · skip
        refine lv_aload_n hx hb dH_collectWithin_14 rfl (lv_at hl 0 rfl) ?_
        refine rH_TK X Y dH_collectWithin_15 ?_
        refine lv_iload_n hx hb dH_collectWithin_18 rfl (lv_at hl 2 rfl) ?_
        refine lH_TK X Y (k := i8) (by omega) dH_collectWithin_19 ?_
        refine bb_eq (tgt := 53) hx hb dH_collectWithin_20 (by decide) (fun h20 => ?_) (fun h20 => ?_)
        · skip
          refine lv_iinc (v := (nI (i8 + 1))) (lv' := [(2, .int (nI (i8 + 1))), (0, .ref (a 0)), (1, .int (nI (k8)))]) hx hb dH_collectWithin_53 hl (k := 2) rfl (nI_1 _) (by decide) rfl (fun ls hl => ?_)
          refine lv_goto (tgt := 8) hx hb dH_collectWithin_56 (by decide) ?_
          exact ih8 (i8 + 1) k8 σ8 (by omega) (by omega) (by show h_co1 i8 (fldN h_co1 (0, h_mark s) i8) = _; rw [e8]; simp [h_co1, h_gob, h11, h20]) (by omega) _ _ _ Y (lv_sub hl [1, 2, 0] rfl)
        · skip
          refine lv_aload_n hx hb dH_collectWithin_23 rfl (lv_at hl 0 rfl) ?_
          refine rH_ST X Y dH_collectWithin_24 ?_
          refine lv_iload_n hx hb dH_collectWithin_27 rfl (lv_at hl 2 rfl) ?_
          refine cl_s (na := 1) (rest := [.ref (a 6)]) X Y (tH_pageOf l i8 (by omega)) gH_H_pageOf (by decide +kernel) rfl ⟨rfl, rfl⟩ ⟨Nat.le_of_ble_eq_true rfl, Nat.le_of_ble_eq_true rfl⟩ ⟨Nat.zero_le _, Nat.zero_le _⟩ hl.1 rfl (Nat.le_of_ble_eq_true rfl) dH_collectWithin_28 (fun H locs Y => ?_)
          refine lH_ST X Y (k := i8 / 4) (by omega) dH_collectWithin_31 ?_
          have hq5 := (gH_ST σ8 (i8 / 4)).isLt
          refine lv_iconst (v := (nI (1))) hx hb dH_collectWithin_32 (by decide) ?_
          refine bn_ne (tgt := 53) hx hb dH_collectWithin_33 (by decide) (by omega) (by omega) (fun h33 => ?_) (fun h33 => ?_)
          · skip
            refine lv_iinc (v := (nI (i8 + 1))) (lv' := [(2, .int (nI (i8 + 1))), (0, .ref (a 0)), (1, .int (nI (k8)))]) hx hb dH_collectWithin_53 hl (k := 2) rfl (nI_1 _) (by decide) rfl (fun ls hl => ?_)
            refine lv_goto (tgt := 8) hx hb dH_collectWithin_56 (by decide) ?_
            exact ih8 (i8 + 1) k8 σ8 (by omega) (by omega) (by show h_co1 i8 (fldN h_co1 (0, h_mark s) i8) = _; rw [e8]; simp [h_co1, h_gob, h11, h20, h33]) (by omega) _ _ _ Y (lv_sub hl [1, 2, 0] rfl)
          · skip
            refine lv_aload_n hx hb dH_collectWithin_36 rfl (lv_at hl 0 rfl) ?_
            refine rH_KP X Y dH_collectWithin_37 ?_
            refine lv_iload_n hx hb dH_collectWithin_40 rfl (lv_at hl 2 rfl) ?_
            refine lH_KP X Y (k := i8) (by omega) dH_collectWithin_41 ?_
            refine bb_ne (tgt := 53) hx hb dH_collectWithin_42 (by decide) (fun h42 => ?_) (fun h42 => ?_)
            · skip
              refine lv_iinc (v := (nI (i8 + 1))) (lv' := [(2, .int (nI (i8 + 1))), (0, .ref (a 0)), (1, .int (nI (k8)))]) hx hb dH_collectWithin_53 hl (k := 2) rfl (nI_1 _) (by decide) rfl (fun ls hl => ?_)
              refine lv_goto (tgt := 8) hx hb dH_collectWithin_56 (by decide) ?_
              exact ih8 (i8 + 1) k8 σ8 (by omega) (by omega) (by show h_co1 i8 (fldN h_co1 (0, h_mark s) i8) = _; rw [e8]; simp [h_co1, h_gob, h11, h20, h33, h42]) (by omega) _ _ _ Y (lv_sub hl [1, 2, 0] rfl)
            · skip
              refine lv_aload_n hx hb dH_collectWithin_45 rfl (lv_at hl 0 rfl) ?_
              refine lv_iload_n hx hb dH_collectWithin_46 rfl (lv_at hl 2 rfl) ?_
              refine cl_vv (na := 1) (rest := []) X hD Y (tH_remove l g a ha σ8 i8 (by omega)) gH_H_remove (by decide +kernel) rfl rfl rfl ⟨rfl, rfl⟩ ⟨Nat.le_of_ble_eq_true rfl, Nat.le_of_ble_eq_true rfl⟩ ⟨Nat.zero_le _, Nat.zero_le _⟩ hl.1 rfl (Nat.le_of_ble_eq_true rfl) dH_collectWithin_47 (fun H locs Y => ?_)
              refine lv_iinc (v := (nI (k8 + 1))) (lv' := [(1, .int (nI (k8 + 1))), (0, .ref (a 0)), (2, .int (nI (i8)))]) hx hb dH_collectWithin_50 hl (k := 1) rfl (nI_1 _) (by decide) rfl (fun ls hl => ?_)
              refine lv_iinc (v := (nI (i8 + 1))) (lv' := [(2, .int (nI (i8 + 1))), (1, .int (nI (k8 + 1))), (0, .ref (a 0))]) hx hb dH_collectWithin_53 hl (k := 2) rfl (nI_1 _) (by decide) rfl (fun ls hl => ?_)
              refine lv_goto (tgt := 8) hx hb dH_collectWithin_56 (by decide) ?_
              exact ih8 (i8 + 1) (k8 + 1) (h_remove i8 σ8) (by omega) (by omega) (by show h_co1 i8 (fldN h_co1 (0, h_mark s) i8) = _; rw [e8]; simp [h_co1, h_gob, h11, h20, h33, h42]) (by omega) _ _ _ Y (lv_sub hl [2, 1, 0] rfl)
  exact loop8 (32 + 1) 0 0 ((h_mark s)) (by omega) (by omega) (rfl) (Nat.le_refl 0) _ _ _ Y (lv_sub hl [2, 1, 0] rfl)
end
section
/-! written by wip/whole/specH.py -/
set_option maxHeartbeats 1000000 in
set_option maxRecDepth 100000 in
theorem tH_freePlaceOnPagesIn (l : Launch) (g : GG) (a : Nat → Nat) (ha : apH a) (s : HS)  : Ci l g (wldH g a) (adH a) yH_freePlaceOnPagesIn kH_freePlaceOnPagesIn ({ frames := 1, cells := 0, slots := 0, locals := 20 }) [.ref (a 0)] s (oI (h_free s)) s := by
  have hD := wldH_D (g := g) ha
  refine Ci.of (own := RH) (cc := cH_freePlaceOnPagesIn) (nL := 2) hD (by decide) rfl (Nat.le_of_ble_eq_true rfl) ?_
  intro p e S m args below meth c Q X ret H locs ls Y hl
  have hx := X.1
  have hb := X.2.1
  have hl : lv_has ls 2 [(0, .ref (a 0))] := hl
  refine lv_iconst (v := (nI (0))) hx hb dH_freePlaceOnPagesIn_0 (by decide) ?_
  refine lv_istore_n (lv' := [(1, .int (nI (0))), (0, .ref (a 0))]) hx hb dH_freePlaceOnPagesIn_1 rfl hl (by decide) rfl (fun ls hl => ?_)
  have loop2 : ∀ (n2 i2 : Nat), i2 ≤ 32 → 32 < i2 + n2 → (∀ j, j < i2 → h_frb s j = false) → ∀ (H : Heap) (locs : List Loc) (ls : Array Slot), Yw g (wldH g a) (adH a) S H locs s → lv_has ls 2 [(0, .ref (a 0)), (1, .int (nI (i2)))] → W p l e ({ frames := 1, cells := 0, slots := 0, locals := 20 }) S m args below meth c H locs 0 0 Q (F0 m 2 ls []) := by
    intro n2
    induction n2 with
    | zero =>
      intro i2 b1 b2
      exact absurd b2 (by omega)
    | succ n2 ih2 =>
      intro i2 hi2 hn2 hno H locs ls Y hl
      refine lv_iload_n hx hb dH_freePlaceOnPagesIn_2 rfl (lv_at hl 1 rfl) ?_
      refine lv_bipush (v := (nI (32))) hx hb dH_freePlaceOnPagesIn_3 (by decide) ?_
      refine bn_ge (tgt := 38) hx hb dH_freePlaceOnPagesIn_5 (by decide) (by omega) (by omega) (fun h5 => ?_) (fun h5 => ?_)
      · skip
        refine lv_iconst (v := (-1)) hx hb dH_freePlaceOnPagesIn_38 (by decide) ?_
        exact ret _ _ _ _ _ Y (by rw [h_free, fstN_none (n := 32) (fun j hj => hno j (by omega))]; rfl) dH_freePlaceOnPagesIn_39
      · skip
        refine lv_aload_n hx hb dH_freePlaceOnPagesIn_8 rfl (lv_at hl 0 rfl) ?_
        refine rH_TK X Y dH_freePlaceOnPagesIn_9 ?_
        refine lv_iload_n hx hb dH_freePlaceOnPagesIn_12 rfl (lv_at hl 1 rfl) ?_
        refine lH_TK X Y (k := i2) (by omega) dH_freePlaceOnPagesIn_13 ?_
        refine bb_ne (tgt := 32) hx hb dH_freePlaceOnPagesIn_14 (by decide) (fun h14 => ?_) (fun h14 => ?_)
        · skip
          refine lv_iinc (v := (nI (i2 + 1))) (lv' := [(1, .int (nI (i2 + 1))), (0, .ref (a 0))]) hx hb dH_freePlaceOnPagesIn_32 hl (k := 1) rfl (nI_1 _) (by decide) rfl (fun ls hl => ?_)
          refine lv_goto (tgt := 2) hx hb dH_freePlaceOnPagesIn_35 (by decide) ?_
          exact ih2 (i2 + 1) (by omega) (by omega) (lt_s hno (by simp [h_frb, h5, h14])) _ _ _ Y (lv_sub hl [1, 0] rfl)
        · skip
          refine lv_aload_n hx hb dH_freePlaceOnPagesIn_17 rfl (lv_at hl 0 rfl) ?_
          refine rH_ST X Y dH_freePlaceOnPagesIn_18 ?_
          refine lv_iload_n hx hb dH_freePlaceOnPagesIn_21 rfl (lv_at hl 1 rfl) ?_
          refine cl_s (na := 1) (rest := [.ref (a 6)]) X Y (tH_pageOf l i2 (by omega)) gH_H_pageOf (by decide +kernel) rfl ⟨rfl, rfl⟩ ⟨Nat.le_of_ble_eq_true rfl, Nat.le_of_ble_eq_true rfl⟩ ⟨Nat.zero_le _, Nat.zero_le _⟩ hl.1 rfl (Nat.le_of_ble_eq_true rfl) dH_freePlaceOnPagesIn_22 (fun H locs Y => ?_)
          refine lH_ST X Y (k := i2 / 4) (by omega) dH_freePlaceOnPagesIn_25 ?_
          have hq2 := (gH_ST s (i2 / 4)).isLt
          refine lv_iconst (v := (nI (1))) hx hb dH_freePlaceOnPagesIn_26 (by decide) ?_
          refine bn_ne (tgt := 32) hx hb dH_freePlaceOnPagesIn_27 (by decide) (by omega) (by omega) (fun h27 => ?_) (fun h27 => ?_)
          · skip
            refine lv_iinc (v := (nI (i2 + 1))) (lv' := [(1, .int (nI (i2 + 1))), (0, .ref (a 0))]) hx hb dH_freePlaceOnPagesIn_32 hl (k := 1) rfl (nI_1 _) (by decide) rfl (fun ls hl => ?_)
            refine lv_goto (tgt := 2) hx hb dH_freePlaceOnPagesIn_35 (by decide) ?_
            exact ih2 (i2 + 1) (by omega) (by omega) (lt_s hno (by simp [h_frb, h5, h14, h27])) _ _ _ Y (lv_sub hl [1, 0] rfl)
          · skip
            refine lv_iload_n hx hb dH_freePlaceOnPagesIn_30 rfl (lv_at hl 1 rfl) ?_
            exact ret _ _ _ _ _ Y (by rw [h_free, fstN_hit (i := i2) (by simp [h_frb, h5, h14, h27]) hno (by omega), toP_some (by omega)]; rfl) dH_freePlaceOnPagesIn_31
  exact loop2 (32 + 1) 0 (by omega) (by omega) (fun j hj => absurd hj (by omega)) _ _ _ Y (lv_sub hl [1, 0] rfl)
set_option maxHeartbeats 1000000 in
set_option maxRecDepth 100000 in
theorem tH_placeOnEmptyPage (l : Launch) (g : GG) (a : Nat → Nat) (ha : apH a) (s : HS)  : Ci l g (wldH g a) (adH a) yH_placeOnEmptyPage kH_placeOnEmptyPage ({ frames := 1, cells := 0, slots := 0, locals := 20 }) [.ref (a 0)] s (oI (h_empty s)) s := by
  have hD := wldH_D (g := g) ha
  refine Ci.of (own := RH) (cc := cH_placeOnEmptyPage) (nL := 2) hD (by decide) rfl (Nat.le_of_ble_eq_true rfl) ?_
  intro p e S m args below meth c Q X ret H locs ls Y hl
  have hx := X.1
  have hb := X.2.1
  have hl : lv_has ls 2 [(0, .ref (a 0))] := hl
  refine lv_iconst (v := (nI (0))) hx hb dH_placeOnEmptyPage_0 (by decide) ?_
  refine lv_istore_n (lv' := [(1, .int (nI (0))), (0, .ref (a 0))]) hx hb dH_placeOnEmptyPage_1 rfl hl (by decide) rfl (fun ls hl => ?_)
  have loop2 : ∀ (n2 i2 : Nat), i2 ≤ 8 → 8 < i2 + n2 → (∀ j, j < i2 → h_emb s j = false) → ∀ (H : Heap) (locs : List Loc) (ls : Array Slot), Yw g (wldH g a) (adH a) S H locs s → lv_has ls 2 [(0, .ref (a 0)), (1, .int (nI (i2)))] → W p l e ({ frames := 1, cells := 0, slots := 0, locals := 20 }) S m args below meth c H locs 0 0 Q (F0 m 2 ls []) := by
    intro n2
    induction n2 with
    | zero =>
      intro i2 b1 b2
      exact absurd b2 (by omega)
    | succ n2 ih2 =>
      intro i2 hi2 hn2 hno H locs ls Y hl
      refine lv_iload_n hx hb dH_placeOnEmptyPage_2 rfl (lv_at hl 1 rfl) ?_
      refine lv_bipush (v := (nI (8))) hx hb dH_placeOnEmptyPage_3 (by decide) ?_
      refine bn_ge (tgt := 28) hx hb dH_placeOnEmptyPage_5 (by decide) (by omega) (by omega) (fun h5 => ?_) (fun h5 => ?_)
      · skip
        refine lv_iconst (v := (-1)) hx hb dH_placeOnEmptyPage_28 (by decide) ?_
        exact ret _ _ _ _ _ Y (by simp only [h_empty]; rw [fstN_none (n := 8) (fun j hj => hno j (by omega))]; rfl) dH_placeOnEmptyPage_29
      · skip
        refine lv_aload_n hx hb dH_placeOnEmptyPage_8 rfl (lv_at hl 0 rfl) ?_
        refine rH_ST X Y dH_placeOnEmptyPage_9 ?_
        refine lv_iload_n hx hb dH_placeOnEmptyPage_12 rfl (lv_at hl 1 rfl) ?_
        refine lH_ST X Y (k := i2) (by omega) dH_placeOnEmptyPage_13 ?_
        have hq1 := (gH_ST s i2).isLt
        refine bz_ne (tgt := 22) hx hb dH_placeOnEmptyPage_14 (by decide) (by omega) (fun h14 => ?_) (fun h14 => ?_)
        · skip
          refine lv_iinc (v := (nI (i2 + 1))) (lv' := [(1, .int (nI (i2 + 1))), (0, .ref (a 0))]) hx hb dH_placeOnEmptyPage_22 hl (k := 1) rfl (nI_1 _) (by decide) rfl (fun ls hl => ?_)
          refine lv_goto (tgt := 2) hx hb dH_placeOnEmptyPage_25 (by decide) ?_
          exact ih2 (i2 + 1) (by omega) (by omega) (lt_s hno (by simp [h_emb, h5, h14])) _ _ _ Y (lv_sub hl [1, 0] rfl)
        · skip
          refine lv_iload_n hx hb dH_placeOnEmptyPage_17 rfl (lv_at hl 1 rfl) ?_
          refine cl_s (na := 1) (rest := []) X Y (tH_firstPlaceOf l i2 ) gH_H_firstPlaceOf (by decide +kernel) rfl ⟨rfl, rfl⟩ ⟨Nat.le_of_ble_eq_true rfl, Nat.le_of_ble_eq_true rfl⟩ ⟨Nat.zero_le _, Nat.zero_le _⟩ hl.1 rfl (Nat.le_of_ble_eq_true rfl) dH_placeOnEmptyPage_18 (fun H locs Y => ?_)
          exact ret _ _ _ _ _ Y (by simp only [h_empty]; rw [fstN_hit (i := i2) (by simp [h_emb, h5, h14]) hno (by omega)]; simp only []; rw [toP_some (by omega)]; rfl) dH_placeOnEmptyPage_21
  exact loop2 (8 + 1) 0 (by omega) (by omega) (fun j hj => absurd hj (by omega)) _ _ _ Y (lv_sub hl [1, 0] rfl)
set_option maxHeartbeats 1000000 in
set_option maxRecDepth 100000 in
theorem tH_occupy (l : Launch) (g : GG) (a : Nat → Nat) (ha : apH a) (s : HS) (q : Nat) (hq : q < 32) : Cv l g (wldH g a) (adH a) yH_occupy kH_occupy ({ frames := 1, cells := 0, slots := 0, locals := 20 }) [.ref (a 0), .int (nI (q))] s (h_occupy q s) := by
  have hD := wldH_D (g := g) ha
  refine Cv.of (own := RH) (cc := cH_occupy) (nL := 3) hD (by decide) rfl (Nat.le_of_ble_eq_true rfl) ?_
  intro p e S m args below meth c Q X ret H locs ls Y hl
  have hx := X.1
  have hb := X.2.1
  have hl : lv_has ls 3 [(0, .ref (a 0)), (1, .int (nI (q)))] := hl
  refine lv_iload_n hx hb dH_occupy_0 rfl (lv_at hl 1 rfl) ?_
  refine cl_s (na := 1) (rest := []) X Y (tH_pageOf l q (by omega)) gH_H_pageOf (by decide +kernel) rfl ⟨rfl, rfl⟩ ⟨Nat.le_of_ble_eq_true rfl, Nat.le_of_ble_eq_true rfl⟩ ⟨Nat.zero_le _, Nat.zero_le _⟩ hl.1 rfl (Nat.le_of_ble_eq_true rfl) dH_occupy_1 (fun H locs Y => ?_)
  refine lv_istore_n (lv' := [(2, .int (nI (q / 4))), (0, .ref (a 0)), (1, .int (nI (q)))]) hx hb dH_occupy_4 rfl hl (by decide) rfl (fun ls hl => ?_)
  refine lv_aload_n hx hb dH_occupy_5 rfl (lv_at hl 1 rfl) ?_
  refine rH_ST X Y dH_occupy_6 ?_
  refine lv_iload_n hx hb dH_occupy_9 rfl (lv_at hl 0 rfl) ?_
  refine lH_ST X Y (k := q / 4) (by omega) dH_occupy_10 ?_
  have hq2 := (gH_ST s (q / 4)).isLt
  refine bz_ne (tgt := 28) hx hb dH_occupy_11 (by decide) (by omega) (fun h11 => ?_) (fun h11 => ?_)
  · skip
    refine lv_aload_n hx hb dH_occupy_28 rfl (lv_at hl 1 rfl) ?_
    refine rH_US X Y dH_occupy_29 ?_
    refine lv_iload_n hx hb dH_occupy_32 rfl (lv_at hl 0 rfl) ?_
    refine lv_iconst (v := (nI (1))) hx hb dH_occupy_33 (by decide) ?_
    refine sH_US X Y (k := q / 4) true (by decide) (by omega) dH_occupy_34 (fun H locs Y => ?_)
    refine lv_aload_n hx hb dH_occupy_35 rfl (lv_at hl 1 rfl) ?_
    refine rH_TK X Y dH_occupy_36 ?_
    refine lv_iload_n hx hb dH_occupy_39 rfl (lv_at hl 2 rfl) ?_
    refine lv_iconst (v := (nI (1))) hx hb dH_occupy_40 (by decide) ?_
    refine sH_TK X Y (k := q) true (by decide) (by omega) dH_occupy_41 (fun H locs Y => ?_)
    have E : uH_TK (uH_US s (q / 4) true) q true = h_occupy q s := by simp [h_occupy, h_oc1, h11]
    rw [E] at Y
    exact ret _ _ _ _ Y dH_occupy_42
  · skip
    refine lv_aload_n hx hb dH_occupy_14 rfl (lv_at hl 1 rfl) ?_
    refine rH_ST X Y dH_occupy_15 ?_
    refine lv_iload_n hx hb dH_occupy_18 rfl (lv_at hl 0 rfl) ?_
    refine lv_iconst (v := (nI (1))) hx hb dH_occupy_19 (by decide) ?_
    refine sH_ST X Y (k := q / 4) (⟨1, by omega⟩) rfl (by omega) dH_occupy_20 (fun H locs Y => ?_)
    refine lv_aload_n hx hb dH_occupy_21 rfl (lv_at hl 1 rfl) ?_
    refine rH_CT X Y dH_occupy_22 ?_
    refine lv_iload_n hx hb dH_occupy_25 rfl (lv_at hl 0 rfl) ?_
    refine lv_iconst (v := (nI (0))) hx hb dH_occupy_26 (by decide) ?_
    refine sH_CT X Y (k := q / 4) ((nI (0))) rfl (by omega) dH_occupy_27 (fun H locs Y => ?_)
    refine lv_aload_n hx hb dH_occupy_28 rfl (lv_at hl 1 rfl) ?_
    refine rH_US X Y dH_occupy_29 ?_
    refine lv_iload_n hx hb dH_occupy_32 rfl (lv_at hl 0 rfl) ?_
    refine lv_iconst (v := (nI (1))) hx hb dH_occupy_33 (by decide) ?_
    refine sH_US X Y (k := q / 4) true (by decide) (by omega) dH_occupy_34 (fun H locs Y => ?_)
    refine lv_aload_n hx hb dH_occupy_35 rfl (lv_at hl 1 rfl) ?_
    refine rH_TK X Y dH_occupy_36 ?_
    refine lv_iload_n hx hb dH_occupy_39 rfl (lv_at hl 2 rfl) ?_
    refine lv_iconst (v := (nI (1))) hx hb dH_occupy_40 (by decide) ?_
    refine sH_TK X Y (k := q) true (by decide) (by omega) dH_occupy_41 (fun H locs Y => ?_)
    have E : uH_TK (uH_US (uH_CT (uH_ST s (q / 4) (⟨1, by omega⟩)) (q / 4) ((nI (0)))) (q / 4) true) q true = h_occupy q s := by simp [h_occupy, h_oc1, h11]
    rw [E] at Y
    exact ret _ _ _ _ Y dH_occupy_42
set_option maxHeartbeats 1000000 in
set_option maxRecDepth 100000 in
theorem tH_takePlace (l : Launch) (g : GG) (a : Nat → Nat) (ha : apH a) (s : HS) (b : Bool) : Ci l g (wldH g a) (adH a) yH_takePlace kH_takePlace ({ frames := 4, cells := 0, slots := 0, locals := 86 }) [.ref (a 0), .int (bI (b))] s (oI (h_tkp s)) (h_tks b s) := by
  have hD := wldH_D (g := g) ha
  refine Ci.of (own := RH) (cc := cH_takePlace) (nL := 3) hD (by decide) rfl (Nat.le_of_ble_eq_true rfl) ?_
  intro p e S m args below meth c Q X ret H locs ls Y hl
  have hx := X.1
  have hb := X.2.1
  have hl : lv_has ls 3 [(0, .ref (a 0)), (1, .int (bI (b)))] := hl
  refine lv_aload_n hx hb dH_takePlace_0 rfl (lv_at hl 0 rfl) ?_
  refine cl_vi (na := 0) (rest := []) X hD Y (tH_freePlaceOnPagesIn l g a ha s  ) gH_H_freePlaceOnPagesIn (by decide +kernel) rfl rfl rfl ⟨rfl, rfl⟩ ⟨Nat.le_of_ble_eq_true rfl, Nat.le_of_ble_eq_true rfl⟩ ⟨Nat.zero_le _, Nat.zero_le _⟩ hl.1 rfl (Nat.le_of_ble_eq_true rfl) dH_takePlace_1 (fun H locs Y => ?_)
  refine lv_istore_n (lv' := [(2, .int (oI (h_free s))), (0, .ref (a 0)), (1, .int (bI (b)))]) hx hb dH_takePlace_4 rfl hl (by decide) rfl (fun ls hl => ?_)
  refine lv_iload_n hx hb dH_takePlace_5 rfl (lv_at hl 0 rfl) ?_
  refine lv_iconst (v := (-1)) hx hb dH_takePlace_6 (by decide) ?_
  refine bo_ne (tgt := 28) hx hb dH_takePlace_7 (by decide) (fun k2 h7 => ?_) (fun h7 => ?_)
  · skip
    have hq3 := k2.isLt
    refine lv_iload_n hx hb dH_takePlace_28 rfl (lv_at hl 0 rfl) ?_
    refine bn_top (y := nI k2.val) (by rw [h7]; rfl) ?_
    refine lv_iconst (v := (-1)) hx hb dH_takePlace_29 (by decide) ?_
    refine bm_eq (tgt := 38) hx hb dH_takePlace_30 (by decide) (by omega) ?_
    refine lv_aload_n hx hb dH_takePlace_33 rfl (lv_at hl 1 rfl) ?_
    refine lv_iload_n hx hb dH_takePlace_34 rfl (lv_at hl 0 rfl) ?_
    refine bn_top (y := nI k2.val) (by rw [h7]; rfl) ?_
    refine cl_vv (na := 1) (rest := []) X hD Y (tH_occupy l g a ha s k2.val (by omega)) gH_H_occupy (by decide +kernel) rfl rfl rfl ⟨rfl, rfl⟩ ⟨Nat.le_of_ble_eq_true rfl, Nat.le_of_ble_eq_true rfl⟩ ⟨Nat.zero_le _, Nat.zero_le _⟩ hl.1 rfl (Nat.le_of_ble_eq_true rfl) dH_takePlace_35 (fun H locs Y => ?_)
    refine lv_iload_n hx hb dH_takePlace_38 rfl (lv_at hl 0 rfl) ?_
    refine bn_top (y := nI k2.val) (by rw [h7]; rfl) ?_
    have E : h_occupy k2.val s = h_tks b s := by first | rw [h_tks_1 h7] | rw [h_tks_2 h7 h17, if_pos h21] | rw [h_tks_2 h7 h17, if_neg (by rw [h21]; decide)] | rw [h_tks_3 h7 h17]
    rw [E] at Y
    exact ret _ _ _ _ _ Y (by first | (rw [h_tkp_1 h7]; rfl) | (rw [h_tkp_2 h7, h17]; rfl)) dH_takePlace_39
  · skip
    refine lv_aload_n hx hb dH_takePlace_10 rfl (lv_at hl 1 rfl) ?_
    refine cl_vi (na := 0) (rest := []) X hD Y (tH_placeOnEmptyPage l g a ha s  ) gH_H_placeOnEmptyPage (by decide +kernel) rfl rfl rfl ⟨rfl, rfl⟩ ⟨Nat.le_of_ble_eq_true rfl, Nat.le_of_ble_eq_true rfl⟩ ⟨Nat.zero_le _, Nat.zero_le _⟩ hl.1 rfl (Nat.le_of_ble_eq_true rfl) dH_takePlace_11 (fun H locs Y => ?_)
    refine lv_istore_n (lv' := [(2, .int (oI (h_empty s))), (0, .ref (a 0)), (1, .int (bI (b)))]) hx hb dH_takePlace_14 rfl hl (by decide) rfl (fun ls hl => ?_)
    refine lv_iload_n hx hb dH_takePlace_15 rfl (lv_at hl 0 rfl) ?_
    refine lv_iconst (v := (-1)) hx hb dH_takePlace_16 (by decide) ?_
    refine bo_eq (tgt := 28) hx hb dH_takePlace_17 (by decide) (fun h17 => ?_) (fun k6 h17 => ?_)
    · skip
      refine lv_iload_n hx hb dH_takePlace_28 rfl (lv_at hl 0 rfl) ?_
      refine bn_top (y := (-1)) (by rw [h17]; rfl) ?_
      refine lv_iconst (v := (-1)) hx hb dH_takePlace_29 (by decide) ?_
      refine bq_eq (tgt := 38) hx hb dH_takePlace_30 (by decide) ?_
      refine lv_iload_n hx hb dH_takePlace_38 rfl (lv_at hl 0 rfl) ?_
      refine bn_top (y := (-1)) (by rw [h17]; rfl) ?_
      have E : s = h_tks b s := by first | rw [h_tks_1 h7] | rw [h_tks_2 h7 h17, if_pos h21] | rw [h_tks_2 h7 h17, if_neg (by rw [h21]; decide)] | rw [h_tks_3 h7 h17]
      rw [E] at Y
      exact ret _ _ _ _ _ Y (by first | (rw [h_tkp_1 h7]; rfl) | (rw [h_tkp_2 h7, h17]; rfl)) dH_takePlace_39
    · skip
      have hq7 := k6.isLt
      refine lv_iload_n hx hb dH_takePlace_20 rfl (lv_at hl 2 rfl) ?_
      refine bb_eq (tgt := 28) hx hb dH_takePlace_21 (by decide) (fun h21 => ?_) (fun h21 => ?_)
      · skip
        refine lv_iload_n hx hb dH_takePlace_28 rfl (lv_at hl 0 rfl) ?_
        refine bn_top (y := nI k6.val) (by rw [h17]; rfl) ?_
        refine lv_iconst (v := (-1)) hx hb dH_takePlace_29 (by decide) ?_
        refine bm_eq (tgt := 38) hx hb dH_takePlace_30 (by decide) (by omega) ?_
        refine lv_aload_n hx hb dH_takePlace_33 rfl (lv_at hl 1 rfl) ?_
        refine lv_iload_n hx hb dH_takePlace_34 rfl (lv_at hl 0 rfl) ?_
        refine bn_top (y := nI k6.val) (by rw [h17]; rfl) ?_
        refine cl_vv (na := 1) (rest := []) X hD Y (tH_occupy l g a ha s k6.val (by omega)) gH_H_occupy (by decide +kernel) rfl rfl rfl ⟨rfl, rfl⟩ ⟨Nat.le_of_ble_eq_true rfl, Nat.le_of_ble_eq_true rfl⟩ ⟨Nat.zero_le _, Nat.zero_le _⟩ hl.1 rfl (Nat.le_of_ble_eq_true rfl) dH_takePlace_35 (fun H locs Y => ?_)
        refine lv_iload_n hx hb dH_takePlace_38 rfl (lv_at hl 0 rfl) ?_
        refine bn_top (y := nI k6.val) (by rw [h17]; rfl) ?_
        have E : h_occupy k6.val s = h_tks b s := by first | rw [h_tks_1 h7] | rw [h_tks_2 h7 h17, if_pos h21] | rw [h_tks_2 h7 h17, if_neg (by rw [h21]; decide)] | rw [h_tks_3 h7 h17]
        rw [E] at Y
        exact ret _ _ _ _ _ Y (by first | (rw [h_tkp_1 h7]; rfl) | (rw [h_tkp_2 h7, h17]; rfl)) dH_takePlace_39
      · skip
        refine lv_aload_n hx hb dH_takePlace_24 rfl (lv_at hl 1 rfl) ?_
        refine cl_vv (na := 0) (rest := []) X hD Y (tH_makeRoomForPage l g a ha s  ) gH_H_makeRoomForPage (by decide +kernel) rfl rfl rfl ⟨rfl, rfl⟩ ⟨Nat.le_of_ble_eq_true rfl, Nat.le_of_ble_eq_true rfl⟩ ⟨Nat.zero_le _, Nat.zero_le _⟩ hl.1 rfl (Nat.le_of_ble_eq_true rfl) dH_takePlace_25 (fun H locs Y => ?_)
        refine lv_iload_n hx hb dH_takePlace_28 rfl (lv_at hl 0 rfl) ?_
        refine bn_top (y := nI k6.val) (by rw [h17]; rfl) ?_
        refine lv_iconst (v := (-1)) hx hb dH_takePlace_29 (by decide) ?_
        refine bm_eq (tgt := 38) hx hb dH_takePlace_30 (by decide) (by omega) ?_
        refine lv_aload_n hx hb dH_takePlace_33 rfl (lv_at hl 1 rfl) ?_
        refine lv_iload_n hx hb dH_takePlace_34 rfl (lv_at hl 0 rfl) ?_
        refine bn_top (y := nI k6.val) (by rw [h17]; rfl) ?_
        refine cl_vv (na := 1) (rest := []) X hD Y (tH_occupy l g a ha (h_room s) k6.val (by omega)) gH_H_occupy (by decide +kernel) rfl rfl rfl ⟨rfl, rfl⟩ ⟨Nat.le_of_ble_eq_true rfl, Nat.le_of_ble_eq_true rfl⟩ ⟨Nat.zero_le _, Nat.zero_le _⟩ hl.1 rfl (Nat.le_of_ble_eq_true rfl) dH_takePlace_35 (fun H locs Y => ?_)
        refine lv_iload_n hx hb dH_takePlace_38 rfl (lv_at hl 0 rfl) ?_
        refine bn_top (y := nI k6.val) (by rw [h17]; rfl) ?_
        have E : h_occupy k6.val (h_room s) = h_tks b s := by first | rw [h_tks_1 h7] | rw [h_tks_2 h7 h17, if_pos h21] | rw [h_tks_2 h7 h17, if_neg (by rw [h21]; decide)] | rw [h_tks_3 h7 h17]
        rw [E] at Y
        exact ret _ _ _ _ _ Y (by first | (rw [h_tkp_1 h7]; rfl) | (rw [h_tkp_2 h7, h17]; rfl)) dH_takePlace_39
set_option maxHeartbeats 1000000 in
set_option maxRecDepth 100000 in
theorem tH_takePlaceThoroughly (l : Launch) (g : GG) (a : Nat → Nat) (ha : apH a) (s : HS)  : Ci l g (wldH g a) (adH a) yH_takePlaceThoroughly kH_takePlaceThoroughly ({ frames := 5, cells := 0, slots := 0, locals := 108 }) [.ref (a 0)] s (oI (h_ttp s)) (h_tts s) := by
  have hD := wldH_D (g := g) ha
  refine Ci.of (own := RH) (cc := cH_takePlaceThoroughly) (nL := 2) hD (by decide) rfl (Nat.le_of_ble_eq_true rfl) ?_
  intro p e S m args below meth c Q X ret H locs ls Y hl
  have hx := X.1
  have hb := X.2.1
  have hl : lv_has ls 2 [(0, .ref (a 0))] := hl
  refine lv_aload_n hx hb dH_takePlaceThoroughly_0 rfl (lv_at hl 0 rfl) ?_
  refine cl_vv (na := 0) (rest := []) X hD Y (tH_bringInAll l g a ha s  ) gH_H_bringInAll (by decide +kernel) rfl rfl rfl ⟨rfl, rfl⟩ ⟨Nat.le_of_ble_eq_true rfl, Nat.le_of_ble_eq_true rfl⟩ ⟨Nat.zero_le _, Nat.zero_le _⟩ hl.1 rfl (Nat.le_of_ble_eq_true rfl) dH_takePlaceThoroughly_1 (fun H locs Y => ?_)
  refine lv_aload_n hx hb dH_takePlaceThoroughly_4 rfl (lv_at hl 0 rfl) ?_
  refine cl_vi (na := 0) (rest := []) X hD Y (tH_collectWithin l g a ha (h_bringAll s)  ) gH_H_collectWithin (by decide +kernel) rfl rfl rfl ⟨rfl, rfl⟩ ⟨Nat.le_of_ble_eq_true rfl, Nat.le_of_ble_eq_true rfl⟩ ⟨Nat.zero_le _, Nat.zero_le _⟩ hl.1 rfl (Nat.le_of_ble_eq_true rfl) dH_takePlaceThoroughly_5 (fun H locs Y => ?_)
  refine lv_pop hx hb dH_takePlaceThoroughly_8 rfl ?_
  refine lv_aload_n hx hb dH_takePlaceThoroughly_9 rfl (lv_at hl 0 rfl) ?_
  refine lv_iconst (v := (nI (0))) hx hb dH_takePlaceThoroughly_10 (by decide) ?_
  refine cl_vi (na := 1) (rest := []) X hD Y (tH_takePlace l g a ha (h_collect (h_bringAll s)) false ) gH_H_takePlace (by decide +kernel) rfl rfl rfl ⟨rfl, rfl⟩ ⟨Nat.le_of_ble_eq_true rfl, Nat.le_of_ble_eq_true rfl⟩ ⟨Nat.zero_le _, Nat.zero_le _⟩ hl.1 rfl (Nat.le_of_ble_eq_true rfl) dH_takePlaceThoroughly_11 (fun H locs Y => ?_)
  refine lv_istore_n (lv' := [(1, .int (oI (h_tkp (h_collect (h_bringAll s))))), (0, .ref (a 0))]) hx hb dH_takePlaceThoroughly_14 rfl hl (by decide) rfl (fun ls hl => ?_)
  refine lv_aload_n hx hb dH_takePlaceThoroughly_15 rfl (lv_at hl 1 rfl) ?_
  refine lv_iload_n hx hb dH_takePlaceThoroughly_16 rfl (lv_at hl 0 rfl) ?_
  refine lv_iconst (v := (-1)) hx hb dH_takePlaceThoroughly_17 (by decide) ?_
  refine bo_ne (tgt := 25) hx hb dH_takePlaceThoroughly_18 (by decide) (fun k4 h18 => ?_) (fun h18 => ?_)
  · skip
    have hq5 := k4.isLt
    refine lv_iload_n hx hb dH_takePlaceThoroughly_25 rfl (lv_at hl 0 rfl) ?_
    refine bn_top (y := nI k4.val) (by rw [h18]; rfl) ?_
    refine cl_s (na := 1) (rest := [.ref (a 0)]) X Y (tH_pageOf l k4.val (by omega)) gH_H_pageOf (by decide +kernel) rfl ⟨rfl, rfl⟩ ⟨Nat.le_of_ble_eq_true rfl, Nat.le_of_ble_eq_true rfl⟩ ⟨Nat.zero_le _, Nat.zero_le _⟩ hl.1 rfl (Nat.le_of_ble_eq_true rfl) dH_takePlaceThoroughly_26 (fun H locs Y => ?_)
    refine cl_vi (na := 1) (rest := []) X hD Y (tH_putOutBeyondBudget l g a ha (h_tks false (h_collect (h_bringAll s))) ((nI (k4.val / 4))) ) gH_H_putOutBeyondBudget (by decide +kernel) rfl rfl rfl ⟨rfl, rfl⟩ ⟨Nat.le_of_ble_eq_true rfl, Nat.le_of_ble_eq_true rfl⟩ ⟨Nat.zero_le _, Nat.zero_le _⟩ hl.1 rfl (Nat.le_of_ble_eq_true rfl) dH_takePlaceThoroughly_29 (fun H locs Y => ?_)
    refine lv_pop hx hb dH_takePlaceThoroughly_32 rfl ?_
    refine lv_iload_n hx hb dH_takePlaceThoroughly_33 rfl (lv_at hl 0 rfl) ?_
    refine bn_top (y := nI k4.val) (by rw [h18]; rfl) ?_
    have E : h_beyond ((nI (k4.val / 4))) (h_tks false (h_collect (h_bringAll s))) = h_tts s := by unfold h_tts h_tt0; rw [h18]; rfl
    rw [E] at Y
    exact ret _ _ _ _ _ Y (by unfold h_ttp h_tt0; rw [h18]; rfl) dH_takePlaceThoroughly_34
  · skip
    refine lv_iconst (v := (-1)) hx hb dH_takePlaceThoroughly_21 (by decide) ?_
    refine lv_goto (tgt := 29) hx hb dH_takePlaceThoroughly_22 (by decide) ?_
    refine cl_vi (na := 1) (rest := []) X hD Y (tH_putOutBeyondBudget l g a ha (h_tks false (h_collect (h_bringAll s))) ((-1)) ) gH_H_putOutBeyondBudget (by decide +kernel) rfl rfl rfl ⟨rfl, rfl⟩ ⟨Nat.le_of_ble_eq_true rfl, Nat.le_of_ble_eq_true rfl⟩ ⟨Nat.zero_le _, Nat.zero_le _⟩ hl.1 rfl (Nat.le_of_ble_eq_true rfl) dH_takePlaceThoroughly_29 (fun H locs Y => ?_)
    refine lv_pop hx hb dH_takePlaceThoroughly_32 rfl ?_
    refine lv_iload_n hx hb dH_takePlaceThoroughly_33 rfl (lv_at hl 0 rfl) ?_
    refine bn_top (y := (-1)) (by rw [h18]; rfl) ?_
    have E : h_beyond ((-1)) (h_tks false (h_collect (h_bringAll s))) = h_tts s := by unfold h_tts h_tt0; rw [h18]; rfl
    rw [E] at Y
    exact ret _ _ _ _ _ Y (by unfold h_ttp h_tt0; rw [h18]; rfl) dH_takePlaceThoroughly_34
end
section
/-! written by wip/whole/specH.py -/
set_option maxHeartbeats 1000000 in
set_option maxRecDepth 100000 in
theorem tH_collect (l : Launch) (g : GG) (a : Nat → Nat) (ha : apH a) (s : HS)  : Ci l g (wldH g a) (adH a) yH_collect kH_collect ({ frames := 4, cells := 0, slots := 0, locals := 85 }) [.ref (a 0)] s (nI (h_gone s)) (h_collect s) := by
  have hD := wldH_D (g := g) ha
  refine Ci.of (own := RH) (cc := cH_collect) (nL := 1) hD (by decide) rfl (Nat.le_of_ble_eq_true rfl) ?_
  intro p e S m args below meth c Q X ret H locs ls Y hl
  have hx := X.1
  have hb := X.2.1
  have hl : lv_has ls 1 [(0, .ref (a 0))] := hl
  refine lv_aload_n hx hb dH_collect_0 rfl (lv_at hl 0 rfl) ?_
  refine cl_vi (na := 0) (rest := []) X hD Y (tH_collectWithin l g a ha s  ) gH_H_collectWithin (by decide +kernel) rfl rfl rfl ⟨rfl, rfl⟩ ⟨Nat.le_of_ble_eq_true rfl, Nat.le_of_ble_eq_true rfl⟩ ⟨Nat.zero_le _, Nat.zero_le _⟩ hl.1 rfl (Nat.le_of_ble_eq_true rfl) dH_collect_1 (fun H locs Y => ?_)
  exact ret _ _ _ _ _ Y (rfl) dH_collect_4
set_option maxHeartbeats 1000000 in
set_option maxRecDepth 100000 in
theorem tH_thorough (l : Launch) (g : GG) (a : Nat → Nat) (ha : apH a) (s : HS)  : Ci l g (wldH g a) (adH a) yH_thorough kH_thorough ({ frames := 4, cells := 0, slots := 0, locals := 89 }) [.ref (a 0)] s (nI (h_gone (h_bringAll s))) (h_beyond (-1) (h_collect (h_bringAll s))) := by
  have hD := wldH_D (g := g) ha
  refine Ci.of (own := RH) (cc := cH_thorough) (nL := 2) hD (by decide) rfl (Nat.le_of_ble_eq_true rfl) ?_
  intro p e S m args below meth c Q X ret H locs ls Y hl
  have hx := X.1
  have hb := X.2.1
  have hl : lv_has ls 2 [(0, .ref (a 0))] := hl
  refine lv_aload_n hx hb dH_thorough_0 rfl (lv_at hl 0 rfl) ?_
  refine cl_vv (na := 0) (rest := []) X hD Y (tH_bringInAll l g a ha s  ) gH_H_bringInAll (by decide +kernel) rfl rfl rfl ⟨rfl, rfl⟩ ⟨Nat.le_of_ble_eq_true rfl, Nat.le_of_ble_eq_true rfl⟩ ⟨Nat.zero_le _, Nat.zero_le _⟩ hl.1 rfl (Nat.le_of_ble_eq_true rfl) dH_thorough_1 (fun H locs Y => ?_)
  refine lv_aload_n hx hb dH_thorough_4 rfl (lv_at hl 0 rfl) ?_
  refine cl_vi (na := 0) (rest := []) X hD Y (tH_collectWithin l g a ha (h_bringAll s)  ) gH_H_collectWithin (by decide +kernel) rfl rfl rfl ⟨rfl, rfl⟩ ⟨Nat.le_of_ble_eq_true rfl, Nat.le_of_ble_eq_true rfl⟩ ⟨Nat.zero_le _, Nat.zero_le _⟩ hl.1 rfl (Nat.le_of_ble_eq_true rfl) dH_thorough_5 (fun H locs Y => ?_)
  refine lv_istore_n (lv' := [(1, .int (nI (h_gone (h_bringAll s)))), (0, .ref (a 0))]) hx hb dH_thorough_8 rfl hl (by decide) rfl (fun ls hl => ?_)
  refine lv_aload_n hx hb dH_thorough_9 rfl (lv_at hl 1 rfl) ?_
  refine lv_iconst (v := (-1)) hx hb dH_thorough_10 (by decide) ?_
  refine cl_vi (na := 1) (rest := []) X hD Y (tH_putOutBeyondBudget l g a ha (h_collect (h_bringAll s)) ((-1)) ) gH_H_putOutBeyondBudget (by decide +kernel) rfl rfl rfl ⟨rfl, rfl⟩ ⟨Nat.le_of_ble_eq_true rfl, Nat.le_of_ble_eq_true rfl⟩ ⟨Nat.zero_le _, Nat.zero_le _⟩ hl.1 rfl (Nat.le_of_ble_eq_true rfl) dH_thorough_11 (fun H locs Y => ?_)
  refine lv_pop hx hb dH_thorough_14 rfl ?_
  refine lv_iload_n hx hb dH_thorough_15 rfl (lv_at hl 0 rfl) ?_
  have E : h_beyond ((-1)) (h_collect (h_bringAll s)) = h_beyond (-1) (h_collect (h_bringAll s)) := rfl
  rw [E] at Y
  exact ret _ _ _ _ _ Y (rfl) dH_thorough_16
set_option maxHeartbeats 1000000 in
set_option maxRecDepth 100000 in
theorem tH_faults (l : Launch) (g : GG) (a : Nat → Nat) (ha : apH a) (s : HS)  : Ci l g (wldH g a) (adH a) yH_faults kH_faults ({ frames := 0, cells := 0, slots := 0, locals := 0 }) [.ref (a 0)] s (gH_FA s) s := by
  have hD := wldH_D (g := g) ha
  refine Ci.of (own := RH) (cc := cH_faults) (nL := 1) hD (by decide) rfl (Nat.le_of_ble_eq_true rfl) ?_
  intro p e S m args below meth c Q X ret H locs ls Y hl
  have hx := X.1
  have hb := X.2.1
  have hl : lv_has ls 1 [(0, .ref (a 0))] := hl
  refine lv_aload_n hx hb dH_faults_0 rfl (lv_at hl 0 rfl) ?_
  refine rH_FA X Y dH_faults_1 ?_
  exact ret _ _ _ _ _ Y (rfl) dH_faults_4
set_option maxHeartbeats 1000000 in
set_option maxRecDepth 100000 in
theorem tH_objects (l : Launch) (g : GG) (a : Nat → Nat) (ha : apH a) (s : HS)  : Ci l g (wldH g a) (adH a) yH_objects kH_objects ({ frames := 0, cells := 0, slots := 0, locals := 0 }) [.ref (a 0)] s (nI (h_objects s)) s := by
  have hD := wldH_D (g := g) ha
  refine Ci.of (own := RH) (cc := cH_objects) (nL := 3) hD (by decide) rfl (Nat.le_of_ble_eq_true rfl) ?_
  intro p e S m args below meth c Q X ret H locs ls Y hl
  have hx := X.1
  have hb := X.2.1
  have hl : lv_has ls 3 [(0, .ref (a 0))] := hl
  refine lv_iconst (v := (nI (0))) hx hb dH_objects_0 (by decide) ?_
  refine lv_istore_n (lv' := [(1, .int (nI (0))), (0, .ref (a 0))]) hx hb dH_objects_1 rfl hl (by decide) rfl (fun ls hl => ?_)
  refine lv_iconst (v := (nI (0))) hx hb dH_objects_2 (by decide) ?_
  refine lv_istore_n (lv' := [(2, .int (nI (0))), (1, .int (nI (0))), (0, .ref (a 0))]) hx hb dH_objects_3 rfl hl (by decide) rfl (fun ls hl => ?_)
  have loop4 : ∀ (n4 i4 : Nat) (k4 : Nat), i4 ≤ 32 → 32 < i4 + n4 → (cntN (gH_TK s) i4 = k4) → (k4 ≤ i4) → ∀ (H : Heap) (locs : List Loc) (ls : Array Slot), Yw g (wldH g a) (adH a) S H locs s → lv_has ls 3 [(0, .ref (a 0)), (1, .int (nI (k4))), (2, .int (nI (i4)))] → W p l e ({ frames := 0, cells := 0, slots := 0, locals := 0 }) S m args below meth c H locs 0 0 Q (F0 m 4 ls []) := by
    intro n4
    induction n4 with
    | zero =>
      intro i4 k4 b1 b2
      exact absurd b2 (by omega)
    | succ n4 ih4 =>
      intro i4 k4 hi4 hn4 ek4 hk4 H locs ls Y hl
      refine lv_iload_n hx hb dH_objects_4 rfl (lv_at hl 2 rfl) ?_
      refine lv_bipush (v := (nI (32))) hx hb dH_objects_5 (by decide) ?_
      refine bn_ge (tgt := 28) hx hb dH_objects_7 (by decide) (by omega) (by omega) (fun h7 => ?_) (fun h7 => ?_)
      · skip
        obtain rfl : i4 = 32 := by omega
        subst ek4
        refine lv_iload_n hx hb dH_objects_28 rfl (lv_at hl 1 rfl) ?_
        exact ret _ _ _ _ _ Y (rfl) dH_objects_29
      · skip
        refine lv_aload_n hx hb dH_objects_10 rfl (lv_at hl 0 rfl) ?_
        refine rH_TK X Y dH_objects_11 ?_
        refine lv_iload_n hx hb dH_objects_14 rfl (lv_at hl 2 rfl) ?_
        refine lH_TK X Y (k := i4) (by omega) dH_objects_15 ?_
        refine bb_eq (tgt := 22) hx hb dH_objects_16 (by decide) (fun h16 => ?_) (fun h16 => ?_)
        · skip
          refine lv_iinc (v := (nI (i4 + 1))) (lv' := [(2, .int (nI (i4 + 1))), (0, .ref (a 0)), (1, .int (nI (k4)))]) hx hb dH_objects_22 hl (k := 2) rfl (nI_1 _) (by decide) rfl (fun ls hl => ?_)
          refine lv_goto (tgt := 4) hx hb dH_objects_25 (by decide) ?_
          exact ih4 (i4 + 1) k4 (by omega) (by omega) (by show cntN (gH_TK s) i4 + _ = _; rw [ek4]; simp [h7, h16]) (by omega) _ _ _ Y (lv_sub hl [1, 2, 0] rfl)
        · skip
          refine lv_iinc (v := (nI (k4 + 1))) (lv' := [(1, .int (nI (k4 + 1))), (0, .ref (a 0)), (2, .int (nI (i4)))]) hx hb dH_objects_19 hl (k := 1) rfl (nI_1 _) (by decide) rfl (fun ls hl => ?_)
          refine lv_iinc (v := (nI (i4 + 1))) (lv' := [(2, .int (nI (i4 + 1))), (1, .int (nI (k4 + 1))), (0, .ref (a 0))]) hx hb dH_objects_22 hl (k := 2) rfl (nI_1 _) (by decide) rfl (fun ls hl => ?_)
          refine lv_goto (tgt := 4) hx hb dH_objects_25 (by decide) ?_
          exact ih4 (i4 + 1) (k4 + 1) (by omega) (by omega) (by show cntN (gH_TK s) i4 + _ = _; rw [ek4]; simp [h7, h16]) (by omega) _ _ _ Y (lv_sub hl [2, 1, 0] rfl)
  exact loop4 (32 + 1) 0 0 (by omega) (by omega) (rfl) (Nat.le_refl 0) _ _ _ Y (lv_sub hl [2, 1, 0] rfl)
set_option maxHeartbeats 1000000 in
set_option maxRecDepth 100000 in
theorem tH_page (l : Launch) (g : GG) (a : Nat → Nat) (ha : apH a) (s : HS) (q : Int32) : Ci l g (wldH g a) (adH a) yH_page kH_page ({ frames := 1, cells := 0, slots := 0, locals := 20 }) [.ref (a 0), .int (q)] s (h_page s q) s := by
  have hD := wldH_D (g := g) ha
  refine Ci.of (own := RH) (cc := cH_page) (nL := 2) hD (by decide) rfl (Nat.le_of_ble_eq_true rfl) ?_
  intro p e S m args below meth c Q X ret H locs ls Y hl
  have hx := X.1
  have hb := X.2.1
  have hl : lv_has ls 2 [(0, .ref (a 0)), (1, .int (q))] := hl
  refine lv_iload_n hx hb dH_page_0 rfl (lv_at hl 1 rfl) ?_
  refine cl_s (na := 1) (rest := []) X Y (tH_isPage l ((q)) ) gH_H_isPage (by decide +kernel) rfl ⟨rfl, rfl⟩ ⟨Nat.le_of_ble_eq_true rfl, Nat.le_of_ble_eq_true rfl⟩ ⟨Nat.zero_le _, Nat.zero_le _⟩ hl.1 rfl (Nat.le_of_ble_eq_true rfl) dH_page_1 (fun H locs Y => ?_)
  refine bb_ne (tgt := 9) hx hb dH_page_4 (by decide) (fun h4 => ?_) (fun h4 => ?_)
  · skip
    obtain ⟨j, hj, rfl⟩ := h_pg_of h4
    have hcl : (nI j).toNatClampNeg = j := nI_clamp (by omega)
    refine lv_aload_n hx hb dH_page_9 rfl (lv_at hl 0 rfl) ?_
    refine rH_ST X Y dH_page_10 ?_
    refine lv_iload_n hx hb dH_page_13 rfl (lv_at hl 1 rfl) ?_
    refine lH_ST X Y (k := j) (by omega) dH_page_14 ?_
    have hq2 := (gH_ST s j).isLt
    refine bz_ne (tgt := 20) hx hb dH_page_15 (by decide) (by omega) (fun h15 => ?_) (fun h15 => ?_)
    · skip
      refine lv_aload_n hx hb dH_page_20 rfl (lv_at hl 0 rfl) ?_
      refine rH_ST X Y dH_page_21 ?_
      refine lv_iload_n hx hb dH_page_24 rfl (lv_at hl 1 rfl) ?_
      refine lH_ST X Y (k := j) (by omega) dH_page_25 ?_
      have hq3 := (gH_ST s j).isLt
      refine lv_iconst (v := (nI (2))) hx hb dH_page_26 (by decide) ?_
      refine bn_ne (tgt := 32) hx hb dH_page_27 (by decide) (by omega) (by omega) (fun h27 => ?_) (fun h27 => ?_)
      · skip
        refine lv_aload_n hx hb dH_page_32 rfl (lv_at hl 0 rfl) ?_
        refine rH_US X Y dH_page_33 ?_
        refine lv_iload_n hx hb dH_page_36 rfl (lv_at hl 1 rfl) ?_
        refine lH_US X Y (k := j) (by omega) dH_page_37 ?_
        refine bb_eq (tgt := 45) hx hb dH_page_38 (by decide) (fun h38 => ?_) (fun h38 => ?_)
        · skip
          refine lv_iconst (v := (nI (1))) hx hb dH_page_45 (by decide) ?_
          exact ret _ _ _ _ _ Y (by simp [h_page, hcl, h4, h15, h27, h38]) dH_page_46
        · skip
          refine lv_iconst (v := (nI (2))) hx hb dH_page_41 (by decide) ?_
          refine lv_goto (tgt := 46) hx hb dH_page_42 (by decide) ?_
          exact ret _ _ _ _ _ Y (by simp [h_page, hcl, h4, h15, h27, h38]) dH_page_46
      · skip
        refine lv_iconst (v := (nI (3))) hx hb dH_page_30 (by decide) ?_
        exact ret _ _ _ _ _ Y (by simp [h_page, hcl, h4, h15, h27]) dH_page_31
    · skip
      refine lv_iconst (v := (nI (0))) hx hb dH_page_18 (by decide) ?_
      exact ret _ _ _ _ _ Y (by simp [h_page, hcl, h4, h15]) dH_page_19
  · skip
    refine lv_iconst (v := (-1)) hx hb dH_page_7 (by decide) ?_
    exact ret _ _ _ _ _ Y (by simp [h_page, h4]) dH_page_8
set_option maxHeartbeats 1000000 in
set_option maxRecDepth 100000 in
theorem tH_count (l : Launch) (g : GG) (a : Nat → Nat) (ha : apH a) (s : HS) (q : Int32) : Ci l g (wldH g a) (adH a) yH_count kH_count ({ frames := 1, cells := 0, slots := 0, locals := 20 }) [.ref (a 0), .int (q)] s (h_count s q) s := by
  have hD := wldH_D (g := g) ha
  refine Ci.of (own := RH) (cc := cH_count) (nL := 2) hD (by decide) rfl (Nat.le_of_ble_eq_true rfl) ?_
  intro p e S m args below meth c Q X ret H locs ls Y hl
  have hx := X.1
  have hb := X.2.1
  have hl : lv_has ls 2 [(0, .ref (a 0)), (1, .int (q))] := hl
  refine lv_iload_n hx hb dH_count_0 rfl (lv_at hl 1 rfl) ?_
  refine cl_s (na := 1) (rest := []) X Y (tH_isPage l ((q)) ) gH_H_isPage (by decide +kernel) rfl ⟨rfl, rfl⟩ ⟨Nat.le_of_ble_eq_true rfl, Nat.le_of_ble_eq_true rfl⟩ ⟨Nat.zero_le _, Nat.zero_le _⟩ hl.1 rfl (Nat.le_of_ble_eq_true rfl) dH_count_1 (fun H locs Y => ?_)
  refine bb_eq (tgt := 16) hx hb dH_count_4 (by decide) (fun h4 => ?_) (fun h4 => ?_)
  · skip
    refine lv_iconst (v := (-1)) hx hb dH_count_16 (by decide) ?_
    exact ret _ _ _ _ _ Y (by first | simp [h_count, hcl, h4] | simp [h_count, h4]) dH_count_17
  · skip
    obtain ⟨j, hj, rfl⟩ := h_pg_of h4
    have hcl : (nI j).toNatClampNeg = j := nI_clamp (by omega)
    refine lv_aload_n hx hb dH_count_7 rfl (lv_at hl 0 rfl) ?_
    refine rH_CT X Y dH_count_8 ?_
    refine lv_iload_n hx hb dH_count_11 rfl (lv_at hl 1 rfl) ?_
    refine lH_CT X Y (k := j) (by omega) dH_count_12 ?_
    refine lv_goto (tgt := 17) hx hb dH_count_13 (by decide) ?_
    exact ret _ _ _ _ _ Y (by first | simp [h_count, hcl, h4] | simp [h_count, h4]) dH_count_17
set_option maxHeartbeats 1000000 in
set_option maxRecDepth 100000 in
theorem tH_places (l : Launch) (g : GG) (a : Nat → Nat) (ha : apH a) (s : HS) (q : Int32) : Ci l g (wldH g a) (adH a) yH_places kH_places ({ frames := 1, cells := 0, slots := 0, locals := 20 }) [.ref (a 0), .int (q)] s (h_places s q) s := by
  have hD := wldH_D (g := g) ha
  refine Ci.of (own := RH) (cc := cH_places) (nL := 5) hD (by decide) rfl (Nat.le_of_ble_eq_true rfl) ?_
  intro p e S m args below meth c Q X ret H locs ls Y hl
  have hx := X.1
  have hb := X.2.1
  have hl : lv_has ls 5 [(0, .ref (a 0)), (1, .int (q))] := hl
  refine lv_iload_n hx hb dH_places_0 rfl (lv_at hl 1 rfl) ?_
  refine cl_s (na := 1) (rest := []) X Y (tH_isPage l ((q)) ) gH_H_isPage (by decide +kernel) rfl ⟨rfl, rfl⟩ ⟨Nat.le_of_ble_eq_true rfl, Nat.le_of_ble_eq_true rfl⟩ ⟨Nat.zero_le _, Nat.zero_le _⟩ hl.1 rfl (Nat.le_of_ble_eq_true rfl) dH_places_1 (fun H locs Y => ?_)
  refine bb_ne (tgt := 9) hx hb dH_places_4 (by decide) (fun h4 => ?_) (fun h4 => ?_)
  · skip
    obtain ⟨j, hj, rfl⟩ := h_pg_of h4
    have hcl : (nI j).toNatClampNeg = j := nI_clamp (by omega)
    refine lv_iconst (v := (nI (0))) hx hb dH_places_9 (by decide) ?_
    refine lv_istore_n (lv' := [(2, .int (nI (0))), (0, .ref (a 0)), (1, .int (nI (j)))]) hx hb dH_places_10 rfl hl (by decide) rfl (fun ls hl => ?_)
    refine lv_iconst (v := (nI (0))) hx hb dH_places_11 (by decide) ?_
    refine lv_istore_n (lv' := [(3, .int (nI (0))), (2, .int (nI (0))), (0, .ref (a 0)), (1, .int (nI (j)))]) hx hb dH_places_12 rfl hl (by decide) rfl (fun ls hl => ?_)
    have loop13 : ∀ (n13 i13 : Nat) (k13 : Nat), i13 ≤ 4 → 4 < i13 + n13 → (fldN (h_pl1 s j) 0 i13 = k13) → ∀ (H : Heap) (locs : List Loc) (ls : Array Slot), Yw g (wldH g a) (adH a) S H locs s → lv_has ls 5 [(0, .ref (a 0)), (1, .int (nI (j))), (2, .int (nI (k13))), (3, .int (nI (i13)))] → W p l e ({ frames := 1, cells := 0, slots := 0, locals := 20 }) S m args below meth c H locs 0 0 Q (F0 m 13 ls []) := by
      intro n13
      induction n13 with
      | zero =>
        intro i13 k13 b1 b2
        exact absurd b2 (by omega)
      | succ n13 ih13 =>
        intro i13 k13 hi13 hn13 ek13 H locs ls Y hl
        refine lv_iload_n hx hb dH_places_13 rfl (lv_at hl 3 rfl) ?_
        refine lv_iconst (v := (nI (4))) hx hb dH_places_14 (by decide) ?_
        refine bn_ge (tgt := 64) hx hb dH_places_15 (by decide) (by omega) (by omega) (fun h15 => ?_) (fun h15 => ?_)
        · skip
          obtain rfl : i13 = 4 := by omega
          subst ek13
          refine lv_iload_n hx hb dH_places_64 rfl (lv_at hl 2 rfl) ?_
          exact ret _ _ _ _ _ Y (by simp [h_places, hcl, h4, h15]) dH_places_65
        · skip
          refine lv_iconst (v := (nI (4))) hx hb dH_places_18 (by decide) ?_
          refine lv_iload_n hx hb dH_places_19 rfl (lv_at hl 1 rfl) ?_
          refine bn_mul hx hb dH_places_20 ?_
          refine lv_iload_n hx hb dH_places_21 rfl (lv_at hl 3 rfl) ?_
          refine bn_add hx hb dH_places_22 ?_
          refine lv_istore (lv' := [(4, .int (nI ((4 * j) + i13))), (0, .ref (a 0)), (1, .int (nI (j))), (2, .int (nI (k13))), (3, .int (nI (i13)))]) hx hb dH_places_23 hl (by decide) rfl (fun ls hl => ?_)
          refine lv_aload_n hx hb dH_places_25 rfl (lv_at hl 1 rfl) ?_
          refine rH_TK X Y dH_places_26 ?_
          refine lv_iload hx hb dH_places_29 (lv_at hl 0 rfl) ?_
          refine lH_TK X Y (k := (4 * j) + i13) (by omega) dH_places_31 ?_
          refine bb_eq (tgt := 41) hx hb dH_places_32 (by decide) (fun h32 => ?_) (fun h32 => ?_)
          · skip
            refine lv_aload_n hx hb dH_places_41 rfl (lv_at hl 1 rfl) ?_
            refine rH_BM X Y dH_places_42 ?_
            refine lv_iload hx hb dH_places_45 (lv_at hl 0 rfl) ?_
            refine lH_BM X Y (k := (4 * j) + i13) (by omega) dH_places_47 ?_
            refine bb_eq (tgt := 58) hx hb dH_places_48 (by decide) (fun h48 => ?_) (fun h48 => ?_)
            · skip
              refine lv_iinc (v := (nI (i13 + 1))) (lv' := [(3, .int (nI (i13 + 1))), (4, .int (nI ((4 * j) + i13))), (0, .ref (a 0)), (1, .int (nI (j))), (2, .int (nI (k13)))]) hx hb dH_places_58 hl (k := 4) rfl (nI_1 _) (by decide) rfl (fun ls hl => ?_)
              refine lv_goto (tgt := 13) hx hb dH_places_61 (by decide) ?_
              exact ih13 (i13 + 1) k13 (by omega) (by omega) (by show h_pl1 s j i13 (fldN (h_pl1 s j) 0 i13) = _; rw [ek13]; simp [h_pl1, h4, h15, h32, h48]) _ _ _ Y (lv_sub hl [2, 3, 4, 0] rfl)
            · skip
              refine lv_iload_n hx hb dH_places_51 rfl (lv_at hl 3 rfl) ?_
              refine lv_bipush (v := (nI (16))) hx hb dH_places_52 (by decide) ?_
              refine lv_iload_n hx hb dH_places_54 rfl (lv_at hl 4 rfl) ?_
              refine lv_ishl hx hb dH_places_55 ?_
              refine bn_top (y := (nI (16 * 2 ^ i13))) (bn_shl4 (by omega) (by omega)) ?_
              refine bn_add hx hb dH_places_56 ?_
              refine lv_istore_n (lv' := [(2, .int (nI (k13 + (16 * 2 ^ i13)))), (4, .int (nI ((4 * j) + i13))), (0, .ref (a 0)), (1, .int (nI (j))), (3, .int (nI (i13)))]) hx hb dH_places_57 rfl hl (by decide) rfl (fun ls hl => ?_)
              refine lv_iinc (v := (nI (i13 + 1))) (lv' := [(3, .int (nI (i13 + 1))), (2, .int (nI (k13 + (16 * 2 ^ i13)))), (4, .int (nI ((4 * j) + i13))), (0, .ref (a 0)), (1, .int (nI (j)))]) hx hb dH_places_58 hl (k := 4) rfl (nI_1 _) (by decide) rfl (fun ls hl => ?_)
              refine lv_goto (tgt := 13) hx hb dH_places_61 (by decide) ?_
              exact ih13 (i13 + 1) (k13 + (16 * 2 ^ i13)) (by omega) (by omega) (by show h_pl1 s j i13 (fldN (h_pl1 s j) 0 i13) = _; rw [ek13]; simp [h_pl1, h4, h15, h32, h48]) _ _ _ Y (lv_sub hl [3, 4, 1, 0] rfl)
          · skip
            refine lv_iload_n hx hb dH_places_35 rfl (lv_at hl 3 rfl) ?_
            refine lv_iconst (v := (nI (1))) hx hb dH_places_36 (by decide) ?_
            refine lv_iload_n hx hb dH_places_37 rfl (lv_at hl 4 rfl) ?_
            refine lv_ishl hx hb dH_places_38 ?_
            refine bn_top (y := (nI (1 * 2 ^ i13))) (bn_shl4 (by omega) (by omega)) ?_
            refine bn_add hx hb dH_places_39 ?_
            refine lv_istore_n (lv' := [(2, .int (nI (k13 + (1 * 2 ^ i13)))), (4, .int (nI ((4 * j) + i13))), (0, .ref (a 0)), (1, .int (nI (j))), (3, .int (nI (i13)))]) hx hb dH_places_40 rfl hl (by decide) rfl (fun ls hl => ?_)
            refine lv_aload_n hx hb dH_places_41 rfl (lv_at hl 2 rfl) ?_
            refine rH_BM X Y dH_places_42 ?_
            refine lv_iload hx hb dH_places_45 (lv_at hl 1 rfl) ?_
            refine lH_BM X Y (k := (4 * j) + i13) (by omega) dH_places_47 ?_
            refine bb_eq (tgt := 58) hx hb dH_places_48 (by decide) (fun h48 => ?_) (fun h48 => ?_)
            · skip
              refine lv_iinc (v := (nI (i13 + 1))) (lv' := [(3, .int (nI (i13 + 1))), (2, .int (nI (k13 + (1 * 2 ^ i13)))), (4, .int (nI ((4 * j) + i13))), (0, .ref (a 0)), (1, .int (nI (j)))]) hx hb dH_places_58 hl (k := 4) rfl (nI_1 _) (by decide) rfl (fun ls hl => ?_)
              refine lv_goto (tgt := 13) hx hb dH_places_61 (by decide) ?_
              exact ih13 (i13 + 1) (k13 + (1 * 2 ^ i13)) (by omega) (by omega) (by show h_pl1 s j i13 (fldN (h_pl1 s j) 0 i13) = _; rw [ek13]; simp [h_pl1, h4, h15, h32, h48]) _ _ _ Y (lv_sub hl [3, 4, 1, 0] rfl)
            · skip
              refine lv_iload_n hx hb dH_places_51 rfl (lv_at hl 0 rfl) ?_
              refine lv_bipush (v := (nI (16))) hx hb dH_places_52 (by decide) ?_
              refine lv_iload_n hx hb dH_places_54 rfl (lv_at hl 4 rfl) ?_
              refine lv_ishl hx hb dH_places_55 ?_
              refine bn_top (y := (nI (16 * 2 ^ i13))) (bn_shl4 (by omega) (by omega)) ?_
              refine bn_add hx hb dH_places_56 ?_
              refine lv_istore_n (lv' := [(2, .int (nI ((k13 + (1 * 2 ^ i13)) + (16 * 2 ^ i13)))), (4, .int (nI ((4 * j) + i13))), (0, .ref (a 0)), (1, .int (nI (j))), (3, .int (nI (i13)))]) hx hb dH_places_57 rfl hl (by decide) rfl (fun ls hl => ?_)
              refine lv_iinc (v := (nI (i13 + 1))) (lv' := [(3, .int (nI (i13 + 1))), (2, .int (nI ((k13 + (1 * 2 ^ i13)) + (16 * 2 ^ i13)))), (4, .int (nI ((4 * j) + i13))), (0, .ref (a 0)), (1, .int (nI (j)))]) hx hb dH_places_58 hl (k := 4) rfl (nI_1 _) (by decide) rfl (fun ls hl => ?_)
              refine lv_goto (tgt := 13) hx hb dH_places_61 (by decide) ?_
              exact ih13 (i13 + 1) ((k13 + (1 * 2 ^ i13)) + (16 * 2 ^ i13)) (by omega) (by omega) (by show h_pl1 s j i13 (fldN (h_pl1 s j) 0 i13) = _; rw [ek13]; simp [h_pl1, h4, h15, h32, h48]) _ _ _ Y (lv_sub hl [3, 4, 1, 0] rfl)
    exact loop13 (4 + 1) 0 0 (by omega) (by omega) (rfl) _ _ _ Y (lv_sub hl [2, 3, 1, 0] rfl)
  · skip
    refine lv_iconst (v := (-1)) hx hb dH_places_7 (by decide) ?_
    exact ret _ _ _ _ _ Y (by simp [h_places, h4]) dH_places_8
set_option maxHeartbeats 1000000 in
set_option maxRecDepth 100000 in
theorem tH_hand (l : Launch) (g : GG) (a : Nat → Nat) (ha : apH a) (s : HS)  : Ci l g (wldH g a) (adH a) yH_hand kH_hand ({ frames := 0, cells := 0, slots := 0, locals := 0 }) [.ref (a 0)] s (nI ((gH_HA s).val)) s := by
  have hD := wldH_D (g := g) ha
  refine Ci.of (own := RH) (cc := cH_hand) (nL := 1) hD (by decide) rfl (Nat.le_of_ble_eq_true rfl) ?_
  intro p e S m args below meth c Q X ret H locs ls Y hl
  have hx := X.1
  have hb := X.2.1
  have hl : lv_has ls 1 [(0, .ref (a 0))] := hl
  refine lv_aload_n hx hb dH_hand_0 rfl (lv_at hl 0 rfl) ?_
  refine rH_HA X Y dH_hand_1 ?_
  have hq1 := (gH_HA s).isLt
  exact ret _ _ _ _ _ Y (rfl) dH_hand_4
end
section
/-! written by wip/whole/specM.py -/
set_option maxHeartbeats 1000000 in
set_option maxRecDepth 100000 in
theorem tM_register (l : Launch) (q : Int32) : Cs l yM_register kM_register ({ frames := 0, cells := 0, slots := 0, locals := 0 }) [.int (q)] (bI (m_reg q)) := by
  refine Cs.of (own := RM) (cc := cM_register) (nL := 1) (bI_nar _) (by decide) rfl (Nat.le_of_ble_eq_true rfl) ?_
  intro p e S m args below meth c Q hx hb ret ls hl
  have hl : lv_has ls 1 [(0, .int (q))] := hl
  refine lv_iload_n hx hb dM_register_0 rfl (lv_at hl 0 rfl) ?_
  refine lv_if_lt (tgt := 13) hx hb dM_register_1 (by decide) (fun h1 => ?_) (fun h1 => ?_)
  · skip
    refine lv_iconst (v := (nI (0))) hx hb dM_register_13 (by decide) ?_
    exact ret _ _ _ (by rw [show m_reg q = false by simp [m_reg, h1]]; decide) dM_register_14
  · skip
    refine lv_iload_n hx hb dM_register_4 rfl (lv_at hl 0 rfl) ?_
    refine lv_iconst (v := (nI (4))) hx hb dM_register_5 (by decide) ?_
    refine lv_icmp_ge (tgt := 13) hx hb dM_register_6 (by decide) (fun h6 => ?_) (fun h6 => ?_)
    · skip
      refine lv_iconst (v := (nI (0))) hx hb dM_register_13 (by decide) ?_
      exact ret _ _ _ (by rw [show m_reg q = false by simp [m_reg, h1, h6]]; decide) dM_register_14
    · skip
      refine lv_iconst (v := (nI (1))) hx hb dM_register_9 (by decide) ?_
      refine lv_goto (tgt := 14) hx hb dM_register_10 (by decide) ?_
      exact ret _ _ _ (by rw [show m_reg q = true by simp [m_reg, h1, h6]]; decide) dM_register_14
set_option maxHeartbeats 1000000 in
set_option maxRecDepth 100000 in
theorem tM_isPage (l : Launch) (q : Int32) : Cs l yM_isPage kM_isPage ({ frames := 0, cells := 0, slots := 0, locals := 0 }) [.int (q)] (bI (h_pg q)) := by
  refine Cs.of (own := RM) (cc := cM_isPage) (nL := 1) (bI_nar _) (by decide) rfl (Nat.le_of_ble_eq_true rfl) ?_
  intro p e S m args below meth c Q hx hb ret ls hl
  have hl : lv_has ls 1 [(0, .int (q))] := hl
  refine lv_iload_n hx hb dM_isPage_0 rfl (lv_at hl 0 rfl) ?_
  refine lv_if_lt (tgt := 14) hx hb dM_isPage_1 (by decide) (fun h1 => ?_) (fun h1 => ?_)
  · skip
    refine lv_iconst (v := (nI (0))) hx hb dM_isPage_14 (by decide) ?_
    exact ret _ _ _ (by rw [show h_pg q = false by simp [h_pg, h1]]; decide) dM_isPage_15
  · skip
    refine lv_iload_n hx hb dM_isPage_4 rfl (lv_at hl 0 rfl) ?_
    refine lv_bipush (v := (nI (8))) hx hb dM_isPage_5 (by decide) ?_
    refine lv_icmp_ge (tgt := 14) hx hb dM_isPage_7 (by decide) (fun h7 => ?_) (fun h7 => ?_)
    · skip
      refine lv_iconst (v := (nI (0))) hx hb dM_isPage_14 (by decide) ?_
      exact ret _ _ _ (by rw [show h_pg q = false by simp [h_pg, h1, h7]]; decide) dM_isPage_15
    · skip
      refine lv_iconst (v := (nI (1))) hx hb dM_isPage_10 (by decide) ?_
      refine lv_goto (tgt := 15) hx hb dM_isPage_11 (by decide) ?_
      exact ret _ _ _ (by rw [show h_pg q = true by simp [h_pg, h1, h7]]; decide) dM_isPage_15
set_option maxHeartbeats 1000000 in
set_option maxRecDepth 100000 in
theorem tM_refers (l : Launch) (g : GG) (a : Nat → Nat) (ha : apM a) (s : MS) (v w : Nat) (hv : v < 8) (hw : w < 8) : Ci l g (wldM g a) (adM a) yM_refers kM_refers ({ frames := 0, cells := 0, slots := 0, locals := 0 }) [.ref (a 0), .int (nI (v)), .int (nI (w))] s (bI (m_refers s v w)) s := by
  have hD := wldM_D (g := g) ha
  refine Ci.ofZ (own := RM) (cc := cM_refers) (nL := 6) hD (by decide) rfl (Nat.le_of_ble_eq_true rfl) ?_
  intro p e S m args below meth c Q X ret H locs ls Y hl
  have hx := X.1
  have hb := X.2.1
  have hl : lv_has ls 6 [(0, .ref (a 0)), (1, .int (nI (v))), (2, .int (nI (w)))] := hl
  refine lv_iconst (v := (nI (0))) hx hb dM_refers_0 (by decide) ?_
  refine bn_top (y := (bI (false))) (by decide) ?_
  refine lv_istore_n (lv' := [(3, .int (bI (false))), (0, .ref (a 0)), (1, .int (nI (v))), (2, .int (nI (w)))]) hx hb dM_refers_1 rfl hl (by decide) rfl (fun ls hl => ?_)
  refine lv_iconst (v := (nI (4))) hx hb dM_refers_2 (by decide) ?_
  refine lv_iload_n hx hb dM_refers_3 rfl (lv_at hl 2 rfl) ?_
  refine bn_mul hx hb dM_refers_4 ?_
  refine lv_istore (lv' := [(4, .int (nI (4 * v))), (3, .int (bI (false))), (0, .ref (a 0)), (1, .int (nI (v))), (2, .int (nI (w)))]) hx hb dM_refers_5 hl (by decide) rfl (fun ls hl => ?_)
  have loop7 : ∀ (n7 i7 : Nat) (b7 : Bool), i7 ≤ 4 → 4 < i7 + n7 → (anyN (m_rf1 s v w) i7 = b7) → ∀ (H : Heap) (locs : List Loc) (ls : Array Slot), Yw g (wldM g a) (adM a) S H locs s → lv_has ls 6 [(0, .ref (a 0)), (1, .int (nI (v))), (2, .int (nI (w))), (3, .int (bI (b7))), (4, .int (nI (4 * v + i7)))] → W p l e ({ frames := 0, cells := 0, slots := 0, locals := 0 }) S m args below meth c H locs 0 0 Q (F0 m 7 ls []) := by
    intro n7
    induction n7 with
    | zero =>
      intro i7 b7 b1 b2
      exact absurd b2 (by omega)
    | succ n7 ih7 =>
      intro i7 b7 hi7 hn7 eb7 H locs ls Y hl
      refine lv_iload hx hb dM_refers_7 (lv_at hl 4 rfl) ?_
      refine lv_iconst (v := (nI (4))) hx hb dM_refers_9 (by decide) ?_
      refine lv_iload_n hx hb dM_refers_10 rfl (lv_at hl 1 rfl) ?_
      refine bn_mul hx hb dM_refers_11 ?_
      refine lv_iconst (v := (nI (4))) hx hb dM_refers_12 (by decide) ?_
      refine bn_add hx hb dM_refers_13 ?_
      refine bn_ge (tgt := 89) hx hb dM_refers_14 (by decide) (by omega) (by omega) (fun h14 => ?_) (fun h14 => ?_)
      · skip
        obtain rfl : i7 = 4 := by omega
        subst eb7
        refine lv_iload_n hx hb dM_refers_89 rfl (lv_at hl 3 rfl) ?_
        refine bb_eq (tgt := 102) hx hb dM_refers_90 (by decide) (fun h90 => ?_) (fun h90 => ?_)
        · skip
          refine lv_iconst (v := (nI (0))) hx hb dM_refers_102 (by decide) ?_
          exact ret _ _ _ _ _ Y (by rw [show m_refers s v w = false by simp [m_refers, h14, h90]]; decide) dM_refers_103
        · skip
          refine lv_iload_n hx hb dM_refers_93 rfl (lv_at hl 1 rfl) ?_
          refine lv_iload_n hx hb dM_refers_94 rfl (lv_at hl 2 rfl) ?_
          refine bn_eq (tgt := 102) hx hb dM_refers_95 (by decide) (by omega) (by omega) (fun h95 => ?_) (fun h95 => ?_)
          · skip
            refine lv_iconst (v := (nI (0))) hx hb dM_refers_102 (by decide) ?_
            exact ret _ _ _ _ _ Y (by rw [show m_refers s v w = false by simp [m_refers, h14, h90, h95]]; decide) dM_refers_103
          · skip
            refine lv_iconst (v := (nI (1))) hx hb dM_refers_98 (by decide) ?_
            refine lv_goto (tgt := 103) hx hb dM_refers_99 (by decide) ?_
            exact ret _ _ _ _ _ Y (by rw [show m_refers s v w = true by simp [m_refers, h14, h90, h95]]; decide) dM_refers_103
      · skip
        refine lv_iconst (v := (nI (2))) hx hb dM_refers_17 (by decide) ?_
        refine lv_iload hx hb dM_refers_18 (lv_at hl 4 rfl) ?_
        refine bn_mul hx hb dM_refers_20 ?_
        refine lv_istore (lv' := [(5, .int (nI (2 * (4 * v + i7)))), (0, .ref (a 0)), (1, .int (nI (v))), (2, .int (nI (w))), (3, .int (bI (b7))), (4, .int (nI (4 * v + i7)))]) hx hb dM_refers_21 hl (by decide) rfl (fun ls hl => ?_)
        have loop23 : ∀ (n23 i23 : Nat) (b23 : Bool), i23 ≤ 2 → 2 < i23 + n23 → ((b7 || anyN (m_rfb s v w i7) i23) = b23) → ∀ (H : Heap) (locs : List Loc) (ls : Array Slot), Yw g (wldM g a) (adM a) S H locs s → lv_has ls 6 [(0, .ref (a 0)), (1, .int (nI (v))), (2, .int (nI (w))), (4, .int (nI (4 * v + i7))), (3, .int (bI (b23))), (5, .int (nI (2 * (4 * v + i7) + i23)))] → W p l e ({ frames := 0, cells := 0, slots := 0, locals := 0 }) S m args below meth c H locs 0 0 Q (F0 m 23 ls []) := by
          intro n23
          induction n23 with
          | zero =>
            intro i23 b23 b1 b2
            exact absurd b2 (by omega)
          | succ n23 ih23 =>
            intro i23 b23 hi23 hn23 eb23 H locs ls Y hl
            refine lv_iload hx hb dM_refers_23 (lv_at hl 5 rfl) ?_
            refine lv_iconst (v := (nI (2))) hx hb dM_refers_25 (by decide) ?_
            refine lv_iload hx hb dM_refers_26 (lv_at hl 3 rfl) ?_
            refine bn_mul hx hb dM_refers_28 ?_
            refine lv_iconst (v := (nI (2))) hx hb dM_refers_29 (by decide) ?_
            refine bn_add hx hb dM_refers_30 ?_
            refine bn_ge (tgt := 83) hx hb dM_refers_31 (by decide) (by omega) (by omega) (fun h31 => ?_) (fun h31 => ?_)
            · skip
              obtain rfl : i23 = 2 := by omega
              refine lv_iinc (v := (nI (4 * v + i7 + 1))) (lv' := [(4, .int (nI (4 * v + i7 + 1))), (0, .ref (a 0)), (1, .int (nI (v))), (2, .int (nI (w))), (3, .int (bI (b23))), (5, .int (nI (2 * (4 * v + i7) + 2)))]) hx hb dM_refers_83 hl (k := 3) rfl (nI_1 _) (by decide) rfl (fun ls hl => ?_)
              refine lv_goto (tgt := 7) hx hb dM_refers_86 (by decide) ?_
              exact ih7 (i7 + 1) b23 (by omega) (by omega) (by show (anyN (m_rf1 s v w) i7 || anyN (m_rfb s v w i7) 2) = _; rw [eb7]; exact eb23) _ _ _ Y (lv_sub hl [1, 2, 3, 4, 0] rfl)
            · skip
              refine lv_iload_n hx hb dM_refers_34 rfl (lv_at hl 4 rfl) ?_
              refine bb_ne (tgt := 71) hx hb dM_refers_35 (by decide) (fun h35 => ?_) (fun h35 => ?_)
              · skip
                refine lv_iconst (v := (nI (1))) hx hb dM_refers_71 (by decide) ?_
                refine lv_goto (tgt := 76) hx hb dM_refers_72 (by decide) ?_
                refine bn_top (y := (bI (true))) (by decide) ?_
                refine lv_istore_n (lv' := [(3, .int (bI (true))), (0, .ref (a 0)), (1, .int (nI (v))), (2, .int (nI (w))), (4, .int (nI (4 * v + i7))), (5, .int (nI (2 * (4 * v + i7) + i23)))]) hx hb dM_refers_76 rfl hl (by decide) rfl (fun ls hl => ?_)
                refine lv_iinc (v := (nI (2 * (4 * v + i7) + i23 + 1))) (lv' := [(5, .int (nI (2 * (4 * v + i7) + i23 + 1))), (3, .int (bI (true))), (0, .ref (a 0)), (1, .int (nI (v))), (2, .int (nI (w))), (4, .int (nI (4 * v + i7)))]) hx hb dM_refers_77 hl (k := 5) rfl (nI_1 _) (by decide) rfl (fun ls hl => ?_)
                refine lv_goto (tgt := 23) hx hb dM_refers_80 (by decide) ?_
                exact ih23 (i23 + 1) true (by omega) (by omega) (by show (b7 || (anyN (m_rfb s v w i7) i23 || m_rfb s v w i7 i23)) = _; rw [← Bool.or_assoc, eb23]; simp [m_rfb, h14, h31, h35]) _ _ _ Y (lv_sub hl [2, 3, 4, 5, 1, 0] rfl)
              · skip
                refine lv_aload_n hx hb dM_refers_38 rfl (lv_at hl 0 rfl) ?_
                refine rM_TH X Y dM_refers_39 ?_
                refine lv_iload hx hb dM_refers_42 (lv_at hl 3 rfl) ?_
                refine lM_TH X Y (k := 4 * v + i7) (by omega) dM_refers_44 ?_
                refine bb_eq (tgt := 75) hx hb dM_refers_45 (by decide) (fun h45 => ?_) (fun h45 => ?_)
                · skip
                  refine lv_iconst (v := (nI (0))) hx hb dM_refers_75 (by decide) ?_
                  refine bn_top (y := (bI (false))) (by decide) ?_
                  refine lv_istore_n (lv' := [(3, .int (bI (false))), (0, .ref (a 0)), (1, .int (nI (v))), (2, .int (nI (w))), (4, .int (nI (4 * v + i7))), (5, .int (nI (2 * (4 * v + i7) + i23)))]) hx hb dM_refers_76 rfl hl (by decide) rfl (fun ls hl => ?_)
                  refine lv_iinc (v := (nI (2 * (4 * v + i7) + i23 + 1))) (lv' := [(5, .int (nI (2 * (4 * v + i7) + i23 + 1))), (3, .int (bI (false))), (0, .ref (a 0)), (1, .int (nI (v))), (2, .int (nI (w))), (4, .int (nI (4 * v + i7)))]) hx hb dM_refers_77 hl (k := 5) rfl (nI_1 _) (by decide) rfl (fun ls hl => ?_)
                  refine lv_goto (tgt := 23) hx hb dM_refers_80 (by decide) ?_
                  exact ih23 (i23 + 1) false (by omega) (by omega) (by show (b7 || (anyN (m_rfb s v w i7) i23 || m_rfb s v w i7 i23)) = _; rw [← Bool.or_assoc, eb23]; simp [m_rfb, h14, h31, h35, h45]) _ _ _ Y (lv_sub hl [2, 3, 4, 5, 1, 0] rfl)
                · skip
                  refine lv_aload_n hx hb dM_refers_48 rfl (lv_at hl 0 rfl) ?_
                  refine rM_FD X Y dM_refers_49 ?_
                  refine lv_iload hx hb dM_refers_52 (lv_at hl 5 rfl) ?_
                  refine lM_FD X Y (k := 2 * (4 * v + i7) + i23) (by omega) dM_refers_54 ?_
                  refine bo_lt (tgt := 75) hx hb dM_refers_55 (by decide) (fun h55 => ?_) (fun k1 h55 => ?_)
                  · skip
                    refine lv_iconst (v := (nI (0))) hx hb dM_refers_75 (by decide) ?_
                    refine bn_top (y := (bI (false))) (by decide) ?_
                    refine lv_istore_n (lv' := [(3, .int (bI (false))), (0, .ref (a 0)), (1, .int (nI (v))), (2, .int (nI (w))), (4, .int (nI (4 * v + i7))), (5, .int (nI (2 * (4 * v + i7) + i23)))]) hx hb dM_refers_76 rfl hl (by decide) rfl (fun ls hl => ?_)
                    refine lv_iinc (v := (nI (2 * (4 * v + i7) + i23 + 1))) (lv' := [(5, .int (nI (2 * (4 * v + i7) + i23 + 1))), (3, .int (bI (false))), (0, .ref (a 0)), (1, .int (nI (v))), (2, .int (nI (w))), (4, .int (nI (4 * v + i7)))]) hx hb dM_refers_77 hl (k := 5) rfl (nI_1 _) (by decide) rfl (fun ls hl => ?_)
                    refine lv_goto (tgt := 23) hx hb dM_refers_80 (by decide) ?_
                    exact ih23 (i23 + 1) false (by omega) (by omega) (by show (b7 || (anyN (m_rfb s v w i7) i23 || m_rfb s v w i7 i23)) = _; rw [← Bool.or_assoc, eb23]; simp [m_rfb, h14, h31, h35, h45, h55]) _ _ _ Y (lv_sub hl [2, 3, 4, 5, 1, 0] rfl)
                  · skip
                    have hq2 := k1.isLt
                    refine lv_aload_n hx hb dM_refers_58 rfl (lv_at hl 0 rfl) ?_
                    refine rM_FD X Y dM_refers_59 ?_
                    refine lv_iload hx hb dM_refers_62 (lv_at hl 5 rfl) ?_
                    refine lM_FD X Y (k := 2 * (4 * v + i7) + i23) (by omega) dM_refers_64 ?_
                    refine bn_top (y := nI k1.val) (by rw [h55]; rfl) ?_
                    refine lv_iconst (v := (nI (4))) hx hb dM_refers_65 (by decide) ?_
                    refine bn_div hx hb dM_refers_66 (by omega) (by omega) (by omega) ?_
                    refine lv_iload_n hx hb dM_refers_67 rfl (lv_at hl 2 rfl) ?_
                    refine bn_ne (tgt := 75) hx hb dM_refers_68 (by decide) (by omega) (by omega) (fun h68 => ?_) (fun h68 => ?_)
                    · skip
                      refine lv_iconst (v := (nI (0))) hx hb dM_refers_75 (by decide) ?_
                      refine bn_top (y := (bI (false))) (by decide) ?_
                      refine lv_istore_n (lv' := [(3, .int (bI (false))), (0, .ref (a 0)), (1, .int (nI (v))), (2, .int (nI (w))), (4, .int (nI (4 * v + i7))), (5, .int (nI (2 * (4 * v + i7) + i23)))]) hx hb dM_refers_76 rfl hl (by decide) rfl (fun ls hl => ?_)
                      refine lv_iinc (v := (nI (2 * (4 * v + i7) + i23 + 1))) (lv' := [(5, .int (nI (2 * (4 * v + i7) + i23 + 1))), (3, .int (bI (false))), (0, .ref (a 0)), (1, .int (nI (v))), (2, .int (nI (w))), (4, .int (nI (4 * v + i7)))]) hx hb dM_refers_77 hl (k := 5) rfl (nI_1 _) (by decide) rfl (fun ls hl => ?_)
                      refine lv_goto (tgt := 23) hx hb dM_refers_80 (by decide) ?_
                      exact ih23 (i23 + 1) false (by omega) (by omega) (by show (b7 || (anyN (m_rfb s v w i7) i23 || m_rfb s v w i7 i23)) = _; rw [← Bool.or_assoc, eb23]; simp [m_rfb, h14, h31, h35, h45, h55, h68]) _ _ _ Y (lv_sub hl [2, 3, 4, 5, 1, 0] rfl)
                    · skip
                      refine lv_iconst (v := (nI (1))) hx hb dM_refers_71 (by decide) ?_
                      refine lv_goto (tgt := 76) hx hb dM_refers_72 (by decide) ?_
                      refine bn_top (y := (bI (true))) (by decide) ?_
                      refine lv_istore_n (lv' := [(3, .int (bI (true))), (0, .ref (a 0)), (1, .int (nI (v))), (2, .int (nI (w))), (4, .int (nI (4 * v + i7))), (5, .int (nI (2 * (4 * v + i7) + i23)))]) hx hb dM_refers_76 rfl hl (by decide) rfl (fun ls hl => ?_)
                      refine lv_iinc (v := (nI (2 * (4 * v + i7) + i23 + 1))) (lv' := [(5, .int (nI (2 * (4 * v + i7) + i23 + 1))), (3, .int (bI (true))), (0, .ref (a 0)), (1, .int (nI (v))), (2, .int (nI (w))), (4, .int (nI (4 * v + i7)))]) hx hb dM_refers_77 hl (k := 5) rfl (nI_1 _) (by decide) rfl (fun ls hl => ?_)
                      refine lv_goto (tgt := 23) hx hb dM_refers_80 (by decide) ?_
                      exact ih23 (i23 + 1) true (by omega) (by omega) (by show (b7 || (anyN (m_rfb s v w i7) i23 || m_rfb s v w i7 i23)) = _; rw [← Bool.or_assoc, eb23]; simp [m_rfb, h14, h31, h35, h45, h55, h68]) _ _ _ Y (lv_sub hl [2, 3, 4, 5, 1, 0] rfl)
        exact loop23 (2 + 1) 0 b7 (by omega) (by omega) (by simp [anyN]) _ _ _ Y (lv_sub hl [1, 2, 3, 5, 4, 0] rfl)
  exact loop7 (4 + 1) 0 false (by omega) (by omega) (rfl) _ _ _ Y (lv_sub hl [2, 3, 4, 1, 0] rfl)
set_option maxHeartbeats 1000000 in
set_option maxRecDepth 100000 in
theorem tM_counted (l : Launch) (g : GG) (a : Nat → Nat) (ha : apM a) (s : MS) (w : Nat) (hw : w < 8) : Ci l g (wldM g a) (adM a) yM_counted kM_counted ({ frames := 1, cells := 0, slots := 0, locals := 25 }) [.ref (a 0), .int (nI (w))] s (nI (m_counted s w)) s := by
  have hD := wldM_D (g := g) ha
  refine Ci.of (own := RM) (cc := cM_counted) (nL := 4) hD (by decide) rfl (Nat.le_of_ble_eq_true rfl) ?_
  intro p e S m args below meth c Q X ret H locs ls Y hl
  have hx := X.1
  have hb := X.2.1
  have hl : lv_has ls 4 [(0, .ref (a 0)), (1, .int (nI (w)))] := hl
  refine lv_iconst (v := (nI (0))) hx hb dM_counted_0 (by decide) ?_
  refine lv_istore_n (lv' := [(2, .int (nI (0))), (0, .ref (a 0)), (1, .int (nI (w)))]) hx hb dM_counted_1 rfl hl (by decide) rfl (fun ls hl => ?_)
  refine lv_iconst (v := (nI (0))) hx hb dM_counted_2 (by decide) ?_
  refine lv_istore_n (lv' := [(3, .int (nI (0))), (2, .int (nI (0))), (0, .ref (a 0)), (1, .int (nI (w)))]) hx hb dM_counted_3 rfl hl (by decide) rfl (fun ls hl => ?_)
  have loop4 : ∀ (n4 i4 : Nat) (k4 : Nat), i4 ≤ 8 → 8 < i4 + n4 → (cntN (m_ctb s w) i4 = k4) → (k4 ≤ i4) → ∀ (H : Heap) (locs : List Loc) (ls : Array Slot), Yw g (wldM g a) (adM a) S H locs s → lv_has ls 4 [(0, .ref (a 0)), (1, .int (nI (w))), (2, .int (nI (k4))), (3, .int (nI (i4)))] → W p l e ({ frames := 1, cells := 0, slots := 0, locals := 25 }) S m args below meth c H locs 0 0 Q (F0 m 4 ls []) := by
    intro n4
    induction n4 with
    | zero =>
      intro i4 k4 b1 b2
      exact absurd b2 (by omega)
    | succ n4 ih4 =>
      intro i4 k4 hi4 hn4 ek4 hk4 H locs ls Y hl
      refine lv_iload_n hx hb dM_counted_4 rfl (lv_at hl 3 rfl) ?_
      refine lv_bipush (v := (nI (8))) hx hb dM_counted_5 (by decide) ?_
      refine bn_ge (tgt := 43) hx hb dM_counted_7 (by decide) (by omega) (by omega) (fun h7 => ?_) (fun h7 => ?_)
      · skip
        obtain rfl : i4 = 8 := by omega
        subst ek4
        refine lv_iload_n hx hb dM_counted_43 rfl (lv_at hl 2 rfl) ?_
        exact ret _ _ _ _ _ Y (rfl) dM_counted_44
      · skip
        refine lv_aload_n hx hb dM_counted_10 rfl (lv_at hl 0 rfl) ?_
        refine rM_ST X Y dM_counted_11 ?_
        refine lv_iload_n hx hb dM_counted_14 rfl (lv_at hl 3 rfl) ?_
        refine lM_ST X Y (k := i4) (by omega) dM_counted_15 ?_
        have hq1 := (gM_ST s i4).isLt
        refine lv_iconst (v := (nI (2))) hx hb dM_counted_16 (by decide) ?_
        refine bn_ne (tgt := 35) hx hb dM_counted_17 (by decide) (by omega) (by omega) (fun h17 => ?_) (fun h17 => ?_)
        · skip
          refine lv_iload_n hx hb dM_counted_35 rfl (lv_at hl 2 rfl) ?_
          refine lv_istore_n (lv' := [(2, .int (nI (k4))), (0, .ref (a 0)), (1, .int (nI (w))), (3, .int (nI (i4)))]) hx hb dM_counted_36 rfl hl (by decide) rfl (fun ls hl => ?_)
          refine lv_iinc (v := (nI (i4 + 1))) (lv' := [(3, .int (nI (i4 + 1))), (2, .int (nI (k4))), (0, .ref (a 0)), (1, .int (nI (w)))]) hx hb dM_counted_37 hl (k := 3) rfl (nI_1 _) (by decide) rfl (fun ls hl => ?_)
          refine lv_goto (tgt := 4) hx hb dM_counted_40 (by decide) ?_
          exact ih4 (i4 + 1) k4 (by omega) (by omega) (by show cntN (m_ctb s w) i4 + _ = _; rw [ek4]; simp [m_ctb, h7, h17]) (by omega) _ _ _ Y (lv_sub hl [2, 3, 1, 0] rfl)
        · skip
          refine lv_aload_n hx hb dM_counted_20 rfl (lv_at hl 0 rfl) ?_
          refine lv_iload_n hx hb dM_counted_21 rfl (lv_at hl 3 rfl) ?_
          refine lv_iload_n hx hb dM_counted_22 rfl (lv_at hl 1 rfl) ?_
          refine cl_vi (na := 2) (rest := []) X hD Y (tM_refers l g a ha s i4 w (by omega) (by omega)) gM_M_refers (by decide +kernel) rfl rfl rfl ⟨rfl, rfl⟩ ⟨Nat.le_of_ble_eq_true rfl, Nat.le_of_ble_eq_true rfl⟩ ⟨Nat.zero_le _, Nat.zero_le _⟩ hl.1 rfl (Nat.le_of_ble_eq_true rfl) dM_counted_23 (fun H locs Y => ?_)
          refine bb_eq (tgt := 35) hx hb dM_counted_26 (by decide) (fun h26 => ?_) (fun h26 => ?_)
          · skip
            refine lv_iload_n hx hb dM_counted_35 rfl (lv_at hl 2 rfl) ?_
            refine lv_istore_n (lv' := [(2, .int (nI (k4))), (0, .ref (a 0)), (1, .int (nI (w))), (3, .int (nI (i4)))]) hx hb dM_counted_36 rfl hl (by decide) rfl (fun ls hl => ?_)
            refine lv_iinc (v := (nI (i4 + 1))) (lv' := [(3, .int (nI (i4 + 1))), (2, .int (nI (k4))), (0, .ref (a 0)), (1, .int (nI (w)))]) hx hb dM_counted_37 hl (k := 3) rfl (nI_1 _) (by decide) rfl (fun ls hl => ?_)
            refine lv_goto (tgt := 4) hx hb dM_counted_40 (by decide) ?_
            exact ih4 (i4 + 1) k4 (by omega) (by omega) (by show cntN (m_ctb s w) i4 + _ = _; rw [ek4]; simp [m_ctb, h7, h17, h26]) (by omega) _ _ _ Y (lv_sub hl [2, 3, 1, 0] rfl)
          · skip
            refine lv_iload_n hx hb dM_counted_29 rfl (lv_at hl 2 rfl) ?_
            refine lv_iconst (v := (nI (1))) hx hb dM_counted_30 (by decide) ?_
            refine bn_add hx hb dM_counted_31 ?_
            refine lv_goto (tgt := 36) hx hb dM_counted_32 (by decide) ?_
            refine lv_istore_n (lv' := [(2, .int (nI (k4 + 1))), (0, .ref (a 0)), (1, .int (nI (w))), (3, .int (nI (i4)))]) hx hb dM_counted_36 rfl hl (by decide) rfl (fun ls hl => ?_)
            refine lv_iinc (v := (nI (i4 + 1))) (lv' := [(3, .int (nI (i4 + 1))), (2, .int (nI (k4 + 1))), (0, .ref (a 0)), (1, .int (nI (w)))]) hx hb dM_counted_37 hl (k := 3) rfl (nI_1 _) (by decide) rfl (fun ls hl => ?_)
            refine lv_goto (tgt := 4) hx hb dM_counted_40 (by decide) ?_
            exact ih4 (i4 + 1) (k4 + 1) (by omega) (by omega) (by show cntN (m_ctb s w) i4 + _ = _; rw [ek4]; simp [m_ctb, h7, h17, h26]) (by omega) _ _ _ Y (lv_sub hl [2, 3, 1, 0] rfl)
  exact loop4 (8 + 1) 0 0 (by omega) (by omega) (rfl) (Nat.le_refl 0) _ _ _ Y (lv_sub hl [2, 3, 1, 0] rfl)
set_option maxHeartbeats 1000000 in
set_option maxRecDepth 100000 in
theorem tM_pagesIn (l : Launch) (g : GG) (a : Nat → Nat) (ha : apM a) (s : MS)  : Ci l g (wldM g a) (adM a) yM_pagesIn kM_pagesIn ({ frames := 0, cells := 0, slots := 0, locals := 0 }) [.ref (a 0)] s (nI (m_in s)) s := by
  have hD := wldM_D (g := g) ha
  refine Ci.of (own := RM) (cc := cM_pagesIn) (nL := 3) hD (by decide) rfl (Nat.le_of_ble_eq_true rfl) ?_
  intro p e S m args below meth c Q X ret H locs ls Y hl
  have hx := X.1
  have hb := X.2.1
  have hl : lv_has ls 3 [(0, .ref (a 0))] := hl
  refine lv_iconst (v := (nI (0))) hx hb dM_pagesIn_0 (by decide) ?_
  refine lv_istore_n (lv' := [(1, .int (nI (0))), (0, .ref (a 0))]) hx hb dM_pagesIn_1 rfl hl (by decide) rfl (fun ls hl => ?_)
  refine lv_iconst (v := (nI (0))) hx hb dM_pagesIn_2 (by decide) ?_
  refine lv_istore_n (lv' := [(2, .int (nI (0))), (1, .int (nI (0))), (0, .ref (a 0))]) hx hb dM_pagesIn_3 rfl hl (by decide) rfl (fun ls hl => ?_)
  have loop4 : ∀ (n4 i4 : Nat) (k4 : Nat), i4 ≤ 8 → 8 < i4 + n4 → (cntN (m_inb s) i4 = k4) → (k4 ≤ i4) → ∀ (H : Heap) (locs : List Loc) (ls : Array Slot), Yw g (wldM g a) (adM a) S H locs s → lv_has ls 3 [(0, .ref (a 0)), (1, .int (nI (k4))), (2, .int (nI (i4)))] → W p l e ({ frames := 0, cells := 0, slots := 0, locals := 0 }) S m args below meth c H locs 0 0 Q (F0 m 4 ls []) := by
    intro n4
    induction n4 with
    | zero =>
      intro i4 k4 b1 b2
      exact absurd b2 (by omega)
    | succ n4 ih4 =>
      intro i4 k4 hi4 hn4 ek4 hk4 H locs ls Y hl
      refine lv_iload_n hx hb dM_pagesIn_4 rfl (lv_at hl 2 rfl) ?_
      refine lv_bipush (v := (nI (8))) hx hb dM_pagesIn_5 (by decide) ?_
      refine bn_ge (tgt := 34) hx hb dM_pagesIn_7 (by decide) (by omega) (by omega) (fun h7 => ?_) (fun h7 => ?_)
      · skip
        obtain rfl : i4 = 8 := by omega
        subst ek4
        refine lv_iload_n hx hb dM_pagesIn_34 rfl (lv_at hl 1 rfl) ?_
        exact ret _ _ _ _ _ Y (rfl) dM_pagesIn_35
      · skip
        refine lv_aload_n hx hb dM_pagesIn_10 rfl (lv_at hl 0 rfl) ?_
        refine rM_ST X Y dM_pagesIn_11 ?_
        refine lv_iload_n hx hb dM_pagesIn_14 rfl (lv_at hl 2 rfl) ?_
        refine lM_ST X Y (k := i4) (by omega) dM_pagesIn_15 ?_
        have hq1 := (gM_ST s i4).isLt
        refine lv_iconst (v := (nI (1))) hx hb dM_pagesIn_16 (by decide) ?_
        refine bn_ne (tgt := 26) hx hb dM_pagesIn_17 (by decide) (by omega) (by omega) (fun h17 => ?_) (fun h17 => ?_)
        · skip
          refine lv_iload_n hx hb dM_pagesIn_26 rfl (lv_at hl 1 rfl) ?_
          refine lv_istore_n (lv' := [(1, .int (nI (k4))), (0, .ref (a 0)), (2, .int (nI (i4)))]) hx hb dM_pagesIn_27 rfl hl (by decide) rfl (fun ls hl => ?_)
          refine lv_iinc (v := (nI (i4 + 1))) (lv' := [(2, .int (nI (i4 + 1))), (1, .int (nI (k4))), (0, .ref (a 0))]) hx hb dM_pagesIn_28 hl (k := 2) rfl (nI_1 _) (by decide) rfl (fun ls hl => ?_)
          refine lv_goto (tgt := 4) hx hb dM_pagesIn_31 (by decide) ?_
          exact ih4 (i4 + 1) k4 (by omega) (by omega) (by show cntN (m_inb s) i4 + _ = _; rw [ek4]; simp [m_inb, h7, h17]) (by omega) _ _ _ Y (lv_sub hl [2, 1, 0] rfl)
        · skip
          refine lv_iload_n hx hb dM_pagesIn_20 rfl (lv_at hl 1 rfl) ?_
          refine lv_iconst (v := (nI (1))) hx hb dM_pagesIn_21 (by decide) ?_
          refine bn_add hx hb dM_pagesIn_22 ?_
          refine lv_goto (tgt := 27) hx hb dM_pagesIn_23 (by decide) ?_
          refine lv_istore_n (lv' := [(1, .int (nI (k4 + 1))), (0, .ref (a 0)), (2, .int (nI (i4)))]) hx hb dM_pagesIn_27 rfl hl (by decide) rfl (fun ls hl => ?_)
          refine lv_iinc (v := (nI (i4 + 1))) (lv' := [(2, .int (nI (i4 + 1))), (1, .int (nI (k4 + 1))), (0, .ref (a 0))]) hx hb dM_pagesIn_28 hl (k := 2) rfl (nI_1 _) (by decide) rfl (fun ls hl => ?_)
          refine lv_goto (tgt := 4) hx hb dM_pagesIn_31 (by decide) ?_
          exact ih4 (i4 + 1) (k4 + 1) (by omega) (by omega) (by show cntN (m_inb s) i4 + _ = _; rw [ek4]; simp [m_inb, h7, h17]) (by omega) _ _ _ Y (lv_sub hl [2, 1, 0] rfl)
  exact loop4 (8 + 1) 0 0 (by omega) (by omega) (rfl) (Nat.le_refl 0) _ _ _ Y (lv_sub hl [2, 1, 0] rfl)
set_option maxHeartbeats 1000000 in
set_option maxRecDepth 100000 in
theorem tM_unmark (l : Launch) (g : GG) (a : Nat → Nat) (ha : apM a) (s : MS) (w : Nat) (hw : w < 8) : Cv l g (wldM g a) (adM a) yM_unmark kM_unmark ({ frames := 0, cells := 0, slots := 0, locals := 0 }) [.ref (a 0), .int (nI (w))] s (m_unmark w s) := by
  have hD := wldM_D (g := g) ha
  refine Cv.of (own := RM) (cc := cM_unmark) (nL := 3) hD (by decide) rfl (Nat.le_of_ble_eq_true rfl) ?_
  intro p e S m args below meth c Q X ret H locs ls Y hl
  have hx := X.1
  have hb := X.2.1
  have hl : lv_has ls 3 [(0, .ref (a 0)), (1, .int (nI (w)))] := hl
  refine lv_iconst (v := (nI (4))) hx hb dM_unmark_0 (by decide) ?_
  refine lv_iload_n hx hb dM_unmark_1 rfl (lv_at hl 1 rfl) ?_
  refine bn_mul hx hb dM_unmark_2 ?_
  refine lv_istore_n (lv' := [(2, .int (nI (4 * w))), (0, .ref (a 0)), (1, .int (nI (w)))]) hx hb dM_unmark_3 rfl hl (by decide) rfl (fun ls hl => ?_)
  have loop4 : ∀ (n4 i4 : Nat) (σ4 : MS), i4 ≤ 4 → 4 < i4 + n4 → (fldN (m_un1 w) s i4 = σ4) → ∀ (H : Heap) (locs : List Loc) (ls : Array Slot), Yw g (wldM g a) (adM a) S H locs σ4 → lv_has ls 3 [(0, .ref (a 0)), (1, .int (nI (w))), (2, .int (nI (4 * w + i4)))] → W p l e ({ frames := 0, cells := 0, slots := 0, locals := 0 }) S m args below meth c H locs 0 0 Q (F0 m 4 ls []) := by
    intro n4
    induction n4 with
    | zero =>
      intro i4 σ4 b1 b2
      exact absurd b2 (by omega)
    | succ n4 ih4 =>
      intro i4 σ4 hi4 hn4 eσ4 H locs ls Y hl
      refine lv_iload_n hx hb dM_unmark_4 rfl (lv_at hl 2 rfl) ?_
      refine lv_iconst (v := (nI (4))) hx hb dM_unmark_5 (by decide) ?_
      refine lv_iload_n hx hb dM_unmark_6 rfl (lv_at hl 1 rfl) ?_
      refine bn_mul hx hb dM_unmark_7 ?_
      refine lv_iconst (v := (nI (4))) hx hb dM_unmark_8 (by decide) ?_
      refine bn_add hx hb dM_unmark_9 ?_
      refine bn_ge (tgt := 26) hx hb dM_unmark_10 (by decide) (by omega) (by omega) (fun h10 => ?_) (fun h10 => ?_)
      · skip
        obtain rfl : i4 = 4 := by omega
        subst eσ4
        have E : (fldN (m_un1 w) s 4) = m_unmark w s := rfl
        rw [E] at Y
        exact ret _ _ _ _ Y dM_unmark_26
      · skip
        refine lv_aload_n hx hb dM_unmark_13 rfl (lv_at hl 0 rfl) ?_
        refine rM_MK X Y dM_unmark_14 ?_
        refine lv_iload_n hx hb dM_unmark_17 rfl (lv_at hl 2 rfl) ?_
        refine lv_iconst (v := (nI (0))) hx hb dM_unmark_18 (by decide) ?_
        refine sM_MK X Y (k := 4 * w + i4) false (by decide) (by omega) dM_unmark_19 (fun H locs Y => ?_)
        refine lv_iinc (v := (nI (4 * w + i4 + 1))) (lv' := [(2, .int (nI (4 * w + i4 + 1))), (0, .ref (a 0)), (1, .int (nI (w)))]) hx hb dM_unmark_20 hl (k := 2) rfl (nI_1 _) (by decide) rfl (fun ls hl => ?_)
        refine lv_goto (tgt := 4) hx hb dM_unmark_23 (by decide) ?_
        exact ih4 (i4 + 1) (uM_MK σ4 (4 * w + i4) false) (by omega) (by omega) (by show m_un1 w i4 (fldN (m_un1 w) s i4) = _; rw [eσ4]; simp [m_un1, h10]) _ _ _ Y (lv_sub hl [1, 2, 0] rfl)
  exact loop4 (4 + 1) 0 s (by omega) (by omega) (fldN_zero) _ _ _ Y (lv_sub hl [1, 2, 0] rfl)
set_option maxHeartbeats 1000000 in
set_option maxRecDepth 100000 in
theorem tM_putOut (l : Launch) (g : GG) (a : Nat → Nat) (ha : apM a) (s : MS) (v : Nat) (hv : v < 8) : Cv l g (wldM g a) (adM a) yM_putOut kM_putOut ({ frames := 0, cells := 0, slots := 0, locals := 0 }) [.ref (a 0), .int (nI (v))] s (m_putOut v s) := by
  have hD := wldM_D (g := g) ha
  refine Cv.of (own := RM) (cc := cM_putOut) (nL := 4) hD (by decide) rfl (Nat.le_of_ble_eq_true rfl) ?_
  intro p e S m args below meth c Q X ret H locs ls Y hl
  have hx := X.1
  have hb := X.2.1
  have hl : lv_has ls 4 [(0, .ref (a 0)), (1, .int (nI (v)))] := hl
  refine lv_iconst (v := (nI (4))) hx hb dM_putOut_0 (by decide) ?_
  refine lv_iload_n hx hb dM_putOut_1 rfl (lv_at hl 1 rfl) ?_
  refine bn_mul hx hb dM_putOut_2 ?_
  refine lv_istore_n (lv' := [(2, .int (nI (4 * v))), (0, .ref (a 0)), (1, .int (nI (v)))]) hx hb dM_putOut_3 rfl hl (by decide) rfl (fun ls hl => ?_)
  have loop4 : ∀ (n4 i4 : Nat) (σ4 : MS), i4 ≤ 4 → 4 < i4 + n4 → (fldN (m_po1 v) s i4 = σ4) → ∀ (H : Heap) (locs : List Loc) (ls : Array Slot), Yw g (wldM g a) (adM a) S H locs σ4 → lv_has ls 4 [(0, .ref (a 0)), (1, .int (nI (v))), (2, .int (nI (4 * v + i4)))] → W p l e ({ frames := 0, cells := 0, slots := 0, locals := 0 }) S m args below meth c H locs 0 0 Q (F0 m 4 ls []) := by
    intro n4
    induction n4 with
    | zero =>
      intro i4 σ4 b1 b2
      exact absurd b2 (by omega)
    | succ n4 ih4 =>
      intro i4 σ4 hi4 hn4 eσ4 H locs ls Y hl
      refine lv_iload_n hx hb dM_putOut_4 rfl (lv_at hl 2 rfl) ?_
      refine lv_iconst (v := (nI (4))) hx hb dM_putOut_5 (by decide) ?_
      refine lv_iload_n hx hb dM_putOut_6 rfl (lv_at hl 1 rfl) ?_
      refine bn_mul hx hb dM_putOut_7 ?_
      refine lv_iconst (v := (nI (4))) hx hb dM_putOut_8 (by decide) ?_
      refine bn_add hx hb dM_putOut_9 ?_
      refine bn_ge (tgt := 80) hx hb dM_putOut_10 (by decide) (by omega) (by omega) (fun h10 => ?_) (fun h10 => ?_)
      · skip
        obtain rfl : i4 = 4 := by omega
        subst eσ4
        refine lv_aload_n hx hb dM_putOut_80 rfl (lv_at hl 0 rfl) ?_
        refine rM_ST X Y dM_putOut_81 ?_
        refine lv_iload_n hx hb dM_putOut_84 rfl (lv_at hl 1 rfl) ?_
        refine lv_iconst (v := (nI (2))) hx hb dM_putOut_85 (by decide) ?_
        refine sM_ST X Y (k := v) (⟨2, by omega⟩) rfl (by omega) dM_putOut_86 (fun H locs Y => ?_)
        refine lv_aload_n hx hb dM_putOut_87 rfl (lv_at hl 0 rfl) ?_
        refine rM_US X Y dM_putOut_88 ?_
        refine lv_iload_n hx hb dM_putOut_91 rfl (lv_at hl 1 rfl) ?_
        refine lv_iconst (v := (nI (0))) hx hb dM_putOut_92 (by decide) ?_
        refine sM_US X Y (k := v) false (by decide) (by omega) dM_putOut_93 (fun H locs Y => ?_)
        have E : uM_US (uM_ST ((fldN (m_po1 v) s 4)) v (⟨2, by omega⟩)) v false = m_putOut v s := rfl
        rw [E] at Y
        exact ret _ _ _ _ Y dM_putOut_94
      · skip
        refine lv_aload_n hx hb dM_putOut_13 rfl (lv_at hl 0 rfl) ?_
        refine rM_MK X Y dM_putOut_14 ?_
        refine lv_iload_n hx hb dM_putOut_17 rfl (lv_at hl 2 rfl) ?_
        refine lv_aload_n hx hb dM_putOut_18 rfl (lv_at hl 0 rfl) ?_
        refine rM_TH X Y dM_putOut_19 ?_
        refine lv_iload_n hx hb dM_putOut_22 rfl (lv_at hl 2 rfl) ?_
        refine lM_TH X Y (k := 4 * v + i4) (by omega) dM_putOut_23 ?_
        refine sM_MK X Y (k := 4 * v + i4) (gM_TH σ4 (4 * v + i4)) rfl (by omega) dM_putOut_24 (fun H locs Y => ?_)
        refine lv_iconst (v := (nI (2))) hx hb dM_putOut_25 (by decide) ?_
        refine lv_iload_n hx hb dM_putOut_26 rfl (lv_at hl 2 rfl) ?_
        refine bn_mul hx hb dM_putOut_27 ?_
        refine lv_istore_n (lv' := [(3, .int (nI (2 * (4 * v + i4)))), (0, .ref (a 0)), (1, .int (nI (v))), (2, .int (nI (4 * v + i4)))]) hx hb dM_putOut_28 rfl hl (by decide) rfl (fun ls hl => ?_)
        have loop29 : ∀ (n29 i29 : Nat) (σ29 : MS), i29 ≤ 2 → 2 < i29 + n29 → (fldN (m_po2 v i4) (uM_MK σ4 (4 * v + i4) (gM_TH σ4 (4 * v + i4))) i29 = σ29) → ∀ (H : Heap) (locs : List Loc) (ls : Array Slot), Yw g (wldM g a) (adM a) S H locs σ29 → lv_has ls 4 [(0, .ref (a 0)), (1, .int (nI (v))), (2, .int (nI (4 * v + i4))), (3, .int (nI (2 * (4 * v + i4) + i29)))] → W p l e ({ frames := 0, cells := 0, slots := 0, locals := 0 }) S m args below meth c H locs 0 0 Q (F0 m 29 ls []) := by
          intro n29
          induction n29 with
          | zero =>
            intro i29 σ29 b1 b2
            exact absurd b2 (by omega)
          | succ n29 ih29 =>
            intro i29 σ29 hi29 hn29 eσ29 H locs ls Y hl
            refine lv_iload_n hx hb dM_putOut_29 rfl (lv_at hl 3 rfl) ?_
            refine lv_iconst (v := (nI (2))) hx hb dM_putOut_30 (by decide) ?_
            refine lv_iload_n hx hb dM_putOut_31 rfl (lv_at hl 2 rfl) ?_
            refine bn_mul hx hb dM_putOut_32 ?_
            refine lv_iconst (v := (nI (2))) hx hb dM_putOut_33 (by decide) ?_
            refine bn_add hx hb dM_putOut_34 ?_
            refine bn_ge (tgt := 74) hx hb dM_putOut_35 (by decide) (by omega) (by omega) (fun h35 => ?_) (fun h35 => ?_)
            · skip
              obtain rfl : i29 = 2 := by omega
              subst eσ29
              refine lv_iinc (v := (nI (4 * v + i4 + 1))) (lv' := [(2, .int (nI (4 * v + i4 + 1))), (0, .ref (a 0)), (1, .int (nI (v))), (3, .int (nI (2 * (4 * v + i4) + 2)))]) hx hb dM_putOut_74 hl (k := 2) rfl (nI_1 _) (by decide) rfl (fun ls hl => ?_)
              refine lv_goto (tgt := 4) hx hb dM_putOut_77 (by decide) ?_
              exact ih4 (i4 + 1) ((fldN (m_po2 v i4) (uM_MK σ4 (4 * v + i4) (gM_TH σ4 (4 * v + i4))) 2)) (by omega) (by omega) (by show m_po1 v i4 (fldN (m_po1 v) s i4) = _; rw [eσ4]; simp [m_po1, h10, h35]) _ _ _ Y (lv_sub hl [1, 2, 0] rfl)
            · skip
              refine lv_aload_n hx hb dM_putOut_38 rfl (lv_at hl 0 rfl) ?_
              refine rM_TH X Y dM_putOut_39 ?_
              refine lv_iload_n hx hb dM_putOut_42 rfl (lv_at hl 2 rfl) ?_
              refine lM_TH X Y (k := 4 * v + i4) (by omega) dM_putOut_43 ?_
              refine bb_eq (tgt := 68) hx hb dM_putOut_44 (by decide) (fun h44 => ?_) (fun h44 => ?_)
              · skip
                refine lv_iinc (v := (nI (2 * (4 * v + i4) + i29 + 1))) (lv' := [(3, .int (nI (2 * (4 * v + i4) + i29 + 1))), (0, .ref (a 0)), (1, .int (nI (v))), (2, .int (nI (4 * v + i4)))]) hx hb dM_putOut_68 hl (k := 3) rfl (nI_1 _) (by decide) rfl (fun ls hl => ?_)
                refine lv_goto (tgt := 29) hx hb dM_putOut_71 (by decide) ?_
                exact ih29 (i29 + 1) σ29 (by omega) (by omega) (by show m_po2 v i4 i29 (fldN (m_po2 v i4) (uM_MK σ4 (4 * v + i4) (gM_TH σ4 (4 * v + i4))) i29) = _; rw [eσ29]; simp [m_po2, h10, h35, h44]) _ _ _ Y (lv_sub hl [1, 2, 3, 0] rfl)
              · skip
                refine lv_aload_n hx hb dM_putOut_47 rfl (lv_at hl 0 rfl) ?_
                refine rM_FD X Y dM_putOut_48 ?_
                refine lv_iload_n hx hb dM_putOut_51 rfl (lv_at hl 3 rfl) ?_
                refine lM_FD X Y (k := 2 * (4 * v + i4) + i29) (by omega) dM_putOut_52 ?_
                refine bo_lt (tgt := 68) hx hb dM_putOut_53 (by decide) (fun h53 => ?_) (fun k1 h53 => ?_)
                · skip
                  refine lv_iinc (v := (nI (2 * (4 * v + i4) + i29 + 1))) (lv' := [(3, .int (nI (2 * (4 * v + i4) + i29 + 1))), (0, .ref (a 0)), (1, .int (nI (v))), (2, .int (nI (4 * v + i4)))]) hx hb dM_putOut_68 hl (k := 3) rfl (nI_1 _) (by decide) rfl (fun ls hl => ?_)
                  refine lv_goto (tgt := 29) hx hb dM_putOut_71 (by decide) ?_
                  exact ih29 (i29 + 1) σ29 (by omega) (by omega) (by show m_po2 v i4 i29 (fldN (m_po2 v i4) (uM_MK σ4 (4 * v + i4) (gM_TH σ4 (4 * v + i4))) i29) = _; rw [eσ29]; simp [m_po2, h10, h35, h44, h53]) _ _ _ Y (lv_sub hl [1, 2, 3, 0] rfl)
                · skip
                  have hq2 := k1.isLt
                  refine lv_aload_n hx hb dM_putOut_56 rfl (lv_at hl 0 rfl) ?_
                  refine rM_MK X Y dM_putOut_57 ?_
                  refine lv_aload_n hx hb dM_putOut_60 rfl (lv_at hl 0 rfl) ?_
                  refine rM_FD X Y dM_putOut_61 ?_
                  refine lv_iload_n hx hb dM_putOut_64 rfl (lv_at hl 3 rfl) ?_
                  refine lM_FD X Y (k := 2 * (4 * v + i4) + i29) (by omega) dM_putOut_65 ?_
                  refine bn_top (y := nI k1.val) (by rw [h53]; rfl) ?_
                  refine lv_iconst (v := (nI (1))) hx hb dM_putOut_66 (by decide) ?_
                  refine sM_MK X Y (k := k1.val) true (by decide) (by omega) dM_putOut_67 (fun H locs Y => ?_)
                  refine lv_iinc (v := (nI (2 * (4 * v + i4) + i29 + 1))) (lv' := [(3, .int (nI (2 * (4 * v + i4) + i29 + 1))), (0, .ref (a 0)), (1, .int (nI (v))), (2, .int (nI (4 * v + i4)))]) hx hb dM_putOut_68 hl (k := 3) rfl (nI_1 _) (by decide) rfl (fun ls hl => ?_)
                  refine lv_goto (tgt := 29) hx hb dM_putOut_71 (by decide) ?_
                  exact ih29 (i29 + 1) (uM_MK σ29 k1.val true) (by omega) (by omega) (by show m_po2 v i4 i29 (fldN (m_po2 v i4) (uM_MK σ4 (4 * v + i4) (gM_TH σ4 (4 * v + i4))) i29) = _; rw [eσ29]; simp [m_po2, h10, h35, h44, h53]) _ _ _ Y (lv_sub hl [1, 2, 3, 0] rfl)
        exact loop29 (2 + 1) 0 ((uM_MK σ4 (4 * v + i4) (gM_TH σ4 (4 * v + i4)))) (by omega) (by omega) (fldN_zero) _ _ _ Y (lv_sub hl [1, 2, 3, 0] rfl)
  exact loop4 (4 + 1) 0 s (by omega) (by omega) (fldN_zero) _ _ _ Y (lv_sub hl [1, 2, 0] rfl)
set_option maxHeartbeats 1000000 in
set_option maxRecDepth 100000 in
theorem tM_choose (l : Launch) (g : GG) (a : Nat → Nat) (ha : apM a) (s : MS) (sp : Int32) (hst : m_stops s sp) : Ci l g (wldM g a) (adM a) yM_choose kM_choose ({ frames := 0, cells := 0, slots := 0, locals := 0 }) [.ref (a 0), .int (sp)] s (nI (m_chp s sp)) (m_cho s sp) := by
  have hD := wldM_D (g := g) ha
  refine Ci.of (own := RM) (cc := cM_choose) (nL := 3) hD (by decide) rfl (Nat.le_of_ble_eq_true rfl) ?_
  intro p e S m args below meth c Q X ret H locs ls Y hl
  have hx := X.1
  have hb := X.2.1
  have hl : lv_has ls 3 [(0, .ref (a 0)), (1, .int (sp))] := hl
  have loop0 : ∀ (n0 i0 : Nat) (σ0 : MS), i0 ≤ 16 → 16 < i0 + n0 → (m_chs sp (16 - i0) σ0 = m_chs sp 16 s) → ∀ (H : Heap) (locs : List Loc) (ls : Array Slot), Yw g (wldM g a) (adM a) S H locs σ0 → lv_has ls 3 [(0, .ref (a 0)), (1, .int (sp))] → W p l e ({ frames := 0, cells := 0, slots := 0, locals := 0 }) S m args below meth c H locs 0 0 Q (F0 m 0 ls []) := by
    intro n0
    induction n0 with
    | zero =>
      intro i0 σ0 b1 b2
      exact absurd b2 (by omega)
    | succ n0 ih0 =>
      intro i0 σ0 hi0 hn0 eσ0 H locs ls Y hl
      refine lv_aload_n hx hb dM_choose_0 rfl (lv_at hl 0 rfl) ?_
      refine rM_ST X Y dM_choose_1 ?_
      refine lv_aload_n hx hb dM_choose_4 rfl (lv_at hl 0 rfl) ?_
      refine rM_HA X Y dM_choose_5 ?_
      have hq1 := (gM_HA σ0).isLt
      refine lM_ST X Y (k := (gM_HA σ0).val) (by omega) dM_choose_8 ?_
      have hq2 := (gM_ST σ0 ((gM_HA σ0).val)).isLt
      refine lv_iconst (v := (nI (1))) hx hb dM_choose_9 (by decide) ?_
      refine bn_ne (tgt := 33) hx hb dM_choose_10 (by decide) (by omega) (by omega) (fun h10 => ?_) (fun h10 => ?_)
      · skip
        have hps : m_pass σ0 sp = true := by simp [m_pass, h10]
        have hlt := m_lt16 hst eσ0 hps hi0
        refine lv_aload_n hx hb dM_choose_33 rfl (lv_at hl 0 rfl) ?_
        refine rM_ST X Y dM_choose_34 ?_
        refine lv_aload_n hx hb dM_choose_37 rfl (lv_at hl 0 rfl) ?_
        refine rM_HA X Y dM_choose_38 ?_
        have hq3 := (gM_HA σ0).isLt
        refine lM_ST X Y (k := (gM_HA σ0).val) (by omega) dM_choose_41 ?_
        have hq4 := (gM_ST σ0 ((gM_HA σ0).val)).isLt
        refine lv_iconst (v := (nI (1))) hx hb dM_choose_42 (by decide) ?_
        refine bn_ne (tgt := 64) hx hb dM_choose_43 (by decide) (by omega) (by omega) (fun _ => ?_) (fun q => absurd q h10)
        refine lv_aload_n hx hb dM_choose_64 rfl (lv_at hl 0 rfl) ?_
        refine lv_aload_n hx hb dM_choose_65 rfl (lv_at hl 0 rfl) ?_
        refine rM_HA X Y dM_choose_66 ?_
        have hq5 := (gM_HA σ0).isLt
        refine lv_iconst (v := (nI (1))) hx hb dM_choose_69 (by decide) ?_
        refine bn_add hx hb dM_choose_70 ?_
        refine lv_bipush (v := (nI (8))) hx hb dM_choose_71 (by decide) ?_
        refine bn_rem hx hb dM_choose_73 (by omega) (by omega) (by omega) ?_
        refine pM_HA X Y (⟨(((gM_HA σ0).val) + 1) % 8, by omega⟩) rfl dM_choose_74 (fun H locs Y => ?_)
        refine lv_goto (tgt := 0) hx hb dM_choose_77 (by decide) ?_
        exact ih0 (i0 + 1) (uM_HA σ0 (⟨(((gM_HA σ0).val) + 1) % 8, by omega⟩)) (by omega) (by omega) (by rw [← eσ0, show 16 - i0 = (16 - (i0 + 1)) + 1 by omega]; simp [m_chs, m_cs1, m_mv, hps, h10]) _ _ _ Y (lv_sub hl [0, 1] rfl)
      · skip
        refine lv_aload_n hx hb dM_choose_13 rfl (lv_at hl 0 rfl) ?_
        refine rM_HA X Y dM_choose_14 ?_
        have hq6 := (gM_HA σ0).isLt
        refine lv_iload_n hx hb dM_choose_17 rfl (lv_at hl 1 rfl) ?_
        refine lv_icmp_eq (tgt := 33) hx hb dM_choose_18 (by decide) (fun h18 => ?_) (fun h18 => ?_)
        · skip
          have hps : m_pass σ0 sp = true := by simp [m_pass, h10, h18]
          have hlt := m_lt16 hst eσ0 hps hi0
          refine lv_aload_n hx hb dM_choose_33 rfl (lv_at hl 0 rfl) ?_
          refine rM_ST X Y dM_choose_34 ?_
          refine lv_aload_n hx hb dM_choose_37 rfl (lv_at hl 0 rfl) ?_
          refine rM_HA X Y dM_choose_38 ?_
          have hq7 := (gM_HA σ0).isLt
          refine lM_ST X Y (k := (gM_HA σ0).val) (by omega) dM_choose_41 ?_
          have hq8 := (gM_ST σ0 ((gM_HA σ0).val)).isLt
          refine lv_iconst (v := (nI (1))) hx hb dM_choose_42 (by decide) ?_
          refine bn_ne (tgt := 64) hx hb dM_choose_43 (by decide) (by omega) (by omega) (fun q => absurd h10 q) (fun _ => ?_)
          refine lv_aload_n hx hb dM_choose_46 rfl (lv_at hl 0 rfl) ?_
          refine rM_HA X Y dM_choose_47 ?_
          have hq9 := (gM_HA σ0).isLt
          refine lv_iload_n hx hb dM_choose_50 rfl (lv_at hl 1 rfl) ?_
          refine lv_icmp_eq (tgt := 64) hx hb dM_choose_51 (by decide) (fun _ => ?_) (fun q => absurd h18 q)
          refine lv_aload_n hx hb dM_choose_64 rfl (lv_at hl 0 rfl) ?_
          refine lv_aload_n hx hb dM_choose_65 rfl (lv_at hl 0 rfl) ?_
          refine rM_HA X Y dM_choose_66 ?_
          have hq10 := (gM_HA σ0).isLt
          refine lv_iconst (v := (nI (1))) hx hb dM_choose_69 (by decide) ?_
          refine bn_add hx hb dM_choose_70 ?_
          refine lv_bipush (v := (nI (8))) hx hb dM_choose_71 (by decide) ?_
          refine bn_rem hx hb dM_choose_73 (by omega) (by omega) (by omega) ?_
          refine pM_HA X Y (⟨(((gM_HA σ0).val) + 1) % 8, by omega⟩) rfl dM_choose_74 (fun H locs Y => ?_)
          refine lv_goto (tgt := 0) hx hb dM_choose_77 (by decide) ?_
          exact ih0 (i0 + 1) (uM_HA σ0 (⟨(((gM_HA σ0).val) + 1) % 8, by omega⟩)) (by omega) (by omega) (by rw [← eσ0, show 16 - i0 = (16 - (i0 + 1)) + 1 by omega]; simp [m_chs, m_cs1, m_mv, hps, h10, h18]) _ _ _ Y (lv_sub hl [0, 1] rfl)
        · skip
          refine lv_aload_n hx hb dM_choose_21 rfl (lv_at hl 0 rfl) ?_
          refine rM_US X Y dM_choose_22 ?_
          refine lv_aload_n hx hb dM_choose_25 rfl (lv_at hl 0 rfl) ?_
          refine rM_HA X Y dM_choose_26 ?_
          have hq11 := (gM_HA σ0).isLt
          refine lM_US X Y (k := (gM_HA σ0).val) (by omega) dM_choose_29 ?_
          refine bb_eq (tgt := 80) hx hb dM_choose_30 (by decide) (fun h30 => ?_) (fun h30 => ?_)
          · skip
            have E2 : σ0 = m_cst s sp := m_cst_of eσ0 (by simp [m_pass, h10, h18, h30])
            rw [E2] at Y
            refine lv_aload_n hx hb dM_choose_80 rfl (lv_at hl 0 rfl) ?_
            refine rM_HA X Y dM_choose_81 ?_
            have hq12 := (gM_HA (m_cst s sp)).isLt
            refine lv_istore_n (lv' := [(2, .int (nI ((gM_HA (m_cst s sp)).val))), (0, .ref (a 0)), (1, .int (sp))]) hx hb dM_choose_84 rfl hl (by decide) rfl (fun ls hl => ?_)
            refine lv_aload_n hx hb dM_choose_85 rfl (lv_at hl 1 rfl) ?_
            refine lv_aload_n hx hb dM_choose_86 rfl (lv_at hl 1 rfl) ?_
            refine rM_HA X Y dM_choose_87 ?_
            have hq13 := (gM_HA (m_cst s sp)).isLt
            refine lv_iconst (v := (nI (1))) hx hb dM_choose_90 (by decide) ?_
            refine bn_add hx hb dM_choose_91 ?_
            refine lv_bipush (v := (nI (8))) hx hb dM_choose_92 (by decide) ?_
            refine bn_rem hx hb dM_choose_94 (by omega) (by omega) (by omega) ?_
            refine pM_HA X Y (⟨(((gM_HA (m_cst s sp)).val) + 1) % 8, by omega⟩) rfl dM_choose_95 (fun H locs Y => ?_)
            refine lv_iload_n hx hb dM_choose_98 rfl (lv_at hl 0 rfl) ?_
            have E : uM_HA (m_cst s sp) (⟨(((gM_HA (m_cst s sp)).val) + 1) % 8, by omega⟩) = m_cho s sp := rfl
            rw [E] at Y
            exact ret _ _ _ _ _ Y (rfl) dM_choose_99
          · skip
            have hps : m_pass σ0 sp = true := by simp [m_pass, h10, h18, h30]
            have hlt := m_lt16 hst eσ0 hps hi0
            refine lv_aload_n hx hb dM_choose_33 rfl (lv_at hl 0 rfl) ?_
            refine rM_ST X Y dM_choose_34 ?_
            refine lv_aload_n hx hb dM_choose_37 rfl (lv_at hl 0 rfl) ?_
            refine rM_HA X Y dM_choose_38 ?_
            have hq14 := (gM_HA σ0).isLt
            refine lM_ST X Y (k := (gM_HA σ0).val) (by omega) dM_choose_41 ?_
            have hq15 := (gM_ST σ0 ((gM_HA σ0).val)).isLt
            refine lv_iconst (v := (nI (1))) hx hb dM_choose_42 (by decide) ?_
            refine bn_ne (tgt := 64) hx hb dM_choose_43 (by decide) (by omega) (by omega) (fun q => absurd h10 q) (fun _ => ?_)
            refine lv_aload_n hx hb dM_choose_46 rfl (lv_at hl 0 rfl) ?_
            refine rM_HA X Y dM_choose_47 ?_
            have hq16 := (gM_HA σ0).isLt
            refine lv_iload_n hx hb dM_choose_50 rfl (lv_at hl 1 rfl) ?_
            refine lv_icmp_eq (tgt := 64) hx hb dM_choose_51 (by decide) (fun q => absurd q h18) (fun _ => ?_)
            refine lv_aload_n hx hb dM_choose_54 rfl (lv_at hl 0 rfl) ?_
            refine rM_US X Y dM_choose_55 ?_
            refine lv_aload_n hx hb dM_choose_58 rfl (lv_at hl 0 rfl) ?_
            refine rM_HA X Y dM_choose_59 ?_
            have hq17 := (gM_HA σ0).isLt
            refine lv_iconst (v := (nI (0))) hx hb dM_choose_62 (by decide) ?_
            refine sM_US X Y (k := (gM_HA σ0).val) false (by decide) (by omega) dM_choose_63 (fun H locs Y => ?_)
            refine lv_aload_n hx hb dM_choose_64 rfl (lv_at hl 0 rfl) ?_
            refine lv_aload_n hx hb dM_choose_65 rfl (lv_at hl 0 rfl) ?_
            refine rM_HA X Y dM_choose_66 ?_
            have hq18 := (gM_HA (uM_US σ0 ((gM_HA σ0).val) false)).isLt
            refine lv_iconst (v := (nI (1))) hx hb dM_choose_69 (by decide) ?_
            refine bn_add hx hb dM_choose_70 ?_
            refine lv_bipush (v := (nI (8))) hx hb dM_choose_71 (by decide) ?_
            refine bn_rem hx hb dM_choose_73 (by omega) (by omega) (by omega) ?_
            refine pM_HA X Y (⟨(((gM_HA (uM_US σ0 ((gM_HA σ0).val) false)).val) + 1) % 8, by omega⟩) rfl dM_choose_74 (fun H locs Y => ?_)
            refine lv_goto (tgt := 0) hx hb dM_choose_77 (by decide) ?_
            exact ih0 (i0 + 1) (uM_HA (uM_US σ0 ((gM_HA σ0).val) false) (⟨(((gM_HA (uM_US σ0 ((gM_HA σ0).val) false)).val) + 1) % 8, by omega⟩)) (by omega) (by omega) (by rw [← eσ0, show 16 - i0 = (16 - (i0 + 1)) + 1 by omega]; simp [m_chs, m_cs1, m_mv, hps, h10, h18, h30]) _ _ _ Y (lv_sub hl [0, 1] rfl)
  exact loop0 (16 + 1) 0 s (by omega) (by omega) (rfl) _ _ _ Y (lv_sub hl [0, 1] rfl)
set_option maxHeartbeats 1000000 in
set_option maxRecDepth 100000 in
theorem tM_putOutOne (l : Launch) (g : GG) (a : Nat → Nat) (ha : apM a) (s : MS) (sp : Int32) (hst : m_stops s sp) : Cv l g (wldM g a) (adM a) yM_putOutOne kM_putOutOne ({ frames := 1, cells := 0, slots := 0, locals := 23 }) [.ref (a 0), .int (sp)] s (m_one sp s) := by
  have hD := wldM_D (g := g) ha
  refine Cv.of (own := RM) (cc := cM_putOutOne) (nL := 3) hD (by decide) rfl (Nat.le_of_ble_eq_true rfl) ?_
  intro p e S m args below meth c Q X ret H locs ls Y hl
  have hx := X.1
  have hb := X.2.1
  have hl : lv_has ls 3 [(0, .ref (a 0)), (1, .int (sp))] := hl
  refine lv_aload_n hx hb dM_putOutOne_0 rfl (lv_at hl 0 rfl) ?_
  refine lv_iload_n hx hb dM_putOutOne_1 rfl (lv_at hl 1 rfl) ?_
  refine cl_vi (na := 1) (rest := []) X hD Y (tM_choose l g a ha s ((sp)) (by assumption)) gM_M_choose (by decide +kernel) rfl rfl rfl ⟨rfl, rfl⟩ ⟨Nat.le_of_ble_eq_true rfl, Nat.le_of_ble_eq_true rfl⟩ ⟨Nat.zero_le _, Nat.zero_le _⟩ hl.1 rfl (Nat.le_of_ble_eq_true rfl) dM_putOutOne_2 (fun H locs Y => ?_)
  have hf1 := m_chp_lt s ((sp))
  refine lv_istore_n (lv' := [(2, .int (nI (m_chp s ((sp))))), (0, .ref (a 0)), (1, .int (sp))]) hx hb dM_putOutOne_5 rfl hl (by decide) rfl (fun ls hl => ?_)
  refine lv_aload_n hx hb dM_putOutOne_6 rfl (lv_at hl 1 rfl) ?_
  refine lv_iload_n hx hb dM_putOutOne_7 rfl (lv_at hl 0 rfl) ?_
  refine cl_vv (na := 1) (rest := []) X hD Y (tM_putOut l g a ha (m_cho s ((sp))) (m_chp s ((sp))) (by omega)) gM_M_putOut (by decide +kernel) rfl rfl rfl ⟨rfl, rfl⟩ ⟨Nat.le_of_ble_eq_true rfl, Nat.le_of_ble_eq_true rfl⟩ ⟨Nat.zero_le _, Nat.zero_le _⟩ hl.1 rfl (Nat.le_of_ble_eq_true rfl) dM_putOutOne_8 (fun H locs Y => ?_)
  have E : m_putOut (m_chp s ((sp))) (m_cho s ((sp))) = m_one sp s := rfl
  rw [E] at Y
  exact ret _ _ _ _ Y dM_putOutOne_11
end
section
/-! written by wip/whole/specM.py -/
set_option maxHeartbeats 1000000 in
set_option maxRecDepth 100000 in
theorem tM_bringIn (l : Launch) (g : GG) (a : Nat → Nat) (ha : apM a) (s : MS) (v : Nat) (hv : v < 8) (hst : m_in s = (gM_BU s).val → m_stops s (-1)) : Cv l g (wldM g a) (adM a) yM_bringIn kM_bringIn ({ frames := 2, cells := 0, slots := 0, locals := 48 }) [.ref (a 0), .int (nI (v))] s (m_bringIn v s) := by
  have hD := wldM_D (g := g) ha
  refine Cv.of (own := RM) (cc := cM_bringIn) (nL := 4) hD (by decide) rfl (Nat.le_of_ble_eq_true rfl) ?_
  intro p e S m args below meth c Q X ret H locs ls Y hl
  have hx := X.1
  have hb := X.2.1
  have hl : lv_has ls 4 [(0, .ref (a 0)), (1, .int (nI (v)))] := hl
  refine lv_aload_n hx hb dM_bringIn_0 rfl (lv_at hl 0 rfl) ?_
  refine cl_vi (na := 0) (rest := []) X hD Y (tM_pagesIn l g a ha s  ) gM_M_pagesIn (by decide +kernel) rfl rfl rfl ⟨rfl, rfl⟩ ⟨Nat.le_of_ble_eq_true rfl, Nat.le_of_ble_eq_true rfl⟩ ⟨Nat.zero_le _, Nat.zero_le _⟩ hl.1 rfl (Nat.le_of_ble_eq_true rfl) dM_bringIn_1 (fun H locs Y => ?_)
  have hf1 := m_in_le s
  refine lv_aload_n hx hb dM_bringIn_4 rfl (lv_at hl 0 rfl) ?_
  refine rM_BU X Y dM_bringIn_5 ?_
  have hq2 := (gM_BU s).isLt
  refine bn_ne (tgt := 16) hx hb dM_bringIn_8 (by decide) (by omega) (by omega) (fun h8 => ?_) (fun h8 => ?_)
  · skip
    have E0 : s = m_bi0 s := by simp [m_bi0, h8]
    rw [E0] at Y
    refine lv_aload_n hx hb dM_bringIn_16 rfl (lv_at hl 0 rfl) ?_
    refine rM_ST X Y dM_bringIn_17 ?_
    refine lv_iload_n hx hb dM_bringIn_20 rfl (lv_at hl 1 rfl) ?_
    refine lv_iconst (v := (nI (1))) hx hb dM_bringIn_21 (by decide) ?_
    refine sM_ST X Y (k := v) (⟨1, by omega⟩) rfl (by omega) dM_bringIn_22 (fun H locs Y => ?_)
    refine lv_aload_n hx hb dM_bringIn_23 rfl (lv_at hl 0 rfl) ?_
    refine rM_US X Y dM_bringIn_24 ?_
    refine lv_iload_n hx hb dM_bringIn_27 rfl (lv_at hl 1 rfl) ?_
    refine lv_iconst (v := (nI (0))) hx hb dM_bringIn_28 (by decide) ?_
    refine sM_US X Y (k := v) false (by decide) (by omega) dM_bringIn_29 (fun H locs Y => ?_)
    refine lv_iconst (v := (nI (0))) hx hb dM_bringIn_30 (by decide) ?_
    refine lv_istore_n (lv' := [(2, .int (nI (0))), (0, .ref (a 0)), (1, .int (nI (v)))]) hx hb dM_bringIn_31 rfl hl (by decide) rfl (fun ls hl => ?_)
    have loop32 : ∀ (n32 i32 : Nat) (σ32 : MS), i32 ≤ 8 → 8 < i32 + n32 → (fldN (m_bi1 v) (uM_US (uM_ST (m_bi0 s) v (⟨1, by omega⟩)) v false) i32 = σ32) → ∀ (H : Heap) (locs : List Loc) (ls : Array Slot), Yw g (wldM g a) (adM a) S H locs σ32 → lv_has ls 4 [(0, .ref (a 0)), (1, .int (nI (v))), (2, .int (nI (i32)))] → W p l e ({ frames := 2, cells := 0, slots := 0, locals := 48 }) S m args below meth c H locs 0 0 Q (F0 m 32 ls []) := by
      intro n32
      induction n32 with
      | zero =>
        intro i32 σ32 b1 b2
        exact absurd b2 (by omega)
      | succ n32 ih32 =>
        intro i32 σ32 hi32 hn32 eσ32 H locs ls Y hl
        refine lv_iload_n hx hb dM_bringIn_32 rfl (lv_at hl 2 rfl) ?_
        refine lv_bipush (v := (nI (8))) hx hb dM_bringIn_33 (by decide) ?_
        refine bn_ge (tgt := 91) hx hb dM_bringIn_35 (by decide) (by omega) (by omega) (fun h35 => ?_) (fun h35 => ?_)
        · skip
          obtain rfl : i32 = 8 := by omega
          subst eσ32
          have E : (fldN (m_bi1 v) (uM_US (uM_ST (m_bi0 s) v (⟨1, by omega⟩)) v false) 8) = m_bringIn v s := rfl
          rw [E] at Y
          exact ret _ _ _ _ Y dM_bringIn_91
        · skip
          refine lv_iload_n hx hb dM_bringIn_38 rfl (lv_at hl 2 rfl) ?_
          refine lv_iload_n hx hb dM_bringIn_39 rfl (lv_at hl 1 rfl) ?_
          refine bn_eq (tgt := 52) hx hb dM_bringIn_40 (by decide) (by omega) (by omega) (fun h40 => ?_) (fun h40 => ?_)
          · skip
            refine lv_iconst (v := (nI (1))) hx hb dM_bringIn_52 (by decide) ?_
            refine lv_goto (tgt := 57) hx hb dM_bringIn_53 (by decide) ?_
            refine bn_top (y := (bI (true))) (by decide) ?_
            refine lv_istore_n (lv' := [(3, .int (bI (true))), (0, .ref (a 0)), (1, .int (nI (v))), (2, .int (nI (i32)))]) hx hb dM_bringIn_57 rfl hl (by decide) rfl (fun ls hl => ?_)
            refine lv_iload_n hx hb dM_bringIn_58 rfl (lv_at hl 0 rfl) ?_
            refine bb_eq (tgt := 85) hx hb dM_bringIn_59 (by decide) (fun q => by cases q) (fun _ => ?_)
            refine lv_aload_n hx hb dM_bringIn_62 rfl (lv_at hl 1 rfl) ?_
            refine rM_ST X Y dM_bringIn_63 ?_
            refine lv_iload_n hx hb dM_bringIn_66 rfl (lv_at hl 3 rfl) ?_
            refine lM_ST X Y (k := i32) (by omega) dM_bringIn_67 ?_
            have hq3 := (gM_ST σ32 i32).isLt
            refine lv_iconst (v := (nI (1))) hx hb dM_bringIn_68 (by decide) ?_
            refine bn_ne (tgt := 85) hx hb dM_bringIn_69 (by decide) (by omega) (by omega) (fun h69 => ?_) (fun h69 => ?_)
            · skip
              refine lv_iinc (v := (nI (i32 + 1))) (lv' := [(2, .int (nI (i32 + 1))), (3, .int (bI (true))), (0, .ref (a 0)), (1, .int (nI (v)))]) hx hb dM_bringIn_85 hl (k := 3) rfl (nI_1 _) (by decide) rfl (fun ls hl => ?_)
              refine lv_goto (tgt := 32) hx hb dM_bringIn_88 (by decide) ?_
              exact ih32 (i32 + 1) σ32 (by omega) (by omega) (by show m_bi1 v i32 (fldN (m_bi1 v) (uM_US (uM_ST (m_bi0 s) v (⟨1, by omega⟩)) v false) i32) = _; rw [eσ32]; unfold m_bi1; first | exact if_pos ⟨(by first | exact Or.inl h40 | exact Or.inr h49), h69, h77⟩ | exact if_neg (fun z => h69 z.2.1) | exact if_neg (fun z => h77 z.2.2) | exact if_neg (fun z => z.1.elim h40 (fun y => by rw [h49] at y; cases y))) _ _ _ Y (lv_sub hl [2, 3, 0] rfl)
            · skip
              refine lv_aload_n hx hb dM_bringIn_72 rfl (lv_at hl 1 rfl) ?_
              refine lv_iload_n hx hb dM_bringIn_73 rfl (lv_at hl 3 rfl) ?_
              refine cl_vi (na := 1) (rest := []) X hD Y (tM_counted l g a ha σ32 i32 (by omega)) gM_M_counted (by decide +kernel) rfl rfl rfl ⟨rfl, rfl⟩ ⟨Nat.le_of_ble_eq_true rfl, Nat.le_of_ble_eq_true rfl⟩ ⟨Nat.zero_le _, Nat.zero_le _⟩ hl.1 rfl (Nat.le_of_ble_eq_true rfl) dM_bringIn_74 (fun H locs Y => ?_)
              have hf4 := m_counted_le σ32 i32
              refine bz_ne (tgt := 85) hx hb dM_bringIn_77 (by decide) (by omega) (fun h77 => ?_) (fun h77 => ?_)
              · skip
                refine lv_iinc (v := (nI (i32 + 1))) (lv' := [(2, .int (nI (i32 + 1))), (3, .int (bI (true))), (0, .ref (a 0)), (1, .int (nI (v)))]) hx hb dM_bringIn_85 hl (k := 3) rfl (nI_1 _) (by decide) rfl (fun ls hl => ?_)
                refine lv_goto (tgt := 32) hx hb dM_bringIn_88 (by decide) ?_
                exact ih32 (i32 + 1) σ32 (by omega) (by omega) (by show m_bi1 v i32 (fldN (m_bi1 v) (uM_US (uM_ST (m_bi0 s) v (⟨1, by omega⟩)) v false) i32) = _; rw [eσ32]; unfold m_bi1; first | exact if_pos ⟨(by first | exact Or.inl h40 | exact Or.inr h49), h69, h77⟩ | exact if_neg (fun z => h69 z.2.1) | exact if_neg (fun z => h77 z.2.2) | exact if_neg (fun z => z.1.elim h40 (fun y => by rw [h49] at y; cases y))) _ _ _ Y (lv_sub hl [2, 3, 0] rfl)
              · skip
                refine lv_aload_n hx hb dM_bringIn_80 rfl (lv_at hl 1 rfl) ?_
                refine lv_iload_n hx hb dM_bringIn_81 rfl (lv_at hl 3 rfl) ?_
                refine cl_vv (na := 1) (rest := []) X hD Y (tM_unmark l g a ha σ32 i32 (by omega)) gM_M_unmark (by decide +kernel) rfl rfl rfl ⟨rfl, rfl⟩ ⟨Nat.le_of_ble_eq_true rfl, Nat.le_of_ble_eq_true rfl⟩ ⟨Nat.zero_le _, Nat.zero_le _⟩ hl.1 rfl (Nat.le_of_ble_eq_true rfl) dM_bringIn_82 (fun H locs Y => ?_)
                refine lv_iinc (v := (nI (i32 + 1))) (lv' := [(2, .int (nI (i32 + 1))), (3, .int (bI (true))), (0, .ref (a 0)), (1, .int (nI (v)))]) hx hb dM_bringIn_85 hl (k := 3) rfl (nI_1 _) (by decide) rfl (fun ls hl => ?_)
                refine lv_goto (tgt := 32) hx hb dM_bringIn_88 (by decide) ?_
                exact ih32 (i32 + 1) (m_unmark i32 σ32) (by omega) (by omega) (by show m_bi1 v i32 (fldN (m_bi1 v) (uM_US (uM_ST (m_bi0 s) v (⟨1, by omega⟩)) v false) i32) = _; rw [eσ32]; unfold m_bi1; first | exact if_pos ⟨(by first | exact Or.inl h40 | exact Or.inr h49), h69, h77⟩ | exact if_neg (fun z => h69 z.2.1) | exact if_neg (fun z => h77 z.2.2) | exact if_neg (fun z => z.1.elim h40 (fun y => by rw [h49] at y; cases y))) _ _ _ Y (lv_sub hl [2, 3, 0] rfl)
          · skip
            refine lv_aload_n hx hb dM_bringIn_43 rfl (lv_at hl 0 rfl) ?_
            refine lv_iload_n hx hb dM_bringIn_44 rfl (lv_at hl 1 rfl) ?_
            refine lv_iload_n hx hb dM_bringIn_45 rfl (lv_at hl 2 rfl) ?_
            refine cl_vi (na := 2) (rest := []) X hD Y (tM_refers l g a ha σ32 v i32 (by omega) (by omega)) gM_M_refers (by decide +kernel) rfl rfl rfl ⟨rfl, rfl⟩ ⟨Nat.le_of_ble_eq_true rfl, Nat.le_of_ble_eq_true rfl⟩ ⟨Nat.zero_le _, Nat.zero_le _⟩ hl.1 rfl (Nat.le_of_ble_eq_true rfl) dM_bringIn_46 (fun H locs Y => ?_)
            refine bb_eq (tgt := 56) hx hb dM_bringIn_49 (by decide) (fun h49 => ?_) (fun h49 => ?_)
            · skip
              refine lv_iconst (v := (nI (0))) hx hb dM_bringIn_56 (by decide) ?_
              refine bn_top (y := (bI (false))) (by decide) ?_
              refine lv_istore_n (lv' := [(3, .int (bI (false))), (0, .ref (a 0)), (1, .int (nI (v))), (2, .int (nI (i32)))]) hx hb dM_bringIn_57 rfl hl (by decide) rfl (fun ls hl => ?_)
              refine lv_iload_n hx hb dM_bringIn_58 rfl (lv_at hl 0 rfl) ?_
              refine bb_eq (tgt := 85) hx hb dM_bringIn_59 (by decide) (fun _ => ?_) (fun q => by cases q)
              refine lv_iinc (v := (nI (i32 + 1))) (lv' := [(2, .int (nI (i32 + 1))), (3, .int (bI (false))), (0, .ref (a 0)), (1, .int (nI (v)))]) hx hb dM_bringIn_85 hl (k := 3) rfl (nI_1 _) (by decide) rfl (fun ls hl => ?_)
              refine lv_goto (tgt := 32) hx hb dM_bringIn_88 (by decide) ?_
              exact ih32 (i32 + 1) σ32 (by omega) (by omega) (by show m_bi1 v i32 (fldN (m_bi1 v) (uM_US (uM_ST (m_bi0 s) v (⟨1, by omega⟩)) v false) i32) = _; rw [eσ32]; unfold m_bi1; first | exact if_pos ⟨(by first | exact Or.inl h40 | exact Or.inr h49), h69, h77⟩ | exact if_neg (fun z => h69 z.2.1) | exact if_neg (fun z => h77 z.2.2) | exact if_neg (fun z => z.1.elim h40 (fun y => by rw [h49] at y; cases y))) _ _ _ Y (lv_sub hl [2, 3, 0] rfl)
            · skip
              refine lv_iconst (v := (nI (1))) hx hb dM_bringIn_52 (by decide) ?_
              refine lv_goto (tgt := 57) hx hb dM_bringIn_53 (by decide) ?_
              refine bn_top (y := (bI (true))) (by decide) ?_
              refine lv_istore_n (lv' := [(3, .int (bI (true))), (0, .ref (a 0)), (1, .int (nI (v))), (2, .int (nI (i32)))]) hx hb dM_bringIn_57 rfl hl (by decide) rfl (fun ls hl => ?_)
              refine lv_iload_n hx hb dM_bringIn_58 rfl (lv_at hl 0 rfl) ?_
              refine bb_eq (tgt := 85) hx hb dM_bringIn_59 (by decide) (fun q => by cases q) (fun _ => ?_)
              refine lv_aload_n hx hb dM_bringIn_62 rfl (lv_at hl 1 rfl) ?_
              refine rM_ST X Y dM_bringIn_63 ?_
              refine lv_iload_n hx hb dM_bringIn_66 rfl (lv_at hl 3 rfl) ?_
              refine lM_ST X Y (k := i32) (by omega) dM_bringIn_67 ?_
              have hq7 := (gM_ST σ32 i32).isLt
              refine lv_iconst (v := (nI (1))) hx hb dM_bringIn_68 (by decide) ?_
              refine bn_ne (tgt := 85) hx hb dM_bringIn_69 (by decide) (by omega) (by omega) (fun h69 => ?_) (fun h69 => ?_)
              · skip
                refine lv_iinc (v := (nI (i32 + 1))) (lv' := [(2, .int (nI (i32 + 1))), (3, .int (bI (true))), (0, .ref (a 0)), (1, .int (nI (v)))]) hx hb dM_bringIn_85 hl (k := 3) rfl (nI_1 _) (by decide) rfl (fun ls hl => ?_)
                refine lv_goto (tgt := 32) hx hb dM_bringIn_88 (by decide) ?_
                exact ih32 (i32 + 1) σ32 (by omega) (by omega) (by show m_bi1 v i32 (fldN (m_bi1 v) (uM_US (uM_ST (m_bi0 s) v (⟨1, by omega⟩)) v false) i32) = _; rw [eσ32]; unfold m_bi1; first | exact if_pos ⟨(by first | exact Or.inl h40 | exact Or.inr h49), h69, h77⟩ | exact if_neg (fun z => h69 z.2.1) | exact if_neg (fun z => h77 z.2.2) | exact if_neg (fun z => z.1.elim h40 (fun y => by rw [h49] at y; cases y))) _ _ _ Y (lv_sub hl [2, 3, 0] rfl)
              · skip
                refine lv_aload_n hx hb dM_bringIn_72 rfl (lv_at hl 1 rfl) ?_
                refine lv_iload_n hx hb dM_bringIn_73 rfl (lv_at hl 3 rfl) ?_
                refine cl_vi (na := 1) (rest := []) X hD Y (tM_counted l g a ha σ32 i32 (by omega)) gM_M_counted (by decide +kernel) rfl rfl rfl ⟨rfl, rfl⟩ ⟨Nat.le_of_ble_eq_true rfl, Nat.le_of_ble_eq_true rfl⟩ ⟨Nat.zero_le _, Nat.zero_le _⟩ hl.1 rfl (Nat.le_of_ble_eq_true rfl) dM_bringIn_74 (fun H locs Y => ?_)
                have hf8 := m_counted_le σ32 i32
                refine bz_ne (tgt := 85) hx hb dM_bringIn_77 (by decide) (by omega) (fun h77 => ?_) (fun h77 => ?_)
                · skip
                  refine lv_iinc (v := (nI (i32 + 1))) (lv' := [(2, .int (nI (i32 + 1))), (3, .int (bI (true))), (0, .ref (a 0)), (1, .int (nI (v)))]) hx hb dM_bringIn_85 hl (k := 3) rfl (nI_1 _) (by decide) rfl (fun ls hl => ?_)
                  refine lv_goto (tgt := 32) hx hb dM_bringIn_88 (by decide) ?_
                  exact ih32 (i32 + 1) σ32 (by omega) (by omega) (by show m_bi1 v i32 (fldN (m_bi1 v) (uM_US (uM_ST (m_bi0 s) v (⟨1, by omega⟩)) v false) i32) = _; rw [eσ32]; unfold m_bi1; first | exact if_pos ⟨(by first | exact Or.inl h40 | exact Or.inr h49), h69, h77⟩ | exact if_neg (fun z => h69 z.2.1) | exact if_neg (fun z => h77 z.2.2) | exact if_neg (fun z => z.1.elim h40 (fun y => by rw [h49] at y; cases y))) _ _ _ Y (lv_sub hl [2, 3, 0] rfl)
                · skip
                  refine lv_aload_n hx hb dM_bringIn_80 rfl (lv_at hl 1 rfl) ?_
                  refine lv_iload_n hx hb dM_bringIn_81 rfl (lv_at hl 3 rfl) ?_
                  refine cl_vv (na := 1) (rest := []) X hD Y (tM_unmark l g a ha σ32 i32 (by omega)) gM_M_unmark (by decide +kernel) rfl rfl rfl ⟨rfl, rfl⟩ ⟨Nat.le_of_ble_eq_true rfl, Nat.le_of_ble_eq_true rfl⟩ ⟨Nat.zero_le _, Nat.zero_le _⟩ hl.1 rfl (Nat.le_of_ble_eq_true rfl) dM_bringIn_82 (fun H locs Y => ?_)
                  refine lv_iinc (v := (nI (i32 + 1))) (lv' := [(2, .int (nI (i32 + 1))), (3, .int (bI (true))), (0, .ref (a 0)), (1, .int (nI (v)))]) hx hb dM_bringIn_85 hl (k := 3) rfl (nI_1 _) (by decide) rfl (fun ls hl => ?_)
                  refine lv_goto (tgt := 32) hx hb dM_bringIn_88 (by decide) ?_
                  exact ih32 (i32 + 1) (m_unmark i32 σ32) (by omega) (by omega) (by show m_bi1 v i32 (fldN (m_bi1 v) (uM_US (uM_ST (m_bi0 s) v (⟨1, by omega⟩)) v false) i32) = _; rw [eσ32]; unfold m_bi1; first | exact if_pos ⟨(by first | exact Or.inl h40 | exact Or.inr h49), h69, h77⟩ | exact if_neg (fun z => h69 z.2.1) | exact if_neg (fun z => h77 z.2.2) | exact if_neg (fun z => z.1.elim h40 (fun y => by rw [h49] at y; cases y))) _ _ _ Y (lv_sub hl [2, 3, 0] rfl)
    exact loop32 (8 + 1) 0 ((uM_US (uM_ST (m_bi0 s) v (⟨1, by omega⟩)) v false)) (by omega) (by omega) (fldN_zero) _ _ _ Y (lv_sub hl [1, 2, 0] rfl)
  · skip
    have hst' := hst h8
    refine lv_aload_n hx hb dM_bringIn_11 rfl (lv_at hl 0 rfl) ?_
    refine lv_iconst (v := (-1)) hx hb dM_bringIn_12 (by decide) ?_
    refine cl_vv (na := 1) (rest := []) X hD Y (tM_putOutOne l g a ha s ((-1)) (by assumption)) gM_M_putOutOne (by decide +kernel) rfl rfl rfl ⟨rfl, rfl⟩ ⟨Nat.le_of_ble_eq_true rfl, Nat.le_of_ble_eq_true rfl⟩ ⟨Nat.zero_le _, Nat.zero_le _⟩ hl.1 rfl (Nat.le_of_ble_eq_true rfl) dM_bringIn_13 (fun H locs Y => ?_)
    have E0 : m_one ((-1)) s = m_bi0 s := by simp [m_bi0, h8]
    rw [E0] at Y
    refine lv_aload_n hx hb dM_bringIn_16 rfl (lv_at hl 0 rfl) ?_
    refine rM_ST X Y dM_bringIn_17 ?_
    refine lv_iload_n hx hb dM_bringIn_20 rfl (lv_at hl 1 rfl) ?_
    refine lv_iconst (v := (nI (1))) hx hb dM_bringIn_21 (by decide) ?_
    refine sM_ST X Y (k := v) (⟨1, by omega⟩) rfl (by omega) dM_bringIn_22 (fun H locs Y => ?_)
    refine lv_aload_n hx hb dM_bringIn_23 rfl (lv_at hl 0 rfl) ?_
    refine rM_US X Y dM_bringIn_24 ?_
    refine lv_iload_n hx hb dM_bringIn_27 rfl (lv_at hl 1 rfl) ?_
    refine lv_iconst (v := (nI (0))) hx hb dM_bringIn_28 (by decide) ?_
    refine sM_US X Y (k := v) false (by decide) (by omega) dM_bringIn_29 (fun H locs Y => ?_)
    refine lv_iconst (v := (nI (0))) hx hb dM_bringIn_30 (by decide) ?_
    refine lv_istore_n (lv' := [(2, .int (nI (0))), (0, .ref (a 0)), (1, .int (nI (v)))]) hx hb dM_bringIn_31 rfl hl (by decide) rfl (fun ls hl => ?_)
    have loop32 : ∀ (n32 i32 : Nat) (σ32 : MS), i32 ≤ 8 → 8 < i32 + n32 → (fldN (m_bi1 v) (uM_US (uM_ST (m_bi0 s) v (⟨1, by omega⟩)) v false) i32 = σ32) → ∀ (H : Heap) (locs : List Loc) (ls : Array Slot), Yw g (wldM g a) (adM a) S H locs σ32 → lv_has ls 4 [(0, .ref (a 0)), (1, .int (nI (v))), (2, .int (nI (i32)))] → W p l e ({ frames := 2, cells := 0, slots := 0, locals := 48 }) S m args below meth c H locs 0 0 Q (F0 m 32 ls []) := by
      intro n32
      induction n32 with
      | zero =>
        intro i32 σ32 b1 b2
        exact absurd b2 (by omega)
      | succ n32 ih32 =>
        intro i32 σ32 hi32 hn32 eσ32 H locs ls Y hl
        refine lv_iload_n hx hb dM_bringIn_32 rfl (lv_at hl 2 rfl) ?_
        refine lv_bipush (v := (nI (8))) hx hb dM_bringIn_33 (by decide) ?_
        refine bn_ge (tgt := 91) hx hb dM_bringIn_35 (by decide) (by omega) (by omega) (fun h35 => ?_) (fun h35 => ?_)
        · skip
          obtain rfl : i32 = 8 := by omega
          subst eσ32
          have E : (fldN (m_bi1 v) (uM_US (uM_ST (m_bi0 s) v (⟨1, by omega⟩)) v false) 8) = m_bringIn v s := rfl
          rw [E] at Y
          exact ret _ _ _ _ Y dM_bringIn_91
        · skip
          refine lv_iload_n hx hb dM_bringIn_38 rfl (lv_at hl 2 rfl) ?_
          refine lv_iload_n hx hb dM_bringIn_39 rfl (lv_at hl 1 rfl) ?_
          refine bn_eq (tgt := 52) hx hb dM_bringIn_40 (by decide) (by omega) (by omega) (fun h40 => ?_) (fun h40 => ?_)
          · skip
            refine lv_iconst (v := (nI (1))) hx hb dM_bringIn_52 (by decide) ?_
            refine lv_goto (tgt := 57) hx hb dM_bringIn_53 (by decide) ?_
            refine bn_top (y := (bI (true))) (by decide) ?_
            refine lv_istore_n (lv' := [(3, .int (bI (true))), (0, .ref (a 0)), (1, .int (nI (v))), (2, .int (nI (i32)))]) hx hb dM_bringIn_57 rfl hl (by decide) rfl (fun ls hl => ?_)
            refine lv_iload_n hx hb dM_bringIn_58 rfl (lv_at hl 0 rfl) ?_
            refine bb_eq (tgt := 85) hx hb dM_bringIn_59 (by decide) (fun q => by cases q) (fun _ => ?_)
            refine lv_aload_n hx hb dM_bringIn_62 rfl (lv_at hl 1 rfl) ?_
            refine rM_ST X Y dM_bringIn_63 ?_
            refine lv_iload_n hx hb dM_bringIn_66 rfl (lv_at hl 3 rfl) ?_
            refine lM_ST X Y (k := i32) (by omega) dM_bringIn_67 ?_
            have hq11 := (gM_ST σ32 i32).isLt
            refine lv_iconst (v := (nI (1))) hx hb dM_bringIn_68 (by decide) ?_
            refine bn_ne (tgt := 85) hx hb dM_bringIn_69 (by decide) (by omega) (by omega) (fun h69 => ?_) (fun h69 => ?_)
            · skip
              refine lv_iinc (v := (nI (i32 + 1))) (lv' := [(2, .int (nI (i32 + 1))), (3, .int (bI (true))), (0, .ref (a 0)), (1, .int (nI (v)))]) hx hb dM_bringIn_85 hl (k := 3) rfl (nI_1 _) (by decide) rfl (fun ls hl => ?_)
              refine lv_goto (tgt := 32) hx hb dM_bringIn_88 (by decide) ?_
              exact ih32 (i32 + 1) σ32 (by omega) (by omega) (by show m_bi1 v i32 (fldN (m_bi1 v) (uM_US (uM_ST (m_bi0 s) v (⟨1, by omega⟩)) v false) i32) = _; rw [eσ32]; unfold m_bi1; first | exact if_pos ⟨(by first | exact Or.inl h40 | exact Or.inr h49), h69, h77⟩ | exact if_neg (fun z => h69 z.2.1) | exact if_neg (fun z => h77 z.2.2) | exact if_neg (fun z => z.1.elim h40 (fun y => by rw [h49] at y; cases y))) _ _ _ Y (lv_sub hl [2, 3, 0] rfl)
            · skip
              refine lv_aload_n hx hb dM_bringIn_72 rfl (lv_at hl 1 rfl) ?_
              refine lv_iload_n hx hb dM_bringIn_73 rfl (lv_at hl 3 rfl) ?_
              refine cl_vi (na := 1) (rest := []) X hD Y (tM_counted l g a ha σ32 i32 (by omega)) gM_M_counted (by decide +kernel) rfl rfl rfl ⟨rfl, rfl⟩ ⟨Nat.le_of_ble_eq_true rfl, Nat.le_of_ble_eq_true rfl⟩ ⟨Nat.zero_le _, Nat.zero_le _⟩ hl.1 rfl (Nat.le_of_ble_eq_true rfl) dM_bringIn_74 (fun H locs Y => ?_)
              have hf12 := m_counted_le σ32 i32
              refine bz_ne (tgt := 85) hx hb dM_bringIn_77 (by decide) (by omega) (fun h77 => ?_) (fun h77 => ?_)
              · skip
                refine lv_iinc (v := (nI (i32 + 1))) (lv' := [(2, .int (nI (i32 + 1))), (3, .int (bI (true))), (0, .ref (a 0)), (1, .int (nI (v)))]) hx hb dM_bringIn_85 hl (k := 3) rfl (nI_1 _) (by decide) rfl (fun ls hl => ?_)
                refine lv_goto (tgt := 32) hx hb dM_bringIn_88 (by decide) ?_
                exact ih32 (i32 + 1) σ32 (by omega) (by omega) (by show m_bi1 v i32 (fldN (m_bi1 v) (uM_US (uM_ST (m_bi0 s) v (⟨1, by omega⟩)) v false) i32) = _; rw [eσ32]; unfold m_bi1; first | exact if_pos ⟨(by first | exact Or.inl h40 | exact Or.inr h49), h69, h77⟩ | exact if_neg (fun z => h69 z.2.1) | exact if_neg (fun z => h77 z.2.2) | exact if_neg (fun z => z.1.elim h40 (fun y => by rw [h49] at y; cases y))) _ _ _ Y (lv_sub hl [2, 3, 0] rfl)
              · skip
                refine lv_aload_n hx hb dM_bringIn_80 rfl (lv_at hl 1 rfl) ?_
                refine lv_iload_n hx hb dM_bringIn_81 rfl (lv_at hl 3 rfl) ?_
                refine cl_vv (na := 1) (rest := []) X hD Y (tM_unmark l g a ha σ32 i32 (by omega)) gM_M_unmark (by decide +kernel) rfl rfl rfl ⟨rfl, rfl⟩ ⟨Nat.le_of_ble_eq_true rfl, Nat.le_of_ble_eq_true rfl⟩ ⟨Nat.zero_le _, Nat.zero_le _⟩ hl.1 rfl (Nat.le_of_ble_eq_true rfl) dM_bringIn_82 (fun H locs Y => ?_)
                refine lv_iinc (v := (nI (i32 + 1))) (lv' := [(2, .int (nI (i32 + 1))), (3, .int (bI (true))), (0, .ref (a 0)), (1, .int (nI (v)))]) hx hb dM_bringIn_85 hl (k := 3) rfl (nI_1 _) (by decide) rfl (fun ls hl => ?_)
                refine lv_goto (tgt := 32) hx hb dM_bringIn_88 (by decide) ?_
                exact ih32 (i32 + 1) (m_unmark i32 σ32) (by omega) (by omega) (by show m_bi1 v i32 (fldN (m_bi1 v) (uM_US (uM_ST (m_bi0 s) v (⟨1, by omega⟩)) v false) i32) = _; rw [eσ32]; unfold m_bi1; first | exact if_pos ⟨(by first | exact Or.inl h40 | exact Or.inr h49), h69, h77⟩ | exact if_neg (fun z => h69 z.2.1) | exact if_neg (fun z => h77 z.2.2) | exact if_neg (fun z => z.1.elim h40 (fun y => by rw [h49] at y; cases y))) _ _ _ Y (lv_sub hl [2, 3, 0] rfl)
          · skip
            refine lv_aload_n hx hb dM_bringIn_43 rfl (lv_at hl 0 rfl) ?_
            refine lv_iload_n hx hb dM_bringIn_44 rfl (lv_at hl 1 rfl) ?_
            refine lv_iload_n hx hb dM_bringIn_45 rfl (lv_at hl 2 rfl) ?_
            refine cl_vi (na := 2) (rest := []) X hD Y (tM_refers l g a ha σ32 v i32 (by omega) (by omega)) gM_M_refers (by decide +kernel) rfl rfl rfl ⟨rfl, rfl⟩ ⟨Nat.le_of_ble_eq_true rfl, Nat.le_of_ble_eq_true rfl⟩ ⟨Nat.zero_le _, Nat.zero_le _⟩ hl.1 rfl (Nat.le_of_ble_eq_true rfl) dM_bringIn_46 (fun H locs Y => ?_)
            refine bb_eq (tgt := 56) hx hb dM_bringIn_49 (by decide) (fun h49 => ?_) (fun h49 => ?_)
            · skip
              refine lv_iconst (v := (nI (0))) hx hb dM_bringIn_56 (by decide) ?_
              refine bn_top (y := (bI (false))) (by decide) ?_
              refine lv_istore_n (lv' := [(3, .int (bI (false))), (0, .ref (a 0)), (1, .int (nI (v))), (2, .int (nI (i32)))]) hx hb dM_bringIn_57 rfl hl (by decide) rfl (fun ls hl => ?_)
              refine lv_iload_n hx hb dM_bringIn_58 rfl (lv_at hl 0 rfl) ?_
              refine bb_eq (tgt := 85) hx hb dM_bringIn_59 (by decide) (fun _ => ?_) (fun q => by cases q)
              refine lv_iinc (v := (nI (i32 + 1))) (lv' := [(2, .int (nI (i32 + 1))), (3, .int (bI (false))), (0, .ref (a 0)), (1, .int (nI (v)))]) hx hb dM_bringIn_85 hl (k := 3) rfl (nI_1 _) (by decide) rfl (fun ls hl => ?_)
              refine lv_goto (tgt := 32) hx hb dM_bringIn_88 (by decide) ?_
              exact ih32 (i32 + 1) σ32 (by omega) (by omega) (by show m_bi1 v i32 (fldN (m_bi1 v) (uM_US (uM_ST (m_bi0 s) v (⟨1, by omega⟩)) v false) i32) = _; rw [eσ32]; unfold m_bi1; first | exact if_pos ⟨(by first | exact Or.inl h40 | exact Or.inr h49), h69, h77⟩ | exact if_neg (fun z => h69 z.2.1) | exact if_neg (fun z => h77 z.2.2) | exact if_neg (fun z => z.1.elim h40 (fun y => by rw [h49] at y; cases y))) _ _ _ Y (lv_sub hl [2, 3, 0] rfl)
            · skip
              refine lv_iconst (v := (nI (1))) hx hb dM_bringIn_52 (by decide) ?_
              refine lv_goto (tgt := 57) hx hb dM_bringIn_53 (by decide) ?_
              refine bn_top (y := (bI (true))) (by decide) ?_
              refine lv_istore_n (lv' := [(3, .int (bI (true))), (0, .ref (a 0)), (1, .int (nI (v))), (2, .int (nI (i32)))]) hx hb dM_bringIn_57 rfl hl (by decide) rfl (fun ls hl => ?_)
              refine lv_iload_n hx hb dM_bringIn_58 rfl (lv_at hl 0 rfl) ?_
              refine bb_eq (tgt := 85) hx hb dM_bringIn_59 (by decide) (fun q => by cases q) (fun _ => ?_)
              refine lv_aload_n hx hb dM_bringIn_62 rfl (lv_at hl 1 rfl) ?_
              refine rM_ST X Y dM_bringIn_63 ?_
              refine lv_iload_n hx hb dM_bringIn_66 rfl (lv_at hl 3 rfl) ?_
              refine lM_ST X Y (k := i32) (by omega) dM_bringIn_67 ?_
              have hq15 := (gM_ST σ32 i32).isLt
              refine lv_iconst (v := (nI (1))) hx hb dM_bringIn_68 (by decide) ?_
              refine bn_ne (tgt := 85) hx hb dM_bringIn_69 (by decide) (by omega) (by omega) (fun h69 => ?_) (fun h69 => ?_)
              · skip
                refine lv_iinc (v := (nI (i32 + 1))) (lv' := [(2, .int (nI (i32 + 1))), (3, .int (bI (true))), (0, .ref (a 0)), (1, .int (nI (v)))]) hx hb dM_bringIn_85 hl (k := 3) rfl (nI_1 _) (by decide) rfl (fun ls hl => ?_)
                refine lv_goto (tgt := 32) hx hb dM_bringIn_88 (by decide) ?_
                exact ih32 (i32 + 1) σ32 (by omega) (by omega) (by show m_bi1 v i32 (fldN (m_bi1 v) (uM_US (uM_ST (m_bi0 s) v (⟨1, by omega⟩)) v false) i32) = _; rw [eσ32]; unfold m_bi1; first | exact if_pos ⟨(by first | exact Or.inl h40 | exact Or.inr h49), h69, h77⟩ | exact if_neg (fun z => h69 z.2.1) | exact if_neg (fun z => h77 z.2.2) | exact if_neg (fun z => z.1.elim h40 (fun y => by rw [h49] at y; cases y))) _ _ _ Y (lv_sub hl [2, 3, 0] rfl)
              · skip
                refine lv_aload_n hx hb dM_bringIn_72 rfl (lv_at hl 1 rfl) ?_
                refine lv_iload_n hx hb dM_bringIn_73 rfl (lv_at hl 3 rfl) ?_
                refine cl_vi (na := 1) (rest := []) X hD Y (tM_counted l g a ha σ32 i32 (by omega)) gM_M_counted (by decide +kernel) rfl rfl rfl ⟨rfl, rfl⟩ ⟨Nat.le_of_ble_eq_true rfl, Nat.le_of_ble_eq_true rfl⟩ ⟨Nat.zero_le _, Nat.zero_le _⟩ hl.1 rfl (Nat.le_of_ble_eq_true rfl) dM_bringIn_74 (fun H locs Y => ?_)
                have hf16 := m_counted_le σ32 i32
                refine bz_ne (tgt := 85) hx hb dM_bringIn_77 (by decide) (by omega) (fun h77 => ?_) (fun h77 => ?_)
                · skip
                  refine lv_iinc (v := (nI (i32 + 1))) (lv' := [(2, .int (nI (i32 + 1))), (3, .int (bI (true))), (0, .ref (a 0)), (1, .int (nI (v)))]) hx hb dM_bringIn_85 hl (k := 3) rfl (nI_1 _) (by decide) rfl (fun ls hl => ?_)
                  refine lv_goto (tgt := 32) hx hb dM_bringIn_88 (by decide) ?_
                  exact ih32 (i32 + 1) σ32 (by omega) (by omega) (by show m_bi1 v i32 (fldN (m_bi1 v) (uM_US (uM_ST (m_bi0 s) v (⟨1, by omega⟩)) v false) i32) = _; rw [eσ32]; unfold m_bi1; first | exact if_pos ⟨(by first | exact Or.inl h40 | exact Or.inr h49), h69, h77⟩ | exact if_neg (fun z => h69 z.2.1) | exact if_neg (fun z => h77 z.2.2) | exact if_neg (fun z => z.1.elim h40 (fun y => by rw [h49] at y; cases y))) _ _ _ Y (lv_sub hl [2, 3, 0] rfl)
                · skip
                  refine lv_aload_n hx hb dM_bringIn_80 rfl (lv_at hl 1 rfl) ?_
                  refine lv_iload_n hx hb dM_bringIn_81 rfl (lv_at hl 3 rfl) ?_
                  refine cl_vv (na := 1) (rest := []) X hD Y (tM_unmark l g a ha σ32 i32 (by omega)) gM_M_unmark (by decide +kernel) rfl rfl rfl ⟨rfl, rfl⟩ ⟨Nat.le_of_ble_eq_true rfl, Nat.le_of_ble_eq_true rfl⟩ ⟨Nat.zero_le _, Nat.zero_le _⟩ hl.1 rfl (Nat.le_of_ble_eq_true rfl) dM_bringIn_82 (fun H locs Y => ?_)
                  refine lv_iinc (v := (nI (i32 + 1))) (lv' := [(2, .int (nI (i32 + 1))), (3, .int (bI (true))), (0, .ref (a 0)), (1, .int (nI (v)))]) hx hb dM_bringIn_85 hl (k := 3) rfl (nI_1 _) (by decide) rfl (fun ls hl => ?_)
                  refine lv_goto (tgt := 32) hx hb dM_bringIn_88 (by decide) ?_
                  exact ih32 (i32 + 1) (m_unmark i32 σ32) (by omega) (by omega) (by show m_bi1 v i32 (fldN (m_bi1 v) (uM_US (uM_ST (m_bi0 s) v (⟨1, by omega⟩)) v false) i32) = _; rw [eσ32]; unfold m_bi1; first | exact if_pos ⟨(by first | exact Or.inl h40 | exact Or.inr h49), h69, h77⟩ | exact if_neg (fun z => h69 z.2.1) | exact if_neg (fun z => h77 z.2.2) | exact if_neg (fun z => z.1.elim h40 (fun y => by rw [h49] at y; cases y))) _ _ _ Y (lv_sub hl [2, 3, 0] rfl)
    exact loop32 (8 + 1) 0 ((uM_US (uM_ST (m_bi0 s) v (⟨1, by omega⟩)) v false)) (by omega) (by omega) (fldN_zero) _ _ _ Y (lv_sub hl [1, 2, 0] rfl)
set_option maxHeartbeats 1000000 in
set_option maxRecDepth 100000 in
theorem tM_touch (l : Launch) (g : GG) (a : Nat → Nat) (ha : apM a) (s : MS) (v : Nat) (hv : v < 8) (hst : (gM_ST s v).val = 2 → m_in s = (gM_BU s).val → m_stops (m_fi s) (-1)) : Cv l g (wldM g a) (adM a) yM_touch kM_touch ({ frames := 3, cells := 0, slots := 0, locals := 71 }) [.ref (a 0), .int (nI (v))] s (m_touch v s) := by
  have hD := wldM_D (g := g) ha
  refine Cv.of (own := RM) (cc := cM_touch) (nL := 2) hD (by decide) rfl (Nat.le_of_ble_eq_true rfl) ?_
  intro p e S m args below meth c Q X ret H locs ls Y hl
  have hx := X.1
  have hb := X.2.1
  have hl : lv_has ls 2 [(0, .ref (a 0)), (1, .int (nI (v)))] := hl
  refine lv_aload_n hx hb dM_touch_0 rfl (lv_at hl 0 rfl) ?_
  refine rM_ST X Y dM_touch_1 ?_
  refine lv_iload_n hx hb dM_touch_4 rfl (lv_at hl 1 rfl) ?_
  refine lM_ST X Y (k := v) (by omega) dM_touch_5 ?_
  have hq1 := (gM_ST s v).isLt
  refine lv_iconst (v := (nI (2))) hx hb dM_touch_6 (by decide) ?_
  refine bn_ne (tgt := 25) hx hb dM_touch_7 (by decide) (by omega) (by omega) (fun h7 => ?_) (fun h7 => ?_)
  · skip
    refine lv_aload_n hx hb dM_touch_25 rfl (lv_at hl 0 rfl) ?_
    refine rM_US X Y dM_touch_26 ?_
    refine lv_iload_n hx hb dM_touch_29 rfl (lv_at hl 1 rfl) ?_
    refine lv_iconst (v := (nI (1))) hx hb dM_touch_30 (by decide) ?_
    refine sM_US X Y (k := v) true (by decide) (by omega) dM_touch_31 (fun H locs Y => ?_)
    have E : uM_US s v true = m_touch v s := by simp [m_touch, m_fi, h7]
    rw [E] at Y
    exact ret _ _ _ _ Y dM_touch_32
  · skip
    have hst' : m_in (uM_FA s (gM_FA s + nI 1)) = (gM_BU (uM_FA s (gM_FA s + nI 1))).val → m_stops (uM_FA s (gM_FA s + nI 1)) (-1) := hst h7
    refine lv_aload_n hx hb dM_touch_10 rfl (lv_at hl 0 rfl) ?_
    refine lv_dup hx hb dM_touch_11 rfl ?_
    refine rM_FA X Y dM_touch_12 ?_
    refine lv_iconst (v := (nI (1))) hx hb dM_touch_15 (by decide) ?_
    refine lv_iadd hx hb dM_touch_16 ?_
    refine pM_FA X Y (((gM_FA s) + (nI (1)))) rfl dM_touch_17 (fun H locs Y => ?_)
    refine lv_aload_n hx hb dM_touch_20 rfl (lv_at hl 0 rfl) ?_
    refine lv_iload_n hx hb dM_touch_21 rfl (lv_at hl 1 rfl) ?_
    refine cl_vv (na := 1) (rest := []) X hD Y (tM_bringIn l g a ha (uM_FA s (((gM_FA s) + (nI (1))))) v (by omega) (by assumption)) gM_M_bringIn (by decide +kernel) rfl rfl rfl ⟨rfl, rfl⟩ ⟨Nat.le_of_ble_eq_true rfl, Nat.le_of_ble_eq_true rfl⟩ ⟨Nat.zero_le _, Nat.zero_le _⟩ hl.1 rfl (Nat.le_of_ble_eq_true rfl) dM_touch_22 (fun H locs Y => ?_)
    refine lv_aload_n hx hb dM_touch_25 rfl (lv_at hl 0 rfl) ?_
    refine rM_US X Y dM_touch_26 ?_
    refine lv_iload_n hx hb dM_touch_29 rfl (lv_at hl 1 rfl) ?_
    refine lv_iconst (v := (nI (1))) hx hb dM_touch_30 (by decide) ?_
    refine sM_US X Y (k := v) true (by decide) (by omega) dM_touch_31 (fun H locs Y => ?_)
    have E : uM_US (m_bringIn v (uM_FA s (((gM_FA s) + (nI (1)))))) v true = m_touch v s := by simp [m_touch, m_fi, h7]
    rw [E] at Y
    exact ret _ _ _ _ Y dM_touch_32
set_option maxHeartbeats 1000000 in
set_option maxRecDepth 100000 in
theorem tM_shrink (l : Launch) (g : GG) (a : Nat → Nat) (ha : apM a) (s : MS) (sp : Int32) (hsh : m_shr sp s) : Ci l g (wldM g a) (adM a) yM_shrink kM_shrink ({ frames := 2, cells := 0, slots := 0, locals := 45 }) [.ref (a 0), .int (sp)] s (nI (m_byn s)) (m_shrink sp s) := by
  have hD := wldM_D (g := g) ha
  refine Ci.of (own := RM) (cc := cM_shrink) (nL := 3) hD (by decide) rfl (Nat.le_of_ble_eq_true rfl) ?_
  intro p e S m args below meth c Q X ret H locs ls Y hl
  have hx := X.1
  have hb := X.2.1
  have hl : lv_has ls 3 [(0, .ref (a 0)), (1, .int (sp))] := hl
  refine lv_iconst (v := (nI (0))) hx hb dM_shrink_0 (by decide) ?_
  refine lv_istore_n (lv' := [(2, .int (nI (0))), (0, .ref (a 0)), (1, .int (sp))]) hx hb dM_shrink_1 rfl hl (by decide) rfl (fun ls hl => ?_)
  have loop2 : ∀ (n2 i2 : Nat) (σ2 : MS), i2 ≤ m_byn s → m_byn s < i2 + n2 → (fldN (m_by1 sp) s i2 = σ2) → ∀ (H : Heap) (locs : List Loc) (ls : Array Slot), Yw g (wldM g a) (adM a) S H locs σ2 → lv_has ls 3 [(0, .ref (a 0)), (1, .int (sp)), (2, .int (nI (i2)))] → W p l e ({ frames := 2, cells := 0, slots := 0, locals := 45 }) S m args below meth c H locs 0 0 Q (F0 m 2 ls []) := by
    intro n2
    induction n2 with
    | zero =>
      intro i2 σ2 b1 b2
      exact absurd b2 (by omega)
    | succ n2 ih2 =>
      intro i2 σ2 hi2 hn2 eσ2 H locs ls Y hl
      have hsi := hsh i2 hi2
      rw [eσ2] at hsi
      obtain ⟨hs1, hs2, hs3⟩ := hsi
      have hby : m_byn s = m_in s - (gM_BU s).val := rfl
      refine lv_aload_n hx hb dM_shrink_2 rfl (lv_at hl 0 rfl) ?_
      refine cl_vi (na := 0) (rest := []) X hD Y (tM_pagesIn l g a ha σ2  ) gM_M_pagesIn (by decide +kernel) rfl rfl rfl ⟨rfl, rfl⟩ ⟨Nat.le_of_ble_eq_true rfl, Nat.le_of_ble_eq_true rfl⟩ ⟨Nat.zero_le _, Nat.zero_le _⟩ hl.1 rfl (Nat.le_of_ble_eq_true rfl) dM_shrink_3 (fun H locs Y => ?_)
      have hf1 := m_in_le σ2
      refine lv_aload_n hx hb dM_shrink_6 rfl (lv_at hl 0 rfl) ?_
      refine rM_BU X Y dM_shrink_7 ?_
      have hq2 := (gM_BU σ2).isLt
      refine bn_le (tgt := 24) hx hb dM_shrink_10 (by decide) (by omega) (by omega) (fun h10 => ?_) (fun h10 => ?_)
      · skip
        obtain rfl : i2 = m_byn s := by omega
        subst eσ2
        refine lv_iload_n hx hb dM_shrink_24 rfl (lv_at hl 2 rfl) ?_
        have E : (fldN (m_by1 sp) s (m_byn s)) = m_shrink sp s := rfl
        rw [E] at Y
        exact ret _ _ _ _ _ Y (rfl) dM_shrink_25
      · skip
        have hs4 := hs3 (by omega)
        refine lv_aload_n hx hb dM_shrink_13 rfl (lv_at hl 0 rfl) ?_
        refine lv_iload_n hx hb dM_shrink_14 rfl (lv_at hl 1 rfl) ?_
        refine cl_vv (na := 1) (rest := []) X hD Y (tM_putOutOne l g a ha σ2 ((sp)) (by assumption)) gM_M_putOutOne (by decide +kernel) rfl rfl rfl ⟨rfl, rfl⟩ ⟨Nat.le_of_ble_eq_true rfl, Nat.le_of_ble_eq_true rfl⟩ ⟨Nat.zero_le _, Nat.zero_le _⟩ hl.1 rfl (Nat.le_of_ble_eq_true rfl) dM_shrink_15 (fun H locs Y => ?_)
        refine lv_iinc (v := (nI (i2 + 1))) (lv' := [(2, .int (nI (i2 + 1))), (0, .ref (a 0)), (1, .int (sp))]) hx hb dM_shrink_18 hl (k := 2) rfl (nI_1 _) (by decide) rfl (fun ls hl => ?_)
        refine lv_goto (tgt := 2) hx hb dM_shrink_21 (by decide) ?_
        exact ih2 (i2 + 1) (m_one ((sp)) σ2) (by omega) (by omega) (by show m_by1 sp i2 (fldN (m_by1 sp) s i2) = _; rw [eσ2]; simp [m_by1, h10]) _ _ _ Y (lv_sub hl [1, 2, 0] rfl)
  exact loop2 ((m_byn s) + 1) 0 s (by omega) (by omega) (fldN_zero) _ _ _ Y (lv_sub hl [1, 2, 0] rfl)
set_option maxHeartbeats 1000000 in
set_option maxRecDepth 100000 in
theorem tM_held (l : Launch) (g : GG) (a : Nat → Nat) (ha : apM a) (s : MS) (q : Nat) (hq : q < 32) : Ci l g (wldM g a) (adM a) yM_held kM_held ({ frames := 0, cells := 0, slots := 0, locals := 0 }) [.ref (a 0), .int (nI (q))] s (bI (m_held s q)) s := by
  have hD := wldM_D (g := g) ha
  refine Ci.ofZ (own := RM) (cc := cM_held) (nL := 4) hD (by decide) rfl (Nat.le_of_ble_eq_true rfl) ?_
  intro p e S m args below meth c Q X ret H locs ls Y hl
  have hx := X.1
  have hb := X.2.1
  have hl : lv_has ls 4 [(0, .ref (a 0)), (1, .int (nI (q)))] := hl
  refine lv_aload_n hx hb dM_held_0 rfl (lv_at hl 0 rfl) ?_
  refine rM_MK X Y dM_held_1 ?_
  refine lv_iload_n hx hb dM_held_4 rfl (lv_at hl 1 rfl) ?_
  refine lM_MK X Y (k := q) (by omega) dM_held_5 ?_
  refine lv_istore_n (lv' := [(2, .int (bI (gM_MK s q))), (0, .ref (a 0)), (1, .int (nI (q)))]) hx hb dM_held_6 rfl hl (by decide) rfl (fun ls hl => ?_)
  refine lv_iconst (v := (nI (0))) hx hb dM_held_7 (by decide) ?_
  refine lv_istore_n (lv' := [(3, .int (nI (0))), (2, .int (bI (gM_MK s q))), (0, .ref (a 0)), (1, .int (nI (q)))]) hx hb dM_held_8 rfl hl (by decide) rfl (fun ls hl => ?_)
  have loop9 : ∀ (n9 i9 : Nat) (b9 : Bool), i9 ≤ 4 → 4 < i9 + n9 → ((gM_MK s q || anyN (m_h1 s q) i9) = b9) → ∀ (H : Heap) (locs : List Loc) (ls : Array Slot), Yw g (wldM g a) (adM a) S H locs s → lv_has ls 4 [(0, .ref (a 0)), (1, .int (nI (q))), (2, .int (bI (b9))), (3, .int (nI (i9)))] → W p l e ({ frames := 0, cells := 0, slots := 0, locals := 0 }) S m args below meth c H locs 0 0 Q (F0 m 9 ls []) := by
    intro n9
    induction n9 with
    | zero =>
      intro i9 b9 b1 b2
      exact absurd b2 (by omega)
    | succ n9 ih9 =>
      intro i9 b9 hi9 hn9 eb9 H locs ls Y hl
      refine lv_iload_n hx hb dM_held_9 rfl (lv_at hl 3 rfl) ?_
      refine lv_iconst (v := (nI (4))) hx hb dM_held_10 (by decide) ?_
      refine bn_ge (tgt := 40) hx hb dM_held_11 (by decide) (by omega) (by omega) (fun h11 => ?_) (fun h11 => ?_)
      · skip
        obtain rfl : i9 = 4 := by omega
        subst eb9
        refine lv_iconst (v := (nI (0))) hx hb dM_held_40 (by decide) ?_
        refine lv_istore_n (lv' := [(3, .int (nI (0))), (0, .ref (a 0)), (1, .int (nI (q))), (2, .int (bI ((gM_MK s q || anyN (m_h1 s q) 4))))]) hx hb dM_held_41 rfl hl (by decide) rfl (fun ls hl => ?_)
        have loop42 : ∀ (n42 i42 : Nat) (b42 : Bool), i42 ≤ 64 → 64 < i42 + n42 → (((gM_MK s q || anyN (m_h1 s q) 4) || anyN (m_h2 s q) i42) = b42) → ∀ (H : Heap) (locs : List Loc) (ls : Array Slot), Yw g (wldM g a) (adM a) S H locs s → lv_has ls 4 [(0, .ref (a 0)), (1, .int (nI (q))), (2, .int (bI (b42))), (3, .int (nI (i42)))] → W p l e ({ frames := 0, cells := 0, slots := 0, locals := 0 }) S m args below meth c H locs 0 0 Q (F0 m 42 ls []) := by
          intro n42
          induction n42 with
          | zero =>
            intro i42 b42 b1 b2
            exact absurd b2 (by omega)
          | succ n42 ih42 =>
            intro i42 b42 hi42 hn42 eb42 H locs ls Y hl
            refine lv_iload_n hx hb dM_held_42 rfl (lv_at hl 3 rfl) ?_
            refine lv_bipush (v := (nI (64))) hx hb dM_held_43 (by decide) ?_
            refine bn_ge (tgt := 85) hx hb dM_held_45 (by decide) (by omega) (by omega) (fun h45 => ?_) (fun h45 => ?_)
            · skip
              obtain rfl : i42 = 64 := by omega
              subst eb42
              refine lv_iload_n hx hb dM_held_85 rfl (lv_at hl 2 rfl) ?_
              exact ret _ _ _ _ _ Y (rfl) dM_held_86
            · skip
              refine lv_iload_n hx hb dM_held_48 rfl (lv_at hl 2 rfl) ?_
              refine bb_ne (tgt := 73) hx hb dM_held_49 (by decide) (fun h49 => ?_) (fun h49 => ?_)
              · skip
                refine lv_iconst (v := (nI (1))) hx hb dM_held_73 (by decide) ?_
                refine lv_goto (tgt := 78) hx hb dM_held_74 (by decide) ?_
                refine bn_top (y := (bI (true))) (by decide) ?_
                refine lv_istore_n (lv' := [(2, .int (bI (true))), (0, .ref (a 0)), (1, .int (nI (q))), (3, .int (nI (i42)))]) hx hb dM_held_78 rfl hl (by decide) rfl (fun ls hl => ?_)
                refine lv_iinc (v := (nI (i42 + 1))) (lv' := [(3, .int (nI (i42 + 1))), (2, .int (bI (true))), (0, .ref (a 0)), (1, .int (nI (q)))]) hx hb dM_held_79 hl (k := 3) rfl (nI_1 _) (by decide) rfl (fun ls hl => ?_)
                refine lv_goto (tgt := 42) hx hb dM_held_82 (by decide) ?_
                exact ih42 (i42 + 1) true (by omega) (by omega) (by show ((gM_MK s q || anyN (m_h1 s q) 4) || (anyN (m_h2 s q) i42 || m_h2 s q i42)) = _; rw [← Bool.or_assoc, eb42]; simp [m_h2, h11, h45, h49]) _ _ _ Y (lv_sub hl [2, 3, 1, 0] rfl)
              · skip
                refine lv_aload_n hx hb dM_held_52 rfl (lv_at hl 0 rfl) ?_
                refine rM_KP X Y dM_held_53 ?_
                refine lv_iload_n hx hb dM_held_56 rfl (lv_at hl 3 rfl) ?_
                refine lv_iconst (v := (nI (2))) hx hb dM_held_57 (by decide) ?_
                refine bn_div hx hb dM_held_58 (by omega) (by omega) (by omega) ?_
                refine lM_KP X Y (k := i42 / 2) (by omega) dM_held_59 ?_
                refine bb_eq (tgt := 77) hx hb dM_held_60 (by decide) (fun h60 => ?_) (fun h60 => ?_)
                · skip
                  refine lv_iconst (v := (nI (0))) hx hb dM_held_77 (by decide) ?_
                  refine bn_top (y := (bI (false))) (by decide) ?_
                  refine lv_istore_n (lv' := [(2, .int (bI (false))), (0, .ref (a 0)), (1, .int (nI (q))), (3, .int (nI (i42)))]) hx hb dM_held_78 rfl hl (by decide) rfl (fun ls hl => ?_)
                  refine lv_iinc (v := (nI (i42 + 1))) (lv' := [(3, .int (nI (i42 + 1))), (2, .int (bI (false))), (0, .ref (a 0)), (1, .int (nI (q)))]) hx hb dM_held_79 hl (k := 3) rfl (nI_1 _) (by decide) rfl (fun ls hl => ?_)
                  refine lv_goto (tgt := 42) hx hb dM_held_82 (by decide) ?_
                  exact ih42 (i42 + 1) false (by omega) (by omega) (by show ((gM_MK s q || anyN (m_h1 s q) 4) || (anyN (m_h2 s q) i42 || m_h2 s q i42)) = _; rw [← Bool.or_assoc, eb42]; simp [m_h2, h11, h45, h49, h60]) _ _ _ Y (lv_sub hl [2, 3, 1, 0] rfl)
                · skip
                  refine lv_aload_n hx hb dM_held_63 rfl (lv_at hl 0 rfl) ?_
                  refine rM_FD X Y dM_held_64 ?_
                  refine lv_iload_n hx hb dM_held_67 rfl (lv_at hl 3 rfl) ?_
                  refine lM_FD X Y (k := i42) (by omega) dM_held_68 ?_
                  refine lv_iload_n hx hb dM_held_69 rfl (lv_at hl 1 rfl) ?_
                  refine lv_icmp_ne (tgt := 77) hx hb dM_held_70 (by decide) (fun h70 => ?_) (fun h70 => ?_)
                  · skip
                    refine lv_iconst (v := (nI (0))) hx hb dM_held_77 (by decide) ?_
                    refine bn_top (y := (bI (false))) (by decide) ?_
                    refine lv_istore_n (lv' := [(2, .int (bI (false))), (0, .ref (a 0)), (1, .int (nI (q))), (3, .int (nI (i42)))]) hx hb dM_held_78 rfl hl (by decide) rfl (fun ls hl => ?_)
                    refine lv_iinc (v := (nI (i42 + 1))) (lv' := [(3, .int (nI (i42 + 1))), (2, .int (bI (false))), (0, .ref (a 0)), (1, .int (nI (q)))]) hx hb dM_held_79 hl (k := 3) rfl (nI_1 _) (by decide) rfl (fun ls hl => ?_)
                    refine lv_goto (tgt := 42) hx hb dM_held_82 (by decide) ?_
                    exact ih42 (i42 + 1) false (by omega) (by omega) (by show ((gM_MK s q || anyN (m_h1 s q) 4) || (anyN (m_h2 s q) i42 || m_h2 s q i42)) = _; rw [← Bool.or_assoc, eb42]; simp [m_h2, h11, h45, h49, h60, h70]) _ _ _ Y (lv_sub hl [2, 3, 1, 0] rfl)
                  · skip
                    refine lv_iconst (v := (nI (1))) hx hb dM_held_73 (by decide) ?_
                    refine lv_goto (tgt := 78) hx hb dM_held_74 (by decide) ?_
                    refine bn_top (y := (bI (true))) (by decide) ?_
                    refine lv_istore_n (lv' := [(2, .int (bI (true))), (0, .ref (a 0)), (1, .int (nI (q))), (3, .int (nI (i42)))]) hx hb dM_held_78 rfl hl (by decide) rfl (fun ls hl => ?_)
                    refine lv_iinc (v := (nI (i42 + 1))) (lv' := [(3, .int (nI (i42 + 1))), (2, .int (bI (true))), (0, .ref (a 0)), (1, .int (nI (q)))]) hx hb dM_held_79 hl (k := 3) rfl (nI_1 _) (by decide) rfl (fun ls hl => ?_)
                    refine lv_goto (tgt := 42) hx hb dM_held_82 (by decide) ?_
                    exact ih42 (i42 + 1) true (by omega) (by omega) (by show ((gM_MK s q || anyN (m_h1 s q) 4) || (anyN (m_h2 s q) i42 || m_h2 s q i42)) = _; rw [← Bool.or_assoc, eb42]; simp [m_h2, h11, h45, h49, h60, h70]) _ _ _ Y (lv_sub hl [2, 3, 1, 0] rfl)
        exact loop42 (64 + 1) 0 (gM_MK s q || anyN (m_h1 s q) 4) (by omega) (by omega) (by simp [anyN]) _ _ _ Y (lv_sub hl [1, 2, 3, 0] rfl)
      · skip
        refine lv_iload_n hx hb dM_held_14 rfl (lv_at hl 2 rfl) ?_
        refine bb_ne (tgt := 28) hx hb dM_held_15 (by decide) (fun h15 => ?_) (fun h15 => ?_)
        · skip
          refine lv_iconst (v := (nI (1))) hx hb dM_held_28 (by decide) ?_
          refine lv_goto (tgt := 33) hx hb dM_held_29 (by decide) ?_
          refine bn_top (y := (bI (true))) (by decide) ?_
          refine lv_istore_n (lv' := [(2, .int (bI (true))), (0, .ref (a 0)), (1, .int (nI (q))), (3, .int (nI (i9)))]) hx hb dM_held_33 rfl hl (by decide) rfl (fun ls hl => ?_)
          refine lv_iinc (v := (nI (i9 + 1))) (lv' := [(3, .int (nI (i9 + 1))), (2, .int (bI (true))), (0, .ref (a 0)), (1, .int (nI (q)))]) hx hb dM_held_34 hl (k := 3) rfl (nI_1 _) (by decide) rfl (fun ls hl => ?_)
          refine lv_goto (tgt := 9) hx hb dM_held_37 (by decide) ?_
          exact ih9 (i9 + 1) true (by omega) (by omega) (by show (gM_MK s q || (anyN (m_h1 s q) i9 || m_h1 s q i9)) = _; rw [← Bool.or_assoc, eb9]; simp [m_h1, h11, h15]) _ _ _ Y (lv_sub hl [2, 3, 1, 0] rfl)
        · skip
          refine lv_aload_n hx hb dM_held_18 rfl (lv_at hl 0 rfl) ?_
          refine rM_RG X Y dM_held_19 ?_
          refine lv_iload_n hx hb dM_held_22 rfl (lv_at hl 3 rfl) ?_
          refine lM_RG X Y (k := i9) (by omega) dM_held_23 ?_
          refine lv_iload_n hx hb dM_held_24 rfl (lv_at hl 1 rfl) ?_
          refine lv_icmp_ne (tgt := 32) hx hb dM_held_25 (by decide) (fun h25 => ?_) (fun h25 => ?_)
          · skip
            refine lv_iconst (v := (nI (0))) hx hb dM_held_32 (by decide) ?_
            refine bn_top (y := (bI (false))) (by decide) ?_
            refine lv_istore_n (lv' := [(2, .int (bI (false))), (0, .ref (a 0)), (1, .int (nI (q))), (3, .int (nI (i9)))]) hx hb dM_held_33 rfl hl (by decide) rfl (fun ls hl => ?_)
            refine lv_iinc (v := (nI (i9 + 1))) (lv' := [(3, .int (nI (i9 + 1))), (2, .int (bI (false))), (0, .ref (a 0)), (1, .int (nI (q)))]) hx hb dM_held_34 hl (k := 3) rfl (nI_1 _) (by decide) rfl (fun ls hl => ?_)
            refine lv_goto (tgt := 9) hx hb dM_held_37 (by decide) ?_
            exact ih9 (i9 + 1) false (by omega) (by omega) (by show (gM_MK s q || (anyN (m_h1 s q) i9 || m_h1 s q i9)) = _; rw [← Bool.or_assoc, eb9]; simp [m_h1, h11, h15, h25]) _ _ _ Y (lv_sub hl [2, 3, 1, 0] rfl)
          · skip
            refine lv_iconst (v := (nI (1))) hx hb dM_held_28 (by decide) ?_
            refine lv_goto (tgt := 33) hx hb dM_held_29 (by decide) ?_
            refine bn_top (y := (bI (true))) (by decide) ?_
            refine lv_istore_n (lv' := [(2, .int (bI (true))), (0, .ref (a 0)), (1, .int (nI (q))), (3, .int (nI (i9)))]) hx hb dM_held_33 rfl hl (by decide) rfl (fun ls hl => ?_)
            refine lv_iinc (v := (nI (i9 + 1))) (lv' := [(3, .int (nI (i9 + 1))), (2, .int (bI (true))), (0, .ref (a 0)), (1, .int (nI (q)))]) hx hb dM_held_34 hl (k := 3) rfl (nI_1 _) (by decide) rfl (fun ls hl => ?_)
            refine lv_goto (tgt := 9) hx hb dM_held_37 (by decide) ?_
            exact ih9 (i9 + 1) true (by omega) (by omega) (by show (gM_MK s q || (anyN (m_h1 s q) i9 || m_h1 s q i9)) = _; rw [← Bool.or_assoc, eb9]; simp [m_h1, h11, h15, h25]) _ _ _ Y (lv_sub hl [2, 3, 1, 0] rfl)
  exact loop9 (4 + 1) 0 (gM_MK s q) (by omega) (by omega) (by simp [anyN]) _ _ _ Y (lv_sub hl [2, 3, 1, 0] rfl)
end
section
/-! written by wip/whole/specM.py -/
set_option maxHeartbeats 1000000 in
set_option maxRecDepth 100000 in
theorem tM_within (l : Launch) (g : GG) (a : Nat → Nat) (ha : apM a) (s : MS)  : Ci l g (wldM g a) (adM a) yM_within kM_within ({ frames := 1, cells := 0, slots := 0, locals := 23 }) [.ref (a 0)] s (nI (m_gone s)) (m_within s) := by
  have hD := wldM_D (g := g) ha
  refine Ci.of (own := RM) (cc := cM_within) (nL := 6) hD (by decide) rfl (Nat.le_of_ble_eq_true rfl) ?_
  intro p e S m args below meth c Q X ret H locs ls Y hl
  have hx := X.1
  have hb := X.2.1
  have hl : lv_has ls 6 [(0, .ref (a 0))] := hl
  refine lv_iconst (v := (nI (0))) hx hb dM_within_0 (by decide) ?_
  refine bn_top (y := (bI (false))) (by decide) ?_
  refine lv_istore_n (lv' := [(1, .int (bI (false))), (0, .ref (a 0))]) hx hb dM_within_1 rfl hl (by decide) rfl (fun ls hl => ?_)
  have loop2 : ∀ (n2 i2 : Nat) (σ2 : MS), i2 ≤ 32 → 32 < i2 + n2 → (fldN m_k0 s i2 = σ2) → ∀ (H : Heap) (locs : List Loc) (ls : Array Slot), Yw g (wldM g a) (adM a) S H locs σ2 → lv_has ls 6 [(0, .ref (a 0)), (1, .int (nI (i2)))] → W p l e ({ frames := 1, cells := 0, slots := 0, locals := 23 }) S m args below meth c H locs 0 0 Q (F0 m 2 ls []) := by
    intro n2
    induction n2 with
    | zero =>
      intro i2 σ2 b1 b2
      exact absurd b2 (by omega)
    | succ n2 ih2 =>
      intro i2 σ2 hi2 hn2 eσ2 H locs ls Y hl
      refine lv_iload_n hx hb dM_within_2 rfl (lv_at hl 1 rfl) ?_
      refine lv_bipush (v := (nI (32))) hx hb dM_within_3 (by decide) ?_
      refine bn_ge (tgt := 21) hx hb dM_within_5 (by decide) (by omega) (by omega) (fun h5 => ?_) (fun h5 => ?_)
      · skip
        obtain rfl : i2 = 32 := by omega
        subst eσ2
        refine lv_iconst (v := (nI (1))) hx hb dM_within_21 (by decide) ?_
        refine bn_top (y := (bI (true))) (by decide) ?_
        refine lv_istore_n (lv' := [(1, .int (bI (true))), (0, .ref (a 0))]) hx hb dM_within_22 rfl hl (by decide) rfl (fun ls hl => ?_)
        have loop23 : ∀ (n23 i23 : Nat) (b23 : Bool) (σ23 : MS), i23 ≤ 33 → 33 < i23 + n23 → (b23 = true → i23 ≤ m_kc σ23 ∧ m_fx (33 - i23) σ23 = m_wi0 s) → (b23 = false → σ23 = m_wi0 s) → ∀ (H : Heap) (locs : List Loc) (ls : Array Slot), Yw g (wldM g a) (adM a) S H locs σ23 → lv_has ls 6 [(0, .ref (a 0)), (1, .int (bI (b23)))] → W p l e ({ frames := 1, cells := 0, slots := 0, locals := 23 }) S m args below meth c H locs 0 0 Q (F0 m 23 ls []) := by
          intro n23
          induction n23 with
          | zero =>
            intro i23 b23 σ23 b1 b2
            exact absurd b2 (by omega)
          | succ n23 ih23 =>
            intro i23 b23 σ23 hi23 hn23 et23 ef23 H locs ls Y hl
            refine lv_iload_n hx hb dM_within_23 rfl (lv_at hl 1 rfl) ?_
            refine bb_eq (tgt := 93) hx hb dM_within_24 (by decide) (fun h24 => ?_) (fun h24 => ?_)
            · skip
              have E23 := ef23 h24
              rw [E23] at Y
              refine lv_iconst (v := (nI (0))) hx hb dM_within_93 (by decide) ?_
              refine lv_istore_n (lv' := [(2, .int (nI (0))), (0, .ref (a 0)), (1, .int (bI (b23)))]) hx hb dM_within_94 rfl hl (by decide) rfl (fun ls hl => ?_)
              refine lv_iconst (v := (nI (0))) hx hb dM_within_95 (by decide) ?_
              refine lv_istore_n (lv' := [(3, .int (nI (0))), (2, .int (nI (0))), (0, .ref (a 0)), (1, .int (bI (b23)))]) hx hb dM_within_96 rfl hl (by decide) rfl (fun ls hl => ?_)
              have loop97 : ∀ (n97 i97 : Nat) (k97 : Nat) (σ97 : MS), i97 ≤ 32 → 32 < i97 + n97 → (fldN m_co1 (0, m_wi0 s) i97 = (k97, σ97)) → (k97 ≤ i97) → ∀ (H : Heap) (locs : List Loc) (ls : Array Slot), Yw g (wldM g a) (adM a) S H locs σ97 → lv_has ls 6 [(0, .ref (a 0)), (1, .int (bI (b23))), (2, .int (nI (k97))), (3, .int (nI (i97)))] → W p l e ({ frames := 1, cells := 0, slots := 0, locals := 23 }) S m args below meth c H locs 0 0 Q (F0 m 97 ls []) := by
                intro n97
                induction n97 with
                | zero =>
                  intro i97 k97 σ97 b1 b2
                  exact absurd b2 (by omega)
                | succ n97 ih97 =>
                  intro i97 k97 σ97 hi97 hn97 e97 hk97 H locs ls Y hl
                  refine lv_iload_n hx hb dM_within_97 rfl (lv_at hl 3 rfl) ?_
                  refine lv_bipush (v := (nI (32))) hx hb dM_within_98 (by decide) ?_
                  refine bn_ge (tgt := 156) hx hb dM_within_100 (by decide) (by omega) (by omega) (fun h100 => ?_) (fun h100 => ?_)
                  · skip
                    obtain rfl : i97 = 32 := by omega
                    refine lv_iconst (v := (nI (0))) hx hb dM_within_156 (by decide) ?_
                    refine lv_istore_n (lv' := [(3, .int (nI (0))), (0, .ref (a 0)), (1, .int (bI (b23))), (2, .int (nI (k97)))]) hx hb dM_within_157 rfl hl (by decide) rfl (fun ls hl => ?_)
                    have loop158 : ∀ (n158 i158 : Nat) (σ158 : MS), i158 ≤ 8 → 8 < i158 + n158 → (fldN m_co2 σ97 i158 = σ158) → ∀ (H : Heap) (locs : List Loc) (ls : Array Slot), Yw g (wldM g a) (adM a) S H locs σ158 → lv_has ls 6 [(0, .ref (a 0)), (1, .int (bI (b23))), (2, .int (nI (k97))), (3, .int (nI (i158)))] → W p l e ({ frames := 1, cells := 0, slots := 0, locals := 23 }) S m args below meth c H locs 0 0 Q (F0 m 158 ls []) := by
                      intro n158
                      induction n158 with
                      | zero =>
                        intro i158 σ158 b1 b2
                        exact absurd b2 (by omega)
                      | succ n158 ih158 =>
                        intro i158 σ158 hi158 hn158 eσ158 H locs ls Y hl
                        refine lv_iload_n hx hb dM_within_158 rfl (lv_at hl 3 rfl) ?_
                        refine lv_bipush (v := (nI (8))) hx hb dM_within_159 (by decide) ?_
                        refine bn_ge (tgt := 249) hx hb dM_within_161 (by decide) (by omega) (by omega) (fun h161 => ?_) (fun h161 => ?_)
                        · skip
                          obtain rfl : i158 = 8 := by omega
                          subst eσ158
                          refine lv_iload_n hx hb dM_within_249 rfl (lv_at hl 2 rfl) ?_
                          have E : (fldN m_co2 σ97 8) = m_within s := by simp only [m_within, m_cog, e97]
                          rw [E] at Y
                          exact ret _ _ _ _ _ Y (by simp only [m_gone, m_cog, e97]) dM_within_250
                        · skip
                          refine lv_aload_n hx hb dM_within_164 rfl (lv_at hl 0 rfl) ?_
                          refine rM_ST X Y dM_within_165 ?_
                          refine lv_iload_n hx hb dM_within_168 rfl (lv_at hl 3 rfl) ?_
                          refine lM_ST X Y (k := i158) (by omega) dM_within_169 ?_
                          have hq1 := (gM_ST σ158 i158).isLt
                          refine lv_iconst (v := (nI (1))) hx hb dM_within_170 (by decide) ?_
                          refine bn_ne (tgt := 178) hx hb dM_within_171 (by decide) (by omega) (by omega) (fun h171 => ?_) (fun h171 => ?_)
                          · skip
                            refine lv_iconst (v := (nI (0))) hx hb dM_within_178 (by decide) ?_
                            refine bn_top (y := (bI (false))) (by decide) ?_
                            refine lv_istore (lv' := [(4, .int (bI (false))), (0, .ref (a 0)), (1, .int (bI (b23))), (2, .int (nI (k97))), (3, .int (nI (i158)))]) hx hb dM_within_179 hl (by decide) rfl (fun ls hl => ?_)
                            refine lv_iconst (v := (nI (4))) hx hb dM_within_181 (by decide) ?_
                            refine lv_iload_n hx hb dM_within_182 rfl (lv_at hl 4 rfl) ?_
                            refine bn_mul hx hb dM_within_183 ?_
                            refine lv_istore (lv' := [(5, .int (nI (4 * i158))), (4, .int (bI (false))), (0, .ref (a 0)), (1, .int (bI (b23))), (2, .int (nI (k97))), (3, .int (nI (i158)))]) hx hb dM_within_184 hl (by decide) rfl (fun ls hl => ?_)
                            have loop186 : ∀ (n186 i186 : Nat) (b186 : Bool), i186 ≤ 4 → 4 < i186 + n186 → ((false && !(anyN (m_bab σ158 i158) i186)) = b186) → ∀ (H : Heap) (locs : List Loc) (ls : Array Slot), Yw g (wldM g a) (adM a) S H locs σ158 → lv_has ls 6 [(0, .ref (a 0)), (1, .int (bI (b23))), (2, .int (nI (k97))), (3, .int (nI (i158))), (4, .int (bI (b186))), (5, .int (nI (4 * i158 + i186)))] → W p l e ({ frames := 1, cells := 0, slots := 0, locals := 23 }) S m args below meth c H locs 0 0 Q (F0 m 186 ls []) := by
                              intro n186
                              induction n186 with
                              | zero =>
                                intro i186 b186 b1 b2
                                exact absurd b2 (by omega)
                              | succ n186 ih186 =>
                                intro i186 b186 hi186 hn186 eb186 H locs ls Y hl
                                refine lv_iload hx hb dM_within_186 (lv_at hl 5 rfl) ?_
                                refine lv_iconst (v := (nI (4))) hx hb dM_within_188 (by decide) ?_
                                refine lv_iload_n hx hb dM_within_189 rfl (lv_at hl 3 rfl) ?_
                                refine bn_mul hx hb dM_within_190 ?_
                                refine lv_iconst (v := (nI (4))) hx hb dM_within_191 (by decide) ?_
                                refine bn_add hx hb dM_within_192 ?_
                                refine bn_ge (tgt := 224) hx hb dM_within_193 (by decide) (by omega) (by omega) (fun h193 => ?_) (fun h193 => ?_)
                                · skip
                                  obtain rfl : i186 = 4 := by omega
                                  subst eb186
                                  refine lv_iload hx hb dM_within_224 (lv_at hl 4 rfl) ?_
                                  refine bb_eq (tgt := 243) hx hb dM_within_226 (by decide) (fun h226 => ?_) (fun h226 => ?_)
                                  · skip
                                    refine lv_iinc (v := (nI (i158 + 1))) (lv' := [(3, .int (nI (i158 + 1))), (0, .ref (a 0)), (1, .int (bI (b23))), (2, .int (nI (k97))), (4, .int (bI ((false && !(anyN (m_bab σ158 i158) 4))))), (5, .int (nI (4 * i158 + 4)))]) hx hb dM_within_243 hl (k := 3) rfl (nI_1 _) (by decide) rfl (fun ls hl => ?_)
                                    refine lv_goto (tgt := 158) hx hb dM_within_246 (by decide) ?_
                                    exact ih158 (i158 + 1) σ158 (by omega) (by omega) (by show m_co2 i158 (fldN m_co2 σ97 i158) = _; rw [eσ158]; cases hb2 : anyN (m_bab σ158 i158) 4 <;> rw [hb2] at h226 <;> first | exact absurd h226 (by decide) | simp [m_co2, hb2, h5, h24, h100, h161, h171, h193, h226]) _ _ _ Y (lv_sub hl [1, 2, 3, 0] rfl)
                                  · skip
                                    refine lv_aload_n hx hb dM_within_229 rfl (lv_at hl 0 rfl) ?_
                                    refine rM_ST X Y dM_within_230 ?_
                                    refine lv_iload_n hx hb dM_within_233 rfl (lv_at hl 3 rfl) ?_
                                    refine lv_iconst (v := (nI (0))) hx hb dM_within_234 (by decide) ?_
                                    refine sM_ST X Y (k := i158) (⟨0, by omega⟩) rfl (by omega) dM_within_235 (fun H locs Y => ?_)
                                    refine lv_aload_n hx hb dM_within_236 rfl (lv_at hl 0 rfl) ?_
                                    refine rM_US X Y dM_within_237 ?_
                                    refine lv_iload_n hx hb dM_within_240 rfl (lv_at hl 3 rfl) ?_
                                    refine lv_iconst (v := (nI (0))) hx hb dM_within_241 (by decide) ?_
                                    refine sM_US X Y (k := i158) false (by decide) (by omega) dM_within_242 (fun H locs Y => ?_)
                                    refine lv_iinc (v := (nI (i158 + 1))) (lv' := [(3, .int (nI (i158 + 1))), (0, .ref (a 0)), (1, .int (bI (b23))), (2, .int (nI (k97))), (4, .int (bI ((false && !(anyN (m_bab σ158 i158) 4))))), (5, .int (nI (4 * i158 + 4)))]) hx hb dM_within_243 hl (k := 3) rfl (nI_1 _) (by decide) rfl (fun ls hl => ?_)
                                    refine lv_goto (tgt := 158) hx hb dM_within_246 (by decide) ?_
                                    exact ih158 (i158 + 1) (uM_US (uM_ST σ158 i158 (⟨0, by omega⟩)) i158 false) (by omega) (by omega) (by show m_co2 i158 (fldN m_co2 σ97 i158) = _; rw [eσ158]; cases hb2 : anyN (m_bab σ158 i158) 4 <;> rw [hb2] at h226 <;> first | exact absurd h226 (by decide) | simp [m_co2, hb2, h5, h24, h100, h161, h171, h193, h226]) _ _ _ Y (lv_sub hl [1, 2, 3, 0] rfl)
                                · skip
                                  refine lv_iload hx hb dM_within_196 (lv_at hl 4 rfl) ?_
                                  refine bb_eq (tgt := 215) hx hb dM_within_198 (by decide) (fun h198 => ?_) (fun h198 => ?_)
                                  · skip
                                    refine lv_iconst (v := (nI (0))) hx hb dM_within_215 (by decide) ?_
                                    refine bn_top (y := (bI (false))) (by decide) ?_
                                    refine lv_istore (lv' := [(4, .int (bI (false))), (0, .ref (a 0)), (1, .int (bI (b23))), (2, .int (nI (k97))), (3, .int (nI (i158))), (5, .int (nI (4 * i158 + i186)))]) hx hb dM_within_216 hl (by decide) rfl (fun ls hl => ?_)
                                    refine lv_iinc (v := (nI (4 * i158 + i186 + 1))) (lv' := [(5, .int (nI (4 * i158 + i186 + 1))), (4, .int (bI (false))), (0, .ref (a 0)), (1, .int (bI (b23))), (2, .int (nI (k97))), (3, .int (nI (i158)))]) hx hb dM_within_218 hl (k := 5) rfl (nI_1 _) (by decide) rfl (fun ls hl => ?_)
                                    refine lv_goto (tgt := 186) hx hb dM_within_221 (by decide) ?_
                                    exact ih186 (i186 + 1) false (by omega) (by omega) (by show (false && !(anyN (m_bab σ158 i158) i186 || m_bab σ158 i158 i186)) = _; rw [Bool.not_or, ← Bool.and_assoc, eb186]; simp [m_bab, h5, h24, h100, h161, h171, h193, h198]) _ _ _ Y (lv_sub hl [2, 3, 4, 5, 1, 0] rfl)
                                  · skip
                                    refine lv_aload_n hx hb dM_within_201 rfl (lv_at hl 0 rfl) ?_
                                    refine rM_TH X Y dM_within_202 ?_
                                    refine lv_iload hx hb dM_within_205 (lv_at hl 5 rfl) ?_
                                    refine lM_TH X Y (k := 4 * i158 + i186) (by omega) dM_within_207 ?_
                                    refine bb_ne (tgt := 215) hx hb dM_within_208 (by decide) (fun h208 => ?_) (fun h208 => ?_)
                                    · skip
                                      refine lv_iconst (v := (nI (0))) hx hb dM_within_215 (by decide) ?_
                                      refine bn_top (y := (bI (false))) (by decide) ?_
                                      refine lv_istore (lv' := [(4, .int (bI (false))), (0, .ref (a 0)), (1, .int (bI (b23))), (2, .int (nI (k97))), (3, .int (nI (i158))), (5, .int (nI (4 * i158 + i186)))]) hx hb dM_within_216 hl (by decide) rfl (fun ls hl => ?_)
                                      refine lv_iinc (v := (nI (4 * i158 + i186 + 1))) (lv' := [(5, .int (nI (4 * i158 + i186 + 1))), (4, .int (bI (false))), (0, .ref (a 0)), (1, .int (bI (b23))), (2, .int (nI (k97))), (3, .int (nI (i158)))]) hx hb dM_within_218 hl (k := 5) rfl (nI_1 _) (by decide) rfl (fun ls hl => ?_)
                                      refine lv_goto (tgt := 186) hx hb dM_within_221 (by decide) ?_
                                      exact ih186 (i186 + 1) false (by omega) (by omega) (by show (false && !(anyN (m_bab σ158 i158) i186 || m_bab σ158 i158 i186)) = _; rw [Bool.not_or, ← Bool.and_assoc, eb186]; simp [m_bab, h5, h24, h100, h161, h171, h193, h198, h208]) _ _ _ Y (lv_sub hl [2, 3, 4, 5, 1, 0] rfl)
                                    · skip
                                      refine lv_iconst (v := (nI (1))) hx hb dM_within_211 (by decide) ?_
                                      refine lv_goto (tgt := 216) hx hb dM_within_212 (by decide) ?_
                                      refine bn_top (y := (bI (true))) (by decide) ?_
                                      refine lv_istore (lv' := [(4, .int (bI (true))), (0, .ref (a 0)), (1, .int (bI (b23))), (2, .int (nI (k97))), (3, .int (nI (i158))), (5, .int (nI (4 * i158 + i186)))]) hx hb dM_within_216 hl (by decide) rfl (fun ls hl => ?_)
                                      refine lv_iinc (v := (nI (4 * i158 + i186 + 1))) (lv' := [(5, .int (nI (4 * i158 + i186 + 1))), (4, .int (bI (true))), (0, .ref (a 0)), (1, .int (bI (b23))), (2, .int (nI (k97))), (3, .int (nI (i158)))]) hx hb dM_within_218 hl (k := 5) rfl (nI_1 _) (by decide) rfl (fun ls hl => ?_)
                                      refine lv_goto (tgt := 186) hx hb dM_within_221 (by decide) ?_
                                      exact ih186 (i186 + 1) true (by omega) (by omega) (by show (false && !(anyN (m_bab σ158 i158) i186 || m_bab σ158 i158 i186)) = _; rw [Bool.not_or, ← Bool.and_assoc, eb186]; simp [m_bab, h5, h24, h100, h161, h171, h193, h198, h208]) _ _ _ Y (lv_sub hl [2, 3, 4, 5, 1, 0] rfl)
                            exact loop186 (4 + 1) 0 false (by omega) (by omega) (by simp [anyN]) _ _ _ Y (lv_sub hl [2, 3, 4, 5, 1, 0] rfl)
                          · skip
                            refine lv_iconst (v := (nI (1))) hx hb dM_within_174 (by decide) ?_
                            refine lv_goto (tgt := 179) hx hb dM_within_175 (by decide) ?_
                            refine bn_top (y := (bI (true))) (by decide) ?_
                            refine lv_istore (lv' := [(4, .int (bI (true))), (0, .ref (a 0)), (1, .int (bI (b23))), (2, .int (nI (k97))), (3, .int (nI (i158)))]) hx hb dM_within_179 hl (by decide) rfl (fun ls hl => ?_)
                            refine lv_iconst (v := (nI (4))) hx hb dM_within_181 (by decide) ?_
                            refine lv_iload_n hx hb dM_within_182 rfl (lv_at hl 4 rfl) ?_
                            refine bn_mul hx hb dM_within_183 ?_
                            refine lv_istore (lv' := [(5, .int (nI (4 * i158))), (4, .int (bI (true))), (0, .ref (a 0)), (1, .int (bI (b23))), (2, .int (nI (k97))), (3, .int (nI (i158)))]) hx hb dM_within_184 hl (by decide) rfl (fun ls hl => ?_)
                            have loop186 : ∀ (n186 i186 : Nat) (b186 : Bool), i186 ≤ 4 → 4 < i186 + n186 → ((true && !(anyN (m_bab σ158 i158) i186)) = b186) → ∀ (H : Heap) (locs : List Loc) (ls : Array Slot), Yw g (wldM g a) (adM a) S H locs σ158 → lv_has ls 6 [(0, .ref (a 0)), (1, .int (bI (b23))), (2, .int (nI (k97))), (3, .int (nI (i158))), (4, .int (bI (b186))), (5, .int (nI (4 * i158 + i186)))] → W p l e ({ frames := 1, cells := 0, slots := 0, locals := 23 }) S m args below meth c H locs 0 0 Q (F0 m 186 ls []) := by
                              intro n186
                              induction n186 with
                              | zero =>
                                intro i186 b186 b1 b2
                                exact absurd b2 (by omega)
                              | succ n186 ih186 =>
                                intro i186 b186 hi186 hn186 eb186 H locs ls Y hl
                                refine lv_iload hx hb dM_within_186 (lv_at hl 5 rfl) ?_
                                refine lv_iconst (v := (nI (4))) hx hb dM_within_188 (by decide) ?_
                                refine lv_iload_n hx hb dM_within_189 rfl (lv_at hl 3 rfl) ?_
                                refine bn_mul hx hb dM_within_190 ?_
                                refine lv_iconst (v := (nI (4))) hx hb dM_within_191 (by decide) ?_
                                refine bn_add hx hb dM_within_192 ?_
                                refine bn_ge (tgt := 224) hx hb dM_within_193 (by decide) (by omega) (by omega) (fun h193 => ?_) (fun h193 => ?_)
                                · skip
                                  obtain rfl : i186 = 4 := by omega
                                  subst eb186
                                  refine lv_iload hx hb dM_within_224 (lv_at hl 4 rfl) ?_
                                  refine bb_eq (tgt := 243) hx hb dM_within_226 (by decide) (fun h226 => ?_) (fun h226 => ?_)
                                  · skip
                                    refine lv_iinc (v := (nI (i158 + 1))) (lv' := [(3, .int (nI (i158 + 1))), (0, .ref (a 0)), (1, .int (bI (b23))), (2, .int (nI (k97))), (4, .int (bI ((true && !(anyN (m_bab σ158 i158) 4))))), (5, .int (nI (4 * i158 + 4)))]) hx hb dM_within_243 hl (k := 3) rfl (nI_1 _) (by decide) rfl (fun ls hl => ?_)
                                    refine lv_goto (tgt := 158) hx hb dM_within_246 (by decide) ?_
                                    exact ih158 (i158 + 1) σ158 (by omega) (by omega) (by show m_co2 i158 (fldN m_co2 σ97 i158) = _; rw [eσ158]; cases hb2 : anyN (m_bab σ158 i158) 4 <;> rw [hb2] at h226 <;> first | exact absurd h226 (by decide) | simp [m_co2, hb2, h5, h24, h100, h161, h171, h193, h226]) _ _ _ Y (lv_sub hl [1, 2, 3, 0] rfl)
                                  · skip
                                    refine lv_aload_n hx hb dM_within_229 rfl (lv_at hl 0 rfl) ?_
                                    refine rM_ST X Y dM_within_230 ?_
                                    refine lv_iload_n hx hb dM_within_233 rfl (lv_at hl 3 rfl) ?_
                                    refine lv_iconst (v := (nI (0))) hx hb dM_within_234 (by decide) ?_
                                    refine sM_ST X Y (k := i158) (⟨0, by omega⟩) rfl (by omega) dM_within_235 (fun H locs Y => ?_)
                                    refine lv_aload_n hx hb dM_within_236 rfl (lv_at hl 0 rfl) ?_
                                    refine rM_US X Y dM_within_237 ?_
                                    refine lv_iload_n hx hb dM_within_240 rfl (lv_at hl 3 rfl) ?_
                                    refine lv_iconst (v := (nI (0))) hx hb dM_within_241 (by decide) ?_
                                    refine sM_US X Y (k := i158) false (by decide) (by omega) dM_within_242 (fun H locs Y => ?_)
                                    refine lv_iinc (v := (nI (i158 + 1))) (lv' := [(3, .int (nI (i158 + 1))), (0, .ref (a 0)), (1, .int (bI (b23))), (2, .int (nI (k97))), (4, .int (bI ((true && !(anyN (m_bab σ158 i158) 4))))), (5, .int (nI (4 * i158 + 4)))]) hx hb dM_within_243 hl (k := 3) rfl (nI_1 _) (by decide) rfl (fun ls hl => ?_)
                                    refine lv_goto (tgt := 158) hx hb dM_within_246 (by decide) ?_
                                    exact ih158 (i158 + 1) (uM_US (uM_ST σ158 i158 (⟨0, by omega⟩)) i158 false) (by omega) (by omega) (by show m_co2 i158 (fldN m_co2 σ97 i158) = _; rw [eσ158]; cases hb2 : anyN (m_bab σ158 i158) 4 <;> rw [hb2] at h226 <;> first | exact absurd h226 (by decide) | simp [m_co2, hb2, h5, h24, h100, h161, h171, h193, h226]) _ _ _ Y (lv_sub hl [1, 2, 3, 0] rfl)
                                · skip
                                  refine lv_iload hx hb dM_within_196 (lv_at hl 4 rfl) ?_
                                  refine bb_eq (tgt := 215) hx hb dM_within_198 (by decide) (fun h198 => ?_) (fun h198 => ?_)
                                  · skip
                                    refine lv_iconst (v := (nI (0))) hx hb dM_within_215 (by decide) ?_
                                    refine bn_top (y := (bI (false))) (by decide) ?_
                                    refine lv_istore (lv' := [(4, .int (bI (false))), (0, .ref (a 0)), (1, .int (bI (b23))), (2, .int (nI (k97))), (3, .int (nI (i158))), (5, .int (nI (4 * i158 + i186)))]) hx hb dM_within_216 hl (by decide) rfl (fun ls hl => ?_)
                                    refine lv_iinc (v := (nI (4 * i158 + i186 + 1))) (lv' := [(5, .int (nI (4 * i158 + i186 + 1))), (4, .int (bI (false))), (0, .ref (a 0)), (1, .int (bI (b23))), (2, .int (nI (k97))), (3, .int (nI (i158)))]) hx hb dM_within_218 hl (k := 5) rfl (nI_1 _) (by decide) rfl (fun ls hl => ?_)
                                    refine lv_goto (tgt := 186) hx hb dM_within_221 (by decide) ?_
                                    exact ih186 (i186 + 1) false (by omega) (by omega) (by show (true && !(anyN (m_bab σ158 i158) i186 || m_bab σ158 i158 i186)) = _; rw [Bool.not_or, ← Bool.and_assoc, eb186]; simp [m_bab, h5, h24, h100, h161, h171, h193, h198]) _ _ _ Y (lv_sub hl [2, 3, 4, 5, 1, 0] rfl)
                                  · skip
                                    refine lv_aload_n hx hb dM_within_201 rfl (lv_at hl 0 rfl) ?_
                                    refine rM_TH X Y dM_within_202 ?_
                                    refine lv_iload hx hb dM_within_205 (lv_at hl 5 rfl) ?_
                                    refine lM_TH X Y (k := 4 * i158 + i186) (by omega) dM_within_207 ?_
                                    refine bb_ne (tgt := 215) hx hb dM_within_208 (by decide) (fun h208 => ?_) (fun h208 => ?_)
                                    · skip
                                      refine lv_iconst (v := (nI (0))) hx hb dM_within_215 (by decide) ?_
                                      refine bn_top (y := (bI (false))) (by decide) ?_
                                      refine lv_istore (lv' := [(4, .int (bI (false))), (0, .ref (a 0)), (1, .int (bI (b23))), (2, .int (nI (k97))), (3, .int (nI (i158))), (5, .int (nI (4 * i158 + i186)))]) hx hb dM_within_216 hl (by decide) rfl (fun ls hl => ?_)
                                      refine lv_iinc (v := (nI (4 * i158 + i186 + 1))) (lv' := [(5, .int (nI (4 * i158 + i186 + 1))), (4, .int (bI (false))), (0, .ref (a 0)), (1, .int (bI (b23))), (2, .int (nI (k97))), (3, .int (nI (i158)))]) hx hb dM_within_218 hl (k := 5) rfl (nI_1 _) (by decide) rfl (fun ls hl => ?_)
                                      refine lv_goto (tgt := 186) hx hb dM_within_221 (by decide) ?_
                                      exact ih186 (i186 + 1) false (by omega) (by omega) (by show (true && !(anyN (m_bab σ158 i158) i186 || m_bab σ158 i158 i186)) = _; rw [Bool.not_or, ← Bool.and_assoc, eb186]; simp [m_bab, h5, h24, h100, h161, h171, h193, h198, h208]) _ _ _ Y (lv_sub hl [2, 3, 4, 5, 1, 0] rfl)
                                    · skip
                                      refine lv_iconst (v := (nI (1))) hx hb dM_within_211 (by decide) ?_
                                      refine lv_goto (tgt := 216) hx hb dM_within_212 (by decide) ?_
                                      refine bn_top (y := (bI (true))) (by decide) ?_
                                      refine lv_istore (lv' := [(4, .int (bI (true))), (0, .ref (a 0)), (1, .int (bI (b23))), (2, .int (nI (k97))), (3, .int (nI (i158))), (5, .int (nI (4 * i158 + i186)))]) hx hb dM_within_216 hl (by decide) rfl (fun ls hl => ?_)
                                      refine lv_iinc (v := (nI (4 * i158 + i186 + 1))) (lv' := [(5, .int (nI (4 * i158 + i186 + 1))), (4, .int (bI (true))), (0, .ref (a 0)), (1, .int (bI (b23))), (2, .int (nI (k97))), (3, .int (nI (i158)))]) hx hb dM_within_218 hl (k := 5) rfl (nI_1 _) (by decide) rfl (fun ls hl => ?_)
                                      refine lv_goto (tgt := 186) hx hb dM_within_221 (by decide) ?_
                                      exact ih186 (i186 + 1) true (by omega) (by omega) (by show (true && !(anyN (m_bab σ158 i158) i186 || m_bab σ158 i158 i186)) = _; rw [Bool.not_or, ← Bool.and_assoc, eb186]; simp [m_bab, h5, h24, h100, h161, h171, h193, h198, h208]) _ _ _ Y (lv_sub hl [2, 3, 4, 5, 1, 0] rfl)
                            exact loop186 (4 + 1) 0 true (by omega) (by omega) (by simp [anyN]) _ _ _ Y (lv_sub hl [2, 3, 4, 5, 1, 0] rfl)
                    exact loop158 (8 + 1) 0 σ97 (by omega) (by omega) (fldN_zero) _ _ _ Y (lv_sub hl [1, 2, 3, 0] rfl)
                  · skip
                    refine lv_aload_n hx hb dM_within_103 rfl (lv_at hl 0 rfl) ?_
                    refine rM_TH X Y dM_within_104 ?_
                    refine lv_iload_n hx hb dM_within_107 rfl (lv_at hl 3 rfl) ?_
                    refine lM_TH X Y (k := i97) (by omega) dM_within_108 ?_
                    refine bb_eq (tgt := 150) hx hb dM_within_109 (by decide) (fun h109 => ?_) (fun h109 => ?_)
                    · skip
                      refine lv_iinc (v := (nI (i97 + 1))) (lv' := [(3, .int (nI (i97 + 1))), (0, .ref (a 0)), (1, .int (bI (b23))), (2, .int (nI (k97)))]) hx hb dM_within_150 hl (k := 3) rfl (nI_1 _) (by decide) rfl (fun ls hl => ?_)
                      refine lv_goto (tgt := 97) hx hb dM_within_153 (by decide) ?_
                      exact ih97 (i97 + 1) k97 σ97 (by omega) (by omega) (by show m_co1 i97 (fldN m_co1 (0, m_wi0 s) i97) = _; rw [e97]; simp [m_co1, m_gob, h5, h24, h100, h109]) (by omega) _ _ _ Y (lv_sub hl [1, 2, 3, 0] rfl)
                    · skip
                      refine lv_aload_n hx hb dM_within_112 rfl (lv_at hl 0 rfl) ?_
                      refine rM_ST X Y dM_within_113 ?_
                      refine lv_iload_n hx hb dM_within_116 rfl (lv_at hl 3 rfl) ?_
                      refine lv_iconst (v := (nI (4))) hx hb dM_within_117 (by decide) ?_
                      refine bn_div hx hb dM_within_118 (by omega) (by omega) (by omega) ?_
                      refine lM_ST X Y (k := i97 / 4) (by omega) dM_within_119 ?_
                      have hq2 := (gM_ST σ97 (i97 / 4)).isLt
                      refine lv_iconst (v := (nI (1))) hx hb dM_within_120 (by decide) ?_
                      refine bn_ne (tgt := 150) hx hb dM_within_121 (by decide) (by omega) (by omega) (fun h121 => ?_) (fun h121 => ?_)
                      · skip
                        refine lv_iinc (v := (nI (i97 + 1))) (lv' := [(3, .int (nI (i97 + 1))), (0, .ref (a 0)), (1, .int (bI (b23))), (2, .int (nI (k97)))]) hx hb dM_within_150 hl (k := 3) rfl (nI_1 _) (by decide) rfl (fun ls hl => ?_)
                        refine lv_goto (tgt := 97) hx hb dM_within_153 (by decide) ?_
                        exact ih97 (i97 + 1) k97 σ97 (by omega) (by omega) (by show m_co1 i97 (fldN m_co1 (0, m_wi0 s) i97) = _; rw [e97]; simp [m_co1, m_gob, h5, h24, h100, h109, h121]) (by omega) _ _ _ Y (lv_sub hl [1, 2, 3, 0] rfl)
                      · skip
                        refine lv_aload_n hx hb dM_within_124 rfl (lv_at hl 0 rfl) ?_
                        refine rM_KP X Y dM_within_125 ?_
                        refine lv_iload_n hx hb dM_within_128 rfl (lv_at hl 3 rfl) ?_
                        refine lM_KP X Y (k := i97) (by omega) dM_within_129 ?_
                        refine bb_ne (tgt := 150) hx hb dM_within_130 (by decide) (fun h130 => ?_) (fun h130 => ?_)
                        · skip
                          refine lv_iinc (v := (nI (i97 + 1))) (lv' := [(3, .int (nI (i97 + 1))), (0, .ref (a 0)), (1, .int (bI (b23))), (2, .int (nI (k97)))]) hx hb dM_within_150 hl (k := 3) rfl (nI_1 _) (by decide) rfl (fun ls hl => ?_)
                          refine lv_goto (tgt := 97) hx hb dM_within_153 (by decide) ?_
                          exact ih97 (i97 + 1) k97 σ97 (by omega) (by omega) (by show m_co1 i97 (fldN m_co1 (0, m_wi0 s) i97) = _; rw [e97]; simp [m_co1, m_gob, h5, h24, h100, h109, h121, h130]) (by omega) _ _ _ Y (lv_sub hl [1, 2, 3, 0] rfl)
                        · skip
                          refine lv_aload_n hx hb dM_within_133 rfl (lv_at hl 0 rfl) ?_
                          refine rM_TH X Y dM_within_134 ?_
                          refine lv_iload_n hx hb dM_within_137 rfl (lv_at hl 3 rfl) ?_
                          refine lv_iconst (v := (nI (0))) hx hb dM_within_138 (by decide) ?_
                          refine sM_TH X Y (k := i97) false (by decide) (by omega) dM_within_139 (fun H locs Y => ?_)
                          refine lv_aload_n hx hb dM_within_140 rfl (lv_at hl 0 rfl) ?_
                          refine rM_MK X Y dM_within_141 ?_
                          refine lv_iload_n hx hb dM_within_144 rfl (lv_at hl 3 rfl) ?_
                          refine lv_iconst (v := (nI (0))) hx hb dM_within_145 (by decide) ?_
                          refine sM_MK X Y (k := i97) false (by decide) (by omega) dM_within_146 (fun H locs Y => ?_)
                          refine lv_iinc (v := (nI (k97 + 1))) (lv' := [(2, .int (nI (k97 + 1))), (0, .ref (a 0)), (1, .int (bI (b23))), (3, .int (nI (i97)))]) hx hb dM_within_147 hl (k := 2) rfl (nI_1 _) (by decide) rfl (fun ls hl => ?_)
                          refine lv_iinc (v := (nI (i97 + 1))) (lv' := [(3, .int (nI (i97 + 1))), (2, .int (nI (k97 + 1))), (0, .ref (a 0)), (1, .int (bI (b23)))]) hx hb dM_within_150 hl (k := 3) rfl (nI_1 _) (by decide) rfl (fun ls hl => ?_)
                          refine lv_goto (tgt := 97) hx hb dM_within_153 (by decide) ?_
                          exact ih97 (i97 + 1) (k97 + 1) (uM_MK (uM_TH σ97 i97 false) i97 false) (by omega) (by omega) (by show m_co1 i97 (fldN m_co1 (0, m_wi0 s) i97) = _; rw [e97]; simp [m_co1, m_gob, h5, h24, h100, h109, h121, h130]) (by omega) _ _ _ Y (lv_sub hl [2, 3, 1, 0] rfl)
              exact loop97 (32 + 1) 0 0 ((m_wi0 s)) (by omega) (by omega) (rfl) (Nat.le_refl 0) _ _ _ Y (lv_sub hl [2, 3, 1, 0] rfl)
            · skip
              obtain ⟨ht1, ht2⟩ := et23 h24
              refine lv_iconst (v := (nI (0))) hx hb dM_within_27 (by decide) ?_
              refine bn_top (y := (bI (false))) (by decide) ?_
              refine lv_istore_n (lv' := [(1, .int (bI (false))), (0, .ref (a 0))]) hx hb dM_within_28 rfl hl (by decide) rfl (fun ls hl => ?_)
              refine lv_iconst (v := (nI (0))) hx hb dM_within_29 (by decide) ?_
              refine lv_istore_n (lv' := [(2, .int (nI (0))), (1, .int (bI (false))), (0, .ref (a 0))]) hx hb dM_within_30 rfl hl (by decide) rfl (fun ls hl => ?_)
              have loop31 : ∀ (n31 i31 : Nat) (b31 : Bool) (σ31 : MS), i31 ≤ 32 → 32 < i31 + n31 → (fldN m_sw (false, σ23) i31 = (b31, σ31)) → ∀ (H : Heap) (locs : List Loc) (ls : Array Slot), Yw g (wldM g a) (adM a) S H locs σ31 → lv_has ls 6 [(0, .ref (a 0)), (1, .int (bI (b31))), (2, .int (nI (i31)))] → W p l e ({ frames := 1, cells := 0, slots := 0, locals := 23 }) S m args below meth c H locs 0 0 Q (F0 m 31 ls []) := by
                intro n31
                induction n31 with
                | zero =>
                  intro i31 b31 σ31 b1 b2
                  exact absurd b2 (by omega)
                | succ n31 ih31 =>
                  intro i31 b31 σ31 hi31 hn31 e31 H locs ls Y hl
                  refine lv_iload_n hx hb dM_within_31 rfl (lv_at hl 2 rfl) ?_
                  refine lv_bipush (v := (nI (32))) hx hb dM_within_32 (by decide) ?_
                  refine bn_ge (tgt := 90) hx hb dM_within_34 (by decide) (by omega) (by omega) (fun h34 => ?_) (fun h34 => ?_)
                  · skip
                    obtain rfl : i31 = 32 := by omega
                    have hkc := m_kc_le σ23
                    have ht : i23 ≤ m_kc σ23 ∧ m_fx (33 - i23) σ23 = m_wi0 s := ⟨ht1, ht2⟩
                    refine lv_goto (tgt := 23) hx hb dM_within_90 (by decide) ?_
                    exact ih23 (i23 + 1) b31 σ31 (by omega) (by omega) (m_fx_t ht e31) (m_fx_f ht e31) _ _ _ Y (lv_sub hl [0, 1] rfl)
                  · skip
                    refine lv_aload_n hx hb dM_within_37 rfl (lv_at hl 0 rfl) ?_
                    refine rM_KP X Y dM_within_38 ?_
                    refine lv_iload_n hx hb dM_within_41 rfl (lv_at hl 2 rfl) ?_
                    refine lM_KP X Y (k := i31) (by omega) dM_within_42 ?_
                    refine bb_ne (tgt := 84) hx hb dM_within_43 (by decide) (fun h43 => ?_) (fun h43 => ?_)
                    · skip
                      refine lv_iinc (v := (nI (i31 + 1))) (lv' := [(2, .int (nI (i31 + 1))), (0, .ref (a 0)), (1, .int (bI (b31)))]) hx hb dM_within_84 hl (k := 2) rfl (nI_1 _) (by decide) rfl (fun ls hl => ?_)
                      refine lv_goto (tgt := 31) hx hb dM_within_87 (by decide) ?_
                      exact ih31 (i31 + 1) b31 σ31 (by omega) (by omega) (by show m_sw i31 (fldN m_sw (false, σ23) i31) = _; rw [e31]; simp [m_sw, m_swb, h5, h24, h34, h43]) _ _ _ Y (lv_sub hl [1, 2, 0] rfl)
                    · skip
                      refine lv_aload_n hx hb dM_within_46 rfl (lv_at hl 0 rfl) ?_
                      refine rM_TH X Y dM_within_47 ?_
                      refine lv_iload_n hx hb dM_within_50 rfl (lv_at hl 2 rfl) ?_
                      refine lM_TH X Y (k := i31) (by omega) dM_within_51 ?_
                      refine bb_eq (tgt := 84) hx hb dM_within_52 (by decide) (fun h52 => ?_) (fun h52 => ?_)
                      · skip
                        refine lv_iinc (v := (nI (i31 + 1))) (lv' := [(2, .int (nI (i31 + 1))), (0, .ref (a 0)), (1, .int (bI (b31)))]) hx hb dM_within_84 hl (k := 2) rfl (nI_1 _) (by decide) rfl (fun ls hl => ?_)
                        refine lv_goto (tgt := 31) hx hb dM_within_87 (by decide) ?_
                        exact ih31 (i31 + 1) b31 σ31 (by omega) (by omega) (by show m_sw i31 (fldN m_sw (false, σ23) i31) = _; rw [e31]; simp [m_sw, m_swb, h5, h24, h34, h43, h52]) _ _ _ Y (lv_sub hl [1, 2, 0] rfl)
                      · skip
                        refine lv_aload_n hx hb dM_within_55 rfl (lv_at hl 0 rfl) ?_
                        refine rM_ST X Y dM_within_56 ?_
                        refine lv_iload_n hx hb dM_within_59 rfl (lv_at hl 2 rfl) ?_
                        refine lv_iconst (v := (nI (4))) hx hb dM_within_60 (by decide) ?_
                        refine bn_div hx hb dM_within_61 (by omega) (by omega) (by omega) ?_
                        refine lM_ST X Y (k := i31 / 4) (by omega) dM_within_62 ?_
                        have hq3 := (gM_ST σ31 (i31 / 4)).isLt
                        refine lv_iconst (v := (nI (1))) hx hb dM_within_63 (by decide) ?_
                        refine bn_ne (tgt := 84) hx hb dM_within_64 (by decide) (by omega) (by omega) (fun h64 => ?_) (fun h64 => ?_)
                        · skip
                          refine lv_iinc (v := (nI (i31 + 1))) (lv' := [(2, .int (nI (i31 + 1))), (0, .ref (a 0)), (1, .int (bI (b31)))]) hx hb dM_within_84 hl (k := 2) rfl (nI_1 _) (by decide) rfl (fun ls hl => ?_)
                          refine lv_goto (tgt := 31) hx hb dM_within_87 (by decide) ?_
                          exact ih31 (i31 + 1) b31 σ31 (by omega) (by omega) (by show m_sw i31 (fldN m_sw (false, σ23) i31) = _; rw [e31]; simp [m_sw, m_swb, h5, h24, h34, h43, h52, h64]) _ _ _ Y (lv_sub hl [1, 2, 0] rfl)
                        · skip
                          refine lv_aload_n hx hb dM_within_67 rfl (lv_at hl 0 rfl) ?_
                          refine lv_iload_n hx hb dM_within_68 rfl (lv_at hl 2 rfl) ?_
                          refine cl_vi (na := 1) (rest := []) X hD Y (tM_held l g a ha σ31 i31 (by omega)) gM_M_held (by decide +kernel) rfl rfl rfl ⟨rfl, rfl⟩ ⟨Nat.le_of_ble_eq_true rfl, Nat.le_of_ble_eq_true rfl⟩ ⟨Nat.zero_le _, Nat.zero_le _⟩ hl.1 rfl (Nat.le_of_ble_eq_true rfl) dM_within_69 (fun H locs Y => ?_)
                          refine bb_eq (tgt := 84) hx hb dM_within_72 (by decide) (fun h72 => ?_) (fun h72 => ?_)
                          · skip
                            refine lv_iinc (v := (nI (i31 + 1))) (lv' := [(2, .int (nI (i31 + 1))), (0, .ref (a 0)), (1, .int (bI (b31)))]) hx hb dM_within_84 hl (k := 2) rfl (nI_1 _) (by decide) rfl (fun ls hl => ?_)
                            refine lv_goto (tgt := 31) hx hb dM_within_87 (by decide) ?_
                            exact ih31 (i31 + 1) b31 σ31 (by omega) (by omega) (by show m_sw i31 (fldN m_sw (false, σ23) i31) = _; rw [e31]; simp [m_sw, m_swb, h5, h24, h34, h43, h52, h64, h72]) _ _ _ Y (lv_sub hl [1, 2, 0] rfl)
                          · skip
                            refine lv_aload_n hx hb dM_within_75 rfl (lv_at hl 0 rfl) ?_
                            refine rM_KP X Y dM_within_76 ?_
                            refine lv_iload_n hx hb dM_within_79 rfl (lv_at hl 2 rfl) ?_
                            refine lv_iconst (v := (nI (1))) hx hb dM_within_80 (by decide) ?_
                            refine sM_KP X Y (k := i31) true (by decide) (by omega) dM_within_81 (fun H locs Y => ?_)
                            refine lv_iconst (v := (nI (1))) hx hb dM_within_82 (by decide) ?_
                            refine bn_top (y := (bI (true))) (by decide) ?_
                            refine lv_istore_n (lv' := [(1, .int (bI (true))), (0, .ref (a 0)), (2, .int (nI (i31)))]) hx hb dM_within_83 rfl hl (by decide) rfl (fun ls hl => ?_)
                            refine lv_iinc (v := (nI (i31 + 1))) (lv' := [(2, .int (nI (i31 + 1))), (1, .int (bI (true))), (0, .ref (a 0))]) hx hb dM_within_84 hl (k := 2) rfl (nI_1 _) (by decide) rfl (fun ls hl => ?_)
                            refine lv_goto (tgt := 31) hx hb dM_within_87 (by decide) ?_
                            exact ih31 (i31 + 1) true (uM_KP σ31 i31 true) (by omega) (by omega) (by show m_sw i31 (fldN m_sw (false, σ23) i31) = _; rw [e31]; simp [m_sw, m_swb, h5, h24, h34, h43, h52, h64, h72]) _ _ _ Y (lv_sub hl [2, 1, 0] rfl)
              exact loop31 (32 + 1) 0 false σ23 (by omega) (by omega) (rfl) _ _ _ Y (lv_sub hl [2, 1, 0] rfl)
        exact loop23 (33 + 1) 0 true (((fldN m_k0 s 32))) (by omega) (by omega) (fun _ => ⟨Nat.zero_le _, rfl⟩) (fun h => by cases h) _ _ _ Y (lv_sub hl [1, 0] rfl)
      · skip
        refine lv_aload_n hx hb dM_within_8 rfl (lv_at hl 0 rfl) ?_
        refine rM_KP X Y dM_within_9 ?_
        refine lv_iload_n hx hb dM_within_12 rfl (lv_at hl 1 rfl) ?_
        refine lv_iconst (v := (nI (0))) hx hb dM_within_13 (by decide) ?_
        refine sM_KP X Y (k := i2) false (by decide) (by omega) dM_within_14 (fun H locs Y => ?_)
        refine lv_iinc (v := (nI (i2 + 1))) (lv' := [(1, .int (nI (i2 + 1))), (0, .ref (a 0))]) hx hb dM_within_15 hl (k := 1) rfl (nI_1 _) (by decide) rfl (fun ls hl => ?_)
        refine lv_goto (tgt := 2) hx hb dM_within_18 (by decide) ?_
        exact ih2 (i2 + 1) (uM_KP σ2 i2 false) (by omega) (by omega) (by show m_k0 i2 (fldN m_k0 s i2) = _; rw [eσ2]; simp [m_k0, h5]) _ _ _ Y (lv_sub hl [1, 0] rfl)
  exact loop2 (32 + 1) 0 s (by omega) (by omega) (fldN_zero) _ _ _ Y (lv_sub hl [1, 0] rfl)
set_option maxHeartbeats 1000000 in
set_option maxRecDepth 100000 in
theorem tM_all (l : Launch) (g : GG) (a : Nat → Nat) (ha : apM a) (s : MS)  : Ci l g (wldM g a) (adM a) yM_all kM_all ({ frames := 2, cells := 0, slots := 0, locals := 48 }) [.ref (a 0)] s (nI (m_gone (m_all0 s))) (m_all s) := by
  have hD := wldM_D (g := g) ha
  refine Ci.of (own := RM) (cc := cM_all) (nL := 2) hD (by decide) rfl (Nat.le_of_ble_eq_true rfl) ?_
  intro p e S m args below meth c Q X ret H locs ls Y hl
  have hx := X.1
  have hb := X.2.1
  have hl : lv_has ls 2 [(0, .ref (a 0))] := hl
  refine lv_iconst (v := (nI (0))) hx hb dM_all_0 (by decide) ?_
  refine lv_istore_n (lv' := [(1, .int (nI (0))), (0, .ref (a 0))]) hx hb dM_all_1 rfl hl (by decide) rfl (fun ls hl => ?_)
  have loop2 : ∀ (n2 i2 : Nat) (σ2 : MS), i2 ≤ 8 → 8 < i2 + n2 → (fldN m_al1 s i2 = σ2) → ∀ (H : Heap) (locs : List Loc) (ls : Array Slot), Yw g (wldM g a) (adM a) S H locs σ2 → lv_has ls 2 [(0, .ref (a 0)), (1, .int (nI (i2)))] → W p l e ({ frames := 2, cells := 0, slots := 0, locals := 48 }) S m args below meth c H locs 0 0 Q (F0 m 2 ls []) := by
    intro n2
    induction n2 with
    | zero =>
      intro i2 σ2 b1 b2
      exact absurd b2 (by omega)
    | succ n2 ih2 =>
      intro i2 σ2 hi2 hn2 eσ2 H locs ls Y hl
      refine lv_iload_n hx hb dM_all_2 rfl (lv_at hl 1 rfl) ?_
      refine lv_bipush (v := (nI (8))) hx hb dM_all_3 (by decide) ?_
      refine bn_ge (tgt := 41) hx hb dM_all_5 (by decide) (by omega) (by omega) (fun h5 => ?_) (fun h5 => ?_)
      · skip
        obtain rfl : i2 = 8 := by omega
        subst eσ2
        refine lv_iconst (v := (nI (0))) hx hb dM_all_41 (by decide) ?_
        refine lv_istore_n (lv' := [(1, .int (nI (0))), (0, .ref (a 0))]) hx hb dM_all_42 rfl hl (by decide) rfl (fun ls hl => ?_)
        have loop43 : ∀ (n43 i43 : Nat) (σ43 : MS), i43 ≤ 32 → 32 < i43 + n43 → (fldN m_al2 ((fldN m_al1 s 8)) i43 = σ43) → ∀ (H : Heap) (locs : List Loc) (ls : Array Slot), Yw g (wldM g a) (adM a) S H locs σ43 → lv_has ls 2 [(0, .ref (a 0)), (1, .int (nI (i43)))] → W p l e ({ frames := 2, cells := 0, slots := 0, locals := 48 }) S m args below meth c H locs 0 0 Q (F0 m 43 ls []) := by
          intro n43
          induction n43 with
          | zero =>
            intro i43 σ43 b1 b2
            exact absurd b2 (by omega)
          | succ n43 ih43 =>
            intro i43 σ43 hi43 hn43 eσ43 H locs ls Y hl
            refine lv_iload_n hx hb dM_all_43 rfl (lv_at hl 1 rfl) ?_
            refine lv_bipush (v := (nI (32))) hx hb dM_all_44 (by decide) ?_
            refine bn_ge (tgt := 62) hx hb dM_all_46 (by decide) (by omega) (by omega) (fun h46 => ?_) (fun h46 => ?_)
            · skip
              obtain rfl : i43 = 32 := by omega
              subst eσ43
              refine lv_aload_n hx hb dM_all_62 rfl (lv_at hl 0 rfl) ?_
              refine cl_vi (na := 0) (rest := []) X hD Y (tM_within l g a ha ((fldN m_al2 ((fldN m_al1 s 8)) 32))  ) gM_M_within (by decide +kernel) rfl rfl rfl ⟨rfl, rfl⟩ ⟨Nat.le_of_ble_eq_true rfl, Nat.le_of_ble_eq_true rfl⟩ ⟨Nat.zero_le _, Nat.zero_le _⟩ hl.1 rfl (Nat.le_of_ble_eq_true rfl) dM_all_63 (fun H locs Y => ?_)
              have E : m_within ((fldN m_al2 ((fldN m_al1 s 8)) 32)) = m_all s := rfl
              rw [E] at Y
              exact ret _ _ _ _ _ Y (rfl) dM_all_66
            · skip
              refine lv_aload_n hx hb dM_all_49 rfl (lv_at hl 0 rfl) ?_
              refine rM_MK X Y dM_all_50 ?_
              refine lv_iload_n hx hb dM_all_53 rfl (lv_at hl 1 rfl) ?_
              refine lv_iconst (v := (nI (0))) hx hb dM_all_54 (by decide) ?_
              refine sM_MK X Y (k := i43) false (by decide) (by omega) dM_all_55 (fun H locs Y => ?_)
              refine lv_iinc (v := (nI (i43 + 1))) (lv' := [(1, .int (nI (i43 + 1))), (0, .ref (a 0))]) hx hb dM_all_56 hl (k := 1) rfl (nI_1 _) (by decide) rfl (fun ls hl => ?_)
              refine lv_goto (tgt := 43) hx hb dM_all_59 (by decide) ?_
              exact ih43 (i43 + 1) (uM_MK σ43 i43 false) (by omega) (by omega) (by show m_al2 i43 (fldN m_al2 ((fldN m_al1 s 8)) i43) = _; rw [eσ43]; simp [m_al2, h5, h46]) _ _ _ Y (lv_sub hl [1, 0] rfl)
        exact loop43 (32 + 1) 0 (((fldN m_al1 s 8))) (by omega) (by omega) (fldN_zero) _ _ _ Y (lv_sub hl [1, 0] rfl)
      · skip
        refine lv_aload_n hx hb dM_all_8 rfl (lv_at hl 0 rfl) ?_
        refine rM_ST X Y dM_all_9 ?_
        refine lv_iload_n hx hb dM_all_12 rfl (lv_at hl 1 rfl) ?_
        refine lM_ST X Y (k := i2) (by omega) dM_all_13 ?_
        have hq2 := (gM_ST σ2 i2).isLt
        refine lv_iconst (v := (nI (2))) hx hb dM_all_14 (by decide) ?_
        refine bn_ne (tgt := 35) hx hb dM_all_15 (by decide) (by omega) (by omega) (fun h15 => ?_) (fun h15 => ?_)
        · skip
          refine lv_iinc (v := (nI (i2 + 1))) (lv' := [(1, .int (nI (i2 + 1))), (0, .ref (a 0))]) hx hb dM_all_35 hl (k := 1) rfl (nI_1 _) (by decide) rfl (fun ls hl => ?_)
          refine lv_goto (tgt := 2) hx hb dM_all_38 (by decide) ?_
          exact ih2 (i2 + 1) σ2 (by omega) (by omega) (by show m_al1 i2 (fldN m_al1 s i2) = _; rw [eσ2]; simp [m_al1, m_fi, h5, h15]) _ _ _ Y (lv_sub hl [1, 0] rfl)
        · skip
          refine lv_aload_n hx hb dM_all_18 rfl (lv_at hl 0 rfl) ?_
          refine rM_ST X Y dM_all_19 ?_
          refine lv_iload_n hx hb dM_all_22 rfl (lv_at hl 1 rfl) ?_
          refine lv_iconst (v := (nI (1))) hx hb dM_all_23 (by decide) ?_
          refine sM_ST X Y (k := i2) (⟨1, by omega⟩) rfl (by omega) dM_all_24 (fun H locs Y => ?_)
          refine lv_aload_n hx hb dM_all_25 rfl (lv_at hl 0 rfl) ?_
          refine lv_dup hx hb dM_all_26 rfl ?_
          refine rM_FA X Y dM_all_27 ?_
          refine lv_iconst (v := (nI (1))) hx hb dM_all_30 (by decide) ?_
          refine lv_iadd hx hb dM_all_31 ?_
          refine pM_FA X Y (((gM_FA (uM_ST σ2 i2 (⟨1, by omega⟩))) + (nI (1)))) rfl dM_all_32 (fun H locs Y => ?_)
          refine lv_iinc (v := (nI (i2 + 1))) (lv' := [(1, .int (nI (i2 + 1))), (0, .ref (a 0))]) hx hb dM_all_35 hl (k := 1) rfl (nI_1 _) (by decide) rfl (fun ls hl => ?_)
          refine lv_goto (tgt := 2) hx hb dM_all_38 (by decide) ?_
          exact ih2 (i2 + 1) (uM_FA (uM_ST σ2 i2 (⟨1, by omega⟩)) (((gM_FA (uM_ST σ2 i2 (⟨1, by omega⟩))) + (nI (1))))) (by omega) (by omega) (by show m_al1 i2 (fldN m_al1 s i2) = _; rw [eσ2]; simp [m_al1, m_fi, h5, h15]) _ _ _ Y (lv_sub hl [1, 0] rfl)
  exact loop2 (8 + 1) 0 s (by omega) (by omega) (fldN_zero) _ _ _ Y (lv_sub hl [1, 0] rfl)
end
section
/-! written by wip/whole/specM.py -/
set_option maxHeartbeats 1000000 in
set_option maxRecDepth 100000 in
theorem tM_freeOnPagesIn (l : Launch) (g : GG) (a : Nat → Nat) (ha : apM a) (s : MS)  : Ci l g (wldM g a) (adM a) yM_freeOnPagesIn kM_freeOnPagesIn ({ frames := 0, cells := 0, slots := 0, locals := 0 }) [.ref (a 0)] s (oI (m_free s)) s := by
  have hD := wldM_D (g := g) ha
  refine Ci.of (own := RM) (cc := cM_freeOnPagesIn) (nL := 2) hD (by decide) rfl (Nat.le_of_ble_eq_true rfl) ?_
  intro p e S m args below meth c Q X ret H locs ls Y hl
  have hx := X.1
  have hb := X.2.1
  have hl : lv_has ls 2 [(0, .ref (a 0))] := hl
  refine lv_iconst (v := (nI (0))) hx hb dM_freeOnPagesIn_0 (by decide) ?_
  refine lv_istore_n (lv' := [(1, .int (nI (0))), (0, .ref (a 0))]) hx hb dM_freeOnPagesIn_1 rfl hl (by decide) rfl (fun ls hl => ?_)
  have loop2 : ∀ (n2 i2 : Nat), i2 ≤ 32 → 32 < i2 + n2 → (∀ j, j < i2 → m_frb s j = false) → ∀ (H : Heap) (locs : List Loc) (ls : Array Slot), Yw g (wldM g a) (adM a) S H locs s → lv_has ls 2 [(0, .ref (a 0)), (1, .int (nI (i2)))] → W p l e ({ frames := 0, cells := 0, slots := 0, locals := 0 }) S m args below meth c H locs 0 0 Q (F0 m 2 ls []) := by
    intro n2
    induction n2 with
    | zero =>
      intro i2 b1 b2
      exact absurd b2 (by omega)
    | succ n2 ih2 =>
      intro i2 hi2 hn2 hno H locs ls Y hl
      refine lv_iload_n hx hb dM_freeOnPagesIn_2 rfl (lv_at hl 1 rfl) ?_
      refine lv_bipush (v := (nI (32))) hx hb dM_freeOnPagesIn_3 (by decide) ?_
      refine bn_ge (tgt := 37) hx hb dM_freeOnPagesIn_5 (by decide) (by omega) (by omega) (fun h5 => ?_) (fun h5 => ?_)
      · skip
        refine lv_iconst (v := (-1)) hx hb dM_freeOnPagesIn_37 (by decide) ?_
        exact ret _ _ _ _ _ Y (by rw [m_free, fstN_none (n := 32) (fun j hj => hno j (by omega))]; rfl) dM_freeOnPagesIn_38
      · skip
        refine lv_aload_n hx hb dM_freeOnPagesIn_8 rfl (lv_at hl 0 rfl) ?_
        refine rM_TH X Y dM_freeOnPagesIn_9 ?_
        refine lv_iload_n hx hb dM_freeOnPagesIn_12 rfl (lv_at hl 1 rfl) ?_
        refine lM_TH X Y (k := i2) (by omega) dM_freeOnPagesIn_13 ?_
        refine bb_ne (tgt := 31) hx hb dM_freeOnPagesIn_14 (by decide) (fun h14 => ?_) (fun h14 => ?_)
        · skip
          refine lv_iinc (v := (nI (i2 + 1))) (lv' := [(1, .int (nI (i2 + 1))), (0, .ref (a 0))]) hx hb dM_freeOnPagesIn_31 hl (k := 1) rfl (nI_1 _) (by decide) rfl (fun ls hl => ?_)
          refine lv_goto (tgt := 2) hx hb dM_freeOnPagesIn_34 (by decide) ?_
          exact ih2 (i2 + 1) (by omega) (by omega) (lt_s hno (by simp [m_frb, h5, h14])) _ _ _ Y (lv_sub hl [1, 0] rfl)
        · skip
          refine lv_aload_n hx hb dM_freeOnPagesIn_17 rfl (lv_at hl 0 rfl) ?_
          refine rM_ST X Y dM_freeOnPagesIn_18 ?_
          refine lv_iload_n hx hb dM_freeOnPagesIn_21 rfl (lv_at hl 1 rfl) ?_
          refine lv_iconst (v := (nI (4))) hx hb dM_freeOnPagesIn_22 (by decide) ?_
          refine bn_div hx hb dM_freeOnPagesIn_23 (by omega) (by omega) (by omega) ?_
          refine lM_ST X Y (k := i2 / 4) (by omega) dM_freeOnPagesIn_24 ?_
          have hq1 := (gM_ST s (i2 / 4)).isLt
          refine lv_iconst (v := (nI (1))) hx hb dM_freeOnPagesIn_25 (by decide) ?_
          refine bn_ne (tgt := 31) hx hb dM_freeOnPagesIn_26 (by decide) (by omega) (by omega) (fun h26 => ?_) (fun h26 => ?_)
          · skip
            refine lv_iinc (v := (nI (i2 + 1))) (lv' := [(1, .int (nI (i2 + 1))), (0, .ref (a 0))]) hx hb dM_freeOnPagesIn_31 hl (k := 1) rfl (nI_1 _) (by decide) rfl (fun ls hl => ?_)
            refine lv_goto (tgt := 2) hx hb dM_freeOnPagesIn_34 (by decide) ?_
            exact ih2 (i2 + 1) (by omega) (by omega) (lt_s hno (by simp [m_frb, h5, h14, h26])) _ _ _ Y (lv_sub hl [1, 0] rfl)
          · skip
            refine lv_iload_n hx hb dM_freeOnPagesIn_29 rfl (lv_at hl 1 rfl) ?_
            exact ret _ _ _ _ _ Y (by rw [m_free, fstN_hit (i := i2) (by simp [m_frb, h5, h14, h26]) hno (by omega), toP_some (by omega)]; rfl) dM_freeOnPagesIn_30
  exact loop2 (32 + 1) 0 (by omega) (by omega) (fun j hj => absurd hj (by omega)) _ _ _ Y (lv_sub hl [1, 0] rfl)
set_option maxHeartbeats 1000000 in
set_option maxRecDepth 100000 in
theorem tM_find (l : Launch) (g : GG) (a : Nat → Nat) (ha : apM a) (s : MS) (b : Bool) (hst : m_fok b s) : Ci l g (wldM g a) (adM a) yM_find kM_find ({ frames := 2, cells := 0, slots := 0, locals := 45 }) [.ref (a 0), .int (bI (b))] s (oI (m_fp s)) (m_fs b s) := by
  have hD := wldM_D (g := g) ha
  refine Ci.of (own := RM) (cc := cM_find) (nL := 4) hD (by decide) rfl (Nat.le_of_ble_eq_true rfl) ?_
  intro p e S m args below meth c Q X ret H locs ls Y hl
  have hx := X.1
  have hb := X.2.1
  have hl : lv_has ls 4 [(0, .ref (a 0)), (1, .int (bI (b)))] := hl
  refine lv_aload_n hx hb dM_find_0 rfl (lv_at hl 0 rfl) ?_
  refine cl_vi (na := 0) (rest := []) X hD Y (tM_freeOnPagesIn l g a ha s  ) gM_M_freeOnPagesIn (by decide +kernel) rfl rfl rfl ⟨rfl, rfl⟩ ⟨Nat.le_of_ble_eq_true rfl, Nat.le_of_ble_eq_true rfl⟩ ⟨Nat.zero_le _, Nat.zero_le _⟩ hl.1 rfl (Nat.le_of_ble_eq_true rfl) dM_find_1 (fun H locs Y => ?_)
  refine lv_istore_n (lv' := [(2, .int (oI (m_free s))), (0, .ref (a 0)), (1, .int (bI (b)))]) hx hb dM_find_4 rfl hl (by decide) rfl (fun ls hl => ?_)
  refine lv_iconst (v := (nI (0))) hx hb dM_find_5 (by decide) ?_
  refine lv_istore_n (lv' := [(3, .int (nI (0))), (2, .int (oI (m_free s))), (0, .ref (a 0)), (1, .int (bI (b)))]) hx hb dM_find_6 rfl hl (by decide) rfl (fun ls hl => ?_)
  have loop7 : ∀ (n7 i7 : Nat) (x7 : Option (Fin 32)) (σ7 : MS), i7 ≤ 8 → 8 < i7 + n7 → (x7 = none → σ7 = s ∧ m_free s = none ∧ ∀ j, j < i7 → m_emb s j = false) → (∀ k, x7 = some k → m_fp s = some k ∧ σ7 = m_fs1 b s) → ∀ (H : Heap) (locs : List Loc) (ls : Array Slot), Yw g (wldM g a) (adM a) S H locs σ7 → lv_has ls 4 [(0, .ref (a 0)), (1, .int (bI (b))), (2, .int (oI (x7))), (3, .int (nI (i7)))] → W p l e ({ frames := 2, cells := 0, slots := 0, locals := 45 }) S m args below meth c H locs 0 0 Q (F0 m 7 ls []) := by
    intro n7
    induction n7 with
    | zero =>
      intro i7 x7 σ7 b1 b2
      exact absurd b2 (by omega)
    | succ n7 ih7 =>
      intro i7 x7 σ7 hi7 hn7 hA hB H locs ls Y hl
      refine lv_iload_n hx hb dM_find_7 rfl (lv_at hl 3 rfl) ?_
      refine lv_bipush (v := (nI (8))) hx hb dM_find_8 (by decide) ?_
      refine bn_ge (tgt := 63) hx hb dM_find_10 (by decide) (by omega) (by omega) (fun h10 => ?_) (fun h10 => ?_)
      · skip
        refine lv_iload_n hx hb dM_find_63 rfl (lv_at hl 2 rfl) ?_
        refine bo_lt (tgt := 76) hx hb dM_find_64 (by decide) (fun h64 => ?_) (fun k2 h64 => ?_)
        · skip
          obtain ⟨eA, eF, eN⟩ := hA h64
          have hE := fstN_none (f := m_emb s) (n := 8) (fun j hj => eN j (by omega))
          refine lv_iload_n hx hb dM_find_76 rfl (lv_at hl 2 rfl) ?_
          refine bn_top (y := (-1)) (by rw [h64]; rfl) ?_
          have E : σ7 = m_fs b s := by first | (rw [m_fs_1 eP, eS]; done) | (rw [m_fs_2 ((m_fp_2 eF).trans (m_fpe_2 hE)), m_fs1_3 eF hE]; exact eA)
          rw [E] at Y
          exact ret _ _ _ _ _ Y (by first | (rw [eP]; rfl) | (rw [m_fp_2 eF, m_fpe_2 hE]; rfl)) dM_find_77
        · skip
          have hq3 := k2.isLt
          obtain ⟨eP, eS⟩ := hB _ h64
          refine lv_aload_n hx hb dM_find_67 rfl (lv_at hl 0 rfl) ?_
          refine rM_US X Y dM_find_68 ?_
          refine lv_iload_n hx hb dM_find_71 rfl (lv_at hl 2 rfl) ?_
          refine bn_top (y := nI k2.val) (by rw [h64]; rfl) ?_
          refine lv_iconst (v := (nI (4))) hx hb dM_find_72 (by decide) ?_
          refine bn_div hx hb dM_find_73 (by omega) (by omega) (by omega) ?_
          refine lv_iconst (v := (nI (1))) hx hb dM_find_74 (by decide) ?_
          refine sM_US X Y (k := k2.val / 4) true (by decide) (by omega) dM_find_75 (fun H locs Y => ?_)
          refine lv_iload_n hx hb dM_find_76 rfl (lv_at hl 2 rfl) ?_
          refine bn_top (y := nI k2.val) (by rw [h64]; rfl) ?_
          have E : uM_US σ7 (k2.val / 4) true = m_fs b s := by first | (rw [m_fs_1 eP, eS]; done) | (rw [m_fs_2 ((m_fp_2 eF).trans (m_fpe_2 hE)), m_fs1_3 eF hE]; exact eA)
          rw [E] at Y
          exact ret _ _ _ _ _ Y (by first | (rw [eP]; rfl) | (rw [m_fp_2 eF, m_fpe_2 hE]; rfl)) dM_find_77
      · skip
        refine lv_iload_n hx hb dM_find_13 rfl (lv_at hl 2 rfl) ?_
        refine bo_ge (tgt := 63) hx hb dM_find_14 (by decide) (fun k4 h14 => ?_) (fun h14 => ?_)
        · skip
          have hq5 := k4.isLt
          obtain ⟨eP, eS⟩ := hB _ h14
          refine lv_iload_n hx hb dM_find_63 rfl (lv_at hl 2 rfl) ?_
          refine bn_top (y := nI k4.val) (by rw [h14]; rfl) ?_
          refine bz_lt (tgt := 76) hx hb dM_find_64 (by decide) (by omega) ?_
          refine lv_aload_n hx hb dM_find_67 rfl (lv_at hl 0 rfl) ?_
          refine rM_US X Y dM_find_68 ?_
          refine lv_iload_n hx hb dM_find_71 rfl (lv_at hl 2 rfl) ?_
          refine bn_top (y := nI k4.val) (by rw [h14]; rfl) ?_
          refine lv_iconst (v := (nI (4))) hx hb dM_find_72 (by decide) ?_
          refine bn_div hx hb dM_find_73 (by omega) (by omega) (by omega) ?_
          refine lv_iconst (v := (nI (1))) hx hb dM_find_74 (by decide) ?_
          refine sM_US X Y (k := k4.val / 4) true (by decide) (by omega) dM_find_75 (fun H locs Y => ?_)
          refine lv_iload_n hx hb dM_find_76 rfl (lv_at hl 2 rfl) ?_
          refine bn_top (y := nI k4.val) (by rw [h14]; rfl) ?_
          have E : uM_US σ7 (k4.val / 4) true = m_fs b s := by first | (rw [m_fs_1 eP, eS]; done) | (rw [m_fs_2 ((m_fp_2 eF).trans (m_fpe_2 hE)), m_fs1_3 eF hE]; exact eA)
          rw [E] at Y
          exact ret _ _ _ _ _ Y (by first | (rw [eP]; rfl) | (rw [m_fp_2 eF, m_fpe_2 hE]; rfl)) dM_find_77
        · skip
          obtain ⟨eA, eF, eN⟩ := hA h14
          rw [eA] at Y
          refine lv_aload_n hx hb dM_find_17 rfl (lv_at hl 0 rfl) ?_
          refine rM_ST X Y dM_find_18 ?_
          refine lv_iload_n hx hb dM_find_21 rfl (lv_at hl 3 rfl) ?_
          refine lM_ST X Y (k := i7) (by omega) dM_find_22 ?_
          have hq6 := (gM_ST s i7).isLt
          refine bz_ne (tgt := 57) hx hb dM_find_23 (by decide) (by omega) (fun h23 => ?_) (fun h23 => ?_)
          · skip
            refine lv_iinc (v := (nI (i7 + 1))) (lv' := [(3, .int (nI (i7 + 1))), (0, .ref (a 0)), (1, .int (bI (b))), (2, .int (oI (x7)))]) hx hb dM_find_57 hl (k := 3) rfl (nI_1 _) (by decide) rfl (fun ls hl => ?_)
            refine lv_goto (tgt := 7) hx hb dM_find_60 (by decide) ?_
            exact ih7 (i7 + 1) x7 s (by omega) (by omega) (fun _ => ⟨rfl, eF, lt_s eN (by simp [m_emb, h23])⟩) (fun k hk => by rw [h14] at hk; cases hk) _ _ _ Y (lv_sub hl [1, 2, 3, 0] rfl)
          · skip
            refine lv_iload_n hx hb dM_find_26 rfl (lv_at hl 1 rfl) ?_
            refine bb_eq (tgt := 46) hx hb dM_find_27 (by decide) (fun h27 => ?_) (fun h27 => ?_)
            · skip
              have hE := fstN_hit (f := m_emb s) (i := i7) (by simp [m_emb, h23]) eN (n := 8) (by omega)
              refine lv_aload_n hx hb dM_find_46 rfl (lv_at hl 0 rfl) ?_
              refine rM_ST X Y dM_find_47 ?_
              refine lv_iload_n hx hb dM_find_50 rfl (lv_at hl 3 rfl) ?_
              refine lv_iconst (v := (nI (1))) hx hb dM_find_51 (by decide) ?_
              refine sM_ST X Y (k := i7) (⟨1, by omega⟩) rfl (by omega) dM_find_52 (fun H locs Y => ?_)
              refine lv_iconst (v := (nI (4))) hx hb dM_find_53 (by decide) ?_
              refine lv_iload_n hx hb dM_find_54 rfl (lv_at hl 3 rfl) ?_
              refine bn_mul hx hb dM_find_55 ?_
              refine lv_istore_n (lv' := [(2, .int (nI (4 * i7))), (0, .ref (a 0)), (1, .int (bI (b))), (3, .int (nI (i7)))]) hx hb dM_find_56 rfl hl (by decide) rfl (fun ls hl => ?_)
              refine lv_iinc (v := (nI (i7 + 1))) (lv' := [(3, .int (nI (i7 + 1))), (2, .int (nI (4 * i7))), (0, .ref (a 0)), (1, .int (bI (b)))]) hx hb dM_find_57 hl (k := 3) rfl (nI_1 _) (by decide) rfl (fun ls hl => ?_)
              refine lv_goto (tgt := 7) hx hb dM_find_60 (by decide) ?_
              exact ih7 (i7 + 1) (some ⟨4 * i7, by omega⟩) (uM_ST s i7 (⟨1, by omega⟩)) (by omega) (by omega) (fun h => by cases h) (fun k hk => ⟨(by rw [← hk, m_fp_2 eF, m_fpe_1 hE]; exact toP_some _), (by rw [m_fs1_2 eF hE, m_fd1_neg (fun z => by rw [h27] at z; cases z.1)])⟩) _ _ _ Y (lv_sub hl [2, 3, 1, 0] rfl)
            · skip
              refine lv_aload_n hx hb dM_find_30 rfl (lv_at hl 0 rfl) ?_
              refine cl_vi (na := 0) (rest := []) X hD Y (tM_pagesIn l g a ha s  ) gM_M_pagesIn (by decide +kernel) rfl rfl rfl ⟨rfl, rfl⟩ ⟨Nat.le_of_ble_eq_true rfl, Nat.le_of_ble_eq_true rfl⟩ ⟨Nat.zero_le _, Nat.zero_le _⟩ hl.1 rfl (Nat.le_of_ble_eq_true rfl) dM_find_31 (fun H locs Y => ?_)
              have hf7 := m_in_le s
              refine lv_aload_n hx hb dM_find_34 rfl (lv_at hl 0 rfl) ?_
              refine rM_BU X Y dM_find_35 ?_
              have hq8 := (gM_BU s).isLt
              refine bn_ne (tgt := 46) hx hb dM_find_38 (by decide) (by omega) (by omega) (fun h38 => ?_) (fun h38 => ?_)
              · skip
                have hE := fstN_hit (f := m_emb s) (i := i7) (by simp [m_emb, h23]) eN (n := 8) (by omega)
                refine lv_aload_n hx hb dM_find_46 rfl (lv_at hl 0 rfl) ?_
                refine rM_ST X Y dM_find_47 ?_
                refine lv_iload_n hx hb dM_find_50 rfl (lv_at hl 3 rfl) ?_
                refine lv_iconst (v := (nI (1))) hx hb dM_find_51 (by decide) ?_
                refine sM_ST X Y (k := i7) (⟨1, by omega⟩) rfl (by omega) dM_find_52 (fun H locs Y => ?_)
                refine lv_iconst (v := (nI (4))) hx hb dM_find_53 (by decide) ?_
                refine lv_iload_n hx hb dM_find_54 rfl (lv_at hl 3 rfl) ?_
                refine bn_mul hx hb dM_find_55 ?_
                refine lv_istore_n (lv' := [(2, .int (nI (4 * i7))), (0, .ref (a 0)), (1, .int (bI (b))), (3, .int (nI (i7)))]) hx hb dM_find_56 rfl hl (by decide) rfl (fun ls hl => ?_)
                refine lv_iinc (v := (nI (i7 + 1))) (lv' := [(3, .int (nI (i7 + 1))), (2, .int (nI (4 * i7))), (0, .ref (a 0)), (1, .int (bI (b)))]) hx hb dM_find_57 hl (k := 3) rfl (nI_1 _) (by decide) rfl (fun ls hl => ?_)
                refine lv_goto (tgt := 7) hx hb dM_find_60 (by decide) ?_
                exact ih7 (i7 + 1) (some ⟨4 * i7, by omega⟩) (uM_ST s i7 (⟨1, by omega⟩)) (by omega) (by omega) (fun h => by cases h) (fun k hk => ⟨(by rw [← hk, m_fp_2 eF, m_fpe_1 hE]; exact toP_some _), (by rw [m_fs1_2 eF hE, m_fd1_neg (fun z => h38 z.2)])⟩) _ _ _ Y (lv_sub hl [2, 3, 1, 0] rfl)
              · skip
                have hst' := hst h27 h38
                refine lv_aload_n hx hb dM_find_41 rfl (lv_at hl 0 rfl) ?_
                refine lv_iconst (v := (-1)) hx hb dM_find_42 (by decide) ?_
                refine cl_vv (na := 1) (rest := []) X hD Y (tM_putOutOne l g a ha s ((-1)) (by assumption)) gM_M_putOutOne (by decide +kernel) rfl rfl rfl ⟨rfl, rfl⟩ ⟨Nat.le_of_ble_eq_true rfl, Nat.le_of_ble_eq_true rfl⟩ ⟨Nat.zero_le _, Nat.zero_le _⟩ hl.1 rfl (Nat.le_of_ble_eq_true rfl) dM_find_43 (fun H locs Y => ?_)
                have hE := fstN_hit (f := m_emb s) (i := i7) (by simp [m_emb, h23]) eN (n := 8) (by omega)
                refine lv_aload_n hx hb dM_find_46 rfl (lv_at hl 0 rfl) ?_
                refine rM_ST X Y dM_find_47 ?_
                refine lv_iload_n hx hb dM_find_50 rfl (lv_at hl 3 rfl) ?_
                refine lv_iconst (v := (nI (1))) hx hb dM_find_51 (by decide) ?_
                refine sM_ST X Y (k := i7) (⟨1, by omega⟩) rfl (by omega) dM_find_52 (fun H locs Y => ?_)
                refine lv_iconst (v := (nI (4))) hx hb dM_find_53 (by decide) ?_
                refine lv_iload_n hx hb dM_find_54 rfl (lv_at hl 3 rfl) ?_
                refine bn_mul hx hb dM_find_55 ?_
                refine lv_istore_n (lv' := [(2, .int (nI (4 * i7))), (0, .ref (a 0)), (1, .int (bI (b))), (3, .int (nI (i7)))]) hx hb dM_find_56 rfl hl (by decide) rfl (fun ls hl => ?_)
                refine lv_iinc (v := (nI (i7 + 1))) (lv' := [(3, .int (nI (i7 + 1))), (2, .int (nI (4 * i7))), (0, .ref (a 0)), (1, .int (bI (b)))]) hx hb dM_find_57 hl (k := 3) rfl (nI_1 _) (by decide) rfl (fun ls hl => ?_)
                refine lv_goto (tgt := 7) hx hb dM_find_60 (by decide) ?_
                exact ih7 (i7 + 1) (some ⟨4 * i7, by omega⟩) (uM_ST (m_one ((-1)) s) i7 (⟨1, by omega⟩)) (by omega) (by omega) (fun h => by cases h) (fun k hk => ⟨(by rw [← hk, m_fp_2 eF, m_fpe_1 hE]; exact toP_some _), (by rw [m_fs1_2 eF hE, m_fd1_pos h27 h38])⟩) _ _ _ Y (lv_sub hl [2, 3, 1, 0] rfl)
  exact loop7 (8 + 1) 0 (m_free s) s (by omega) (by omega) (fun h => ⟨rfl, h, fun j hj => absurd hj (by omega)⟩) (fun k h => ⟨m_fp_1 h, (m_fs1_1 h).symm⟩) _ _ _ Y (lv_sub hl [2, 3, 1, 0] rfl)
set_option maxHeartbeats 1000000 in
set_option maxRecDepth 100000 in
theorem tM_place (l : Launch) (g : GG) (a : Nat → Nat) (ha : apM a) (s : MS) (q : Nat) (v : Int32) (hq : q < 32) : Cv l g (wldM g a) (adM a) yM_place kM_place ({ frames := 0, cells := 0, slots := 0, locals := 0 }) [.ref (a 0), .int (nI (q)), .int (v)] s (m_place q v s) := by
  have hD := wldM_D (g := g) ha
  refine Cv.of (own := RM) (cc := cM_place) (nL := 3) hD (by decide) rfl (Nat.le_of_ble_eq_true rfl) ?_
  intro p e S m args below meth c Q X ret H locs ls Y hl
  have hx := X.1
  have hb := X.2.1
  have hl : lv_has ls 3 [(0, .ref (a 0)), (1, .int (nI (q))), (2, .int (v))] := hl
  refine lv_aload_n hx hb dM_place_0 rfl (lv_at hl 0 rfl) ?_
  refine rM_TH X Y dM_place_1 ?_
  refine lv_iload_n hx hb dM_place_4 rfl (lv_at hl 1 rfl) ?_
  refine lv_iconst (v := (nI (1))) hx hb dM_place_5 (by decide) ?_
  refine sM_TH X Y (k := q) true (by decide) (by omega) dM_place_6 (fun H locs Y => ?_)
  refine lv_aload_n hx hb dM_place_7 rfl (lv_at hl 0 rfl) ?_
  refine rM_VA X Y dM_place_8 ?_
  refine lv_iload_n hx hb dM_place_11 rfl (lv_at hl 1 rfl) ?_
  refine lv_iload_n hx hb dM_place_12 rfl (lv_at hl 2 rfl) ?_
  refine sM_VA X Y (k := q) ((v)) rfl (by omega) dM_place_13 (fun H locs Y => ?_)
  refine lv_aload_n hx hb dM_place_14 rfl (lv_at hl 0 rfl) ?_
  refine rM_FD X Y dM_place_15 ?_
  refine lv_iconst (v := (nI (2))) hx hb dM_place_18 (by decide) ?_
  refine lv_iload_n hx hb dM_place_19 rfl (lv_at hl 1 rfl) ?_
  refine bn_mul hx hb dM_place_20 ?_
  refine lv_iconst (v := (-1)) hx hb dM_place_21 (by decide) ?_
  refine sM_FD X Y (k := 2 * q) none rfl (by omega) dM_place_22 (fun H locs Y => ?_)
  refine lv_aload_n hx hb dM_place_23 rfl (lv_at hl 0 rfl) ?_
  refine rM_FD X Y dM_place_24 ?_
  refine lv_iconst (v := (nI (2))) hx hb dM_place_27 (by decide) ?_
  refine lv_iload_n hx hb dM_place_28 rfl (lv_at hl 1 rfl) ?_
  refine bn_mul hx hb dM_place_29 ?_
  refine lv_iconst (v := (nI (1))) hx hb dM_place_30 (by decide) ?_
  refine bn_add hx hb dM_place_31 ?_
  refine lv_iconst (v := (-1)) hx hb dM_place_32 (by decide) ?_
  refine sM_FD X Y (k := (2 * q) + 1) none rfl (by omega) dM_place_33 (fun H locs Y => ?_)
  refine lv_aload_n hx hb dM_place_34 rfl (lv_at hl 0 rfl) ?_
  refine rM_MK X Y dM_place_35 ?_
  refine lv_iload_n hx hb dM_place_38 rfl (lv_at hl 1 rfl) ?_
  refine lv_iconst (v := (nI (0))) hx hb dM_place_39 (by decide) ?_
  refine sM_MK X Y (k := q) false (by decide) (by omega) dM_place_40 (fun H locs Y => ?_)
  have E : uM_MK (uM_FD (uM_FD (uM_VA (uM_TH s q true) q ((v))) (2 * q) none) ((2 * q) + 1) none) q false = m_place q v s := rfl
  rw [E] at Y
  exact ret _ _ _ _ Y dM_place_41
set_option maxHeartbeats 1000000 in
set_option maxRecDepth 100000 in
theorem tM_fails (l : Launch) (g : GG) (a : Nat → Nat) (ha : apM a) (s : MS) (k : Int32) : Ci l g (wldM g a) (adM a) yM_fails kM_fails ({ frames := 0, cells := 0, slots := 0, locals := 0 }) [.ref (a 0), .int (k)] s (nI (0)) (uM_TR s k) := by
  have hD := wldM_D (g := g) ha
  refine Ci.of (own := RM) (cc := cM_fails) (nL := 2) hD (by decide) rfl (Nat.le_of_ble_eq_true rfl) ?_
  intro p e S m args below meth c Q X ret H locs ls Y hl
  have hx := X.1
  have hb := X.2.1
  have hl : lv_has ls 2 [(0, .ref (a 0)), (1, .int (k))] := hl
  refine lv_aload_n hx hb dM_fails_0 rfl (lv_at hl 0 rfl) ?_
  refine lv_iload_n hx hb dM_fails_1 rfl (lv_at hl 1 rfl) ?_
  refine pM_TR X Y ((k)) rfl dM_fails_2 (fun H locs Y => ?_)
  refine lv_iconst (v := (nI (0))) hx hb dM_fails_5 (by decide) ?_
  have E : uM_TR s ((k)) = uM_TR s k := rfl
  rw [E] at Y
  exact ret _ _ _ _ _ Y (rfl) dM_fails_6
end
section
/-! written by wip/whole/specM.py -/
set_option maxHeartbeats 1000000 in
set_option maxRecDepth 100000 in
theorem tM_thrown (l : Launch) (g : GG) (a : Nat → Nat) (ha : apM a) (s : MS)  : Ci l g (wldM g a) (adM a) yM_thrown kM_thrown ({ frames := 0, cells := 0, slots := 0, locals := 0 }) [.ref (a 0)] s (gM_TR s) s := by
  have hD := wldM_D (g := g) ha
  refine Ci.of (own := RM) (cc := cM_thrown) (nL := 1) hD (by decide) rfl (Nat.le_of_ble_eq_true rfl) ?_
  intro p e S m args below meth c Q X ret H locs ls Y hl
  have hx := X.1
  have hb := X.2.1
  have hl : lv_has ls 1 [(0, .ref (a 0))] := hl
  refine lv_aload_n hx hb dM_thrown_0 rfl (lv_at hl 0 rfl) ?_
  refine rM_TR X Y dM_thrown_1 ?_
  exact ret _ _ _ _ _ Y (rfl) dM_thrown_4
set_option maxHeartbeats 1000000 in
set_option maxRecDepth 100000 in
theorem tM_collect (l : Launch) (g : GG) (a : Nat → Nat) (ha : apM a) (s : MS)  : Ci l g (wldM g a) (adM a) yM_collect kM_collect ({ frames := 2, cells := 0, slots := 0, locals := 48 }) [.ref (a 0)] s (nI (m_gone (m_t0 s))) (m_within (m_t0 s)) := by
  have hD := wldM_D (g := g) ha
  refine Ci.of (own := RM) (cc := cM_collect) (nL := 1) hD (by decide) rfl (Nat.le_of_ble_eq_true rfl) ?_
  intro p e S m args below meth c Q X ret H locs ls Y hl
  have hx := X.1
  have hb := X.2.1
  have hl : lv_has ls 1 [(0, .ref (a 0))] := hl
  refine lv_aload_n hx hb dM_collect_0 rfl (lv_at hl 0 rfl) ?_
  refine lv_iconst (v := (nI (0))) hx hb dM_collect_1 (by decide) ?_
  refine pM_TR X Y ((nI (0))) rfl dM_collect_2 (fun H locs Y => ?_)
  refine lv_aload_n hx hb dM_collect_5 rfl (lv_at hl 0 rfl) ?_
  refine cl_vi (na := 0) (rest := []) X hD Y (tM_within l g a ha (uM_TR s ((nI (0))))  ) gM_M_within (by decide +kernel) rfl rfl rfl ⟨rfl, rfl⟩ ⟨Nat.le_of_ble_eq_true rfl, Nat.le_of_ble_eq_true rfl⟩ ⟨Nat.zero_le _, Nat.zero_le _⟩ hl.1 rfl (Nat.le_of_ble_eq_true rfl) dM_collect_6 (fun H locs Y => ?_)
  have E : m_within (uM_TR s ((nI (0)))) = m_within (m_t0 s) := rfl
  rw [E] at Y
  exact ret _ _ _ _ _ Y (rfl) dM_collect_9
set_option maxHeartbeats 1000000 in
set_option maxRecDepth 100000 in
theorem tM_thorough (l : Launch) (g : GG) (a : Nat → Nat) (ha : apM a) (s : MS) (hsh : m_shr (-1) (m_all (m_t0 s))) : Ci l g (wldM g a) (adM a) yM_thorough kM_thorough ({ frames := 3, cells := 0, slots := 0, locals := 69 }) [.ref (a 0)] s (nI (m_gone (m_all0 (m_t0 s)))) (m_shrink (-1) (m_all (m_t0 s))) := by
  have hD := wldM_D (g := g) ha
  refine Ci.of (own := RM) (cc := cM_thorough) (nL := 2) hD (by decide) rfl (Nat.le_of_ble_eq_true rfl) ?_
  intro p e S m args below meth c Q X ret H locs ls Y hl
  have hx := X.1
  have hb := X.2.1
  have hl : lv_has ls 2 [(0, .ref (a 0))] := hl
  refine lv_aload_n hx hb dM_thorough_0 rfl (lv_at hl 0 rfl) ?_
  refine lv_iconst (v := (nI (0))) hx hb dM_thorough_1 (by decide) ?_
  refine pM_TR X Y ((nI (0))) rfl dM_thorough_2 (fun H locs Y => ?_)
  refine lv_aload_n hx hb dM_thorough_5 rfl (lv_at hl 0 rfl) ?_
  refine cl_vi (na := 0) (rest := []) X hD Y (tM_all l g a ha (uM_TR s ((nI (0))))  ) gM_M_all (by decide +kernel) rfl rfl rfl ⟨rfl, rfl⟩ ⟨Nat.le_of_ble_eq_true rfl, Nat.le_of_ble_eq_true rfl⟩ ⟨Nat.zero_le _, Nat.zero_le _⟩ hl.1 rfl (Nat.le_of_ble_eq_true rfl) dM_thorough_6 (fun H locs Y => ?_)
  refine lv_istore_n (lv' := [(1, .int (nI (m_gone (m_all0 (uM_TR s ((nI (0)))))))), (0, .ref (a 0))]) hx hb dM_thorough_9 rfl hl (by decide) rfl (fun ls hl => ?_)
  refine lv_aload_n hx hb dM_thorough_10 rfl (lv_at hl 1 rfl) ?_
  refine lv_iconst (v := (-1)) hx hb dM_thorough_11 (by decide) ?_
  refine cl_vi (na := 1) (rest := []) X hD Y (tM_shrink l g a ha (m_all (uM_TR s ((nI (0))))) ((-1)) (by assumption)) gM_M_shrink (by decide +kernel) rfl rfl rfl ⟨rfl, rfl⟩ ⟨Nat.le_of_ble_eq_true rfl, Nat.le_of_ble_eq_true rfl⟩ ⟨Nat.zero_le _, Nat.zero_le _⟩ hl.1 rfl (Nat.le_of_ble_eq_true rfl) dM_thorough_12 (fun H locs Y => ?_)
  refine lv_pop hx hb dM_thorough_15 rfl ?_
  refine lv_iload_n hx hb dM_thorough_16 rfl (lv_at hl 0 rfl) ?_
  have E : m_shrink ((-1)) (m_all (uM_TR s ((nI (0))))) = m_shrink (-1) (m_all (m_t0 s)) := rfl
  rw [E] at Y
  exact ret _ _ _ _ _ Y (rfl) dM_thorough_17
set_option maxHeartbeats 1000000 in
set_option maxRecDepth 100000 in
theorem tM_faults (l : Launch) (g : GG) (a : Nat → Nat) (ha : apM a) (s : MS)  : Ci l g (wldM g a) (adM a) yM_faults kM_faults ({ frames := 0, cells := 0, slots := 0, locals := 0 }) [.ref (a 0)] s (gM_FA s) (m_t0 s) := by
  have hD := wldM_D (g := g) ha
  refine Ci.of (own := RM) (cc := cM_faults) (nL := 1) hD (by decide) rfl (Nat.le_of_ble_eq_true rfl) ?_
  intro p e S m args below meth c Q X ret H locs ls Y hl
  have hx := X.1
  have hb := X.2.1
  have hl : lv_has ls 1 [(0, .ref (a 0))] := hl
  refine lv_aload_n hx hb dM_faults_0 rfl (lv_at hl 0 rfl) ?_
  refine lv_iconst (v := (nI (0))) hx hb dM_faults_1 (by decide) ?_
  refine pM_TR X Y ((nI (0))) rfl dM_faults_2 (fun H locs Y => ?_)
  refine lv_aload_n hx hb dM_faults_5 rfl (lv_at hl 0 rfl) ?_
  refine rM_FA X Y dM_faults_6 ?_
  have E : uM_TR s ((nI (0))) = m_t0 s := rfl
  rw [E] at Y
  exact ret _ _ _ _ _ Y (rfl) dM_faults_9
set_option maxHeartbeats 1000000 in
set_option maxRecDepth 100000 in
theorem tM_hand (l : Launch) (g : GG) (a : Nat → Nat) (ha : apM a) (s : MS)  : Ci l g (wldM g a) (adM a) yM_hand kM_hand ({ frames := 0, cells := 0, slots := 0, locals := 0 }) [.ref (a 0)] s (nI ((gM_HA s).val)) (m_t0 s) := by
  have hD := wldM_D (g := g) ha
  refine Ci.of (own := RM) (cc := cM_hand) (nL := 1) hD (by decide) rfl (Nat.le_of_ble_eq_true rfl) ?_
  intro p e S m args below meth c Q X ret H locs ls Y hl
  have hx := X.1
  have hb := X.2.1
  have hl : lv_has ls 1 [(0, .ref (a 0))] := hl
  refine lv_aload_n hx hb dM_hand_0 rfl (lv_at hl 0 rfl) ?_
  refine lv_iconst (v := (nI (0))) hx hb dM_hand_1 (by decide) ?_
  refine pM_TR X Y ((nI (0))) rfl dM_hand_2 (fun H locs Y => ?_)
  refine lv_aload_n hx hb dM_hand_5 rfl (lv_at hl 0 rfl) ?_
  refine rM_HA X Y dM_hand_6 ?_
  have hq1 := (gM_HA (uM_TR s ((nI (0))))).isLt
  have E : uM_TR s ((nI (0))) = m_t0 s := rfl
  rw [E] at Y
  exact ret _ _ _ _ _ Y (rfl) dM_hand_9
set_option maxHeartbeats 1000000 in
set_option maxRecDepth 100000 in
theorem tM_objects (l : Launch) (g : GG) (a : Nat → Nat) (ha : apM a) (s : MS)  : Ci l g (wldM g a) (adM a) yM_objects kM_objects ({ frames := 0, cells := 0, slots := 0, locals := 0 }) [.ref (a 0)] s (nI (m_objects s)) (m_t0 s) := by
  have hD := wldM_D (g := g) ha
  refine Ci.of (own := RM) (cc := cM_objects) (nL := 3) hD (by decide) rfl (Nat.le_of_ble_eq_true rfl) ?_
  intro p e S m args below meth c Q X ret H locs ls Y hl
  have hx := X.1
  have hb := X.2.1
  have hl : lv_has ls 3 [(0, .ref (a 0))] := hl
  refine lv_aload_n hx hb dM_objects_0 rfl (lv_at hl 0 rfl) ?_
  refine lv_iconst (v := (nI (0))) hx hb dM_objects_1 (by decide) ?_
  refine pM_TR X Y ((nI (0))) rfl dM_objects_2 (fun H locs Y => ?_)
  refine lv_iconst (v := (nI (0))) hx hb dM_objects_5 (by decide) ?_
  refine lv_istore_n (lv' := [(1, .int (nI (0))), (0, .ref (a 0))]) hx hb dM_objects_6 rfl hl (by decide) rfl (fun ls hl => ?_)
  refine lv_iconst (v := (nI (0))) hx hb dM_objects_7 (by decide) ?_
  refine lv_istore_n (lv' := [(2, .int (nI (0))), (1, .int (nI (0))), (0, .ref (a 0))]) hx hb dM_objects_8 rfl hl (by decide) rfl (fun ls hl => ?_)
  have loop9 : ∀ (n9 i9 : Nat) (k9 : Nat), i9 ≤ 32 → 32 < i9 + n9 → (cntN (gM_TH s) i9 = k9) → (k9 ≤ i9) → ∀ (H : Heap) (locs : List Loc) (ls : Array Slot), Yw g (wldM g a) (adM a) S H locs (uM_TR s ((nI (0)))) → lv_has ls 3 [(0, .ref (a 0)), (1, .int (nI (k9))), (2, .int (nI (i9)))] → W p l e ({ frames := 0, cells := 0, slots := 0, locals := 0 }) S m args below meth c H locs 0 0 Q (F0 m 9 ls []) := by
    intro n9
    induction n9 with
    | zero =>
      intro i9 k9 b1 b2
      exact absurd b2 (by omega)
    | succ n9 ih9 =>
      intro i9 k9 hi9 hn9 ek9 hk9 H locs ls Y hl
      refine lv_iload_n hx hb dM_objects_9 rfl (lv_at hl 2 rfl) ?_
      refine lv_bipush (v := (nI (32))) hx hb dM_objects_10 (by decide) ?_
      refine bn_ge (tgt := 38) hx hb dM_objects_12 (by decide) (by omega) (by omega) (fun h12 => ?_) (fun h12 => ?_)
      · skip
        obtain rfl : i9 = 32 := by omega
        subst ek9
        refine lv_iload_n hx hb dM_objects_38 rfl (lv_at hl 1 rfl) ?_
        have E : uM_TR s ((nI (0))) = m_t0 s := rfl
        rw [E] at Y
        exact ret _ _ _ _ _ Y (rfl) dM_objects_39
      · skip
        refine lv_aload_n hx hb dM_objects_15 rfl (lv_at hl 0 rfl) ?_
        refine rM_TH X Y dM_objects_16 ?_
        refine lv_iload_n hx hb dM_objects_19 rfl (lv_at hl 2 rfl) ?_
        refine lM_TH X Y (k := i9) (by omega) dM_objects_20 ?_
        refine bb_eq (tgt := 30) hx hb dM_objects_21 (by decide) (fun h21 => ?_) (fun h21 => ?_)
        · skip
          refine lv_iload_n hx hb dM_objects_30 rfl (lv_at hl 1 rfl) ?_
          refine lv_istore_n (lv' := [(1, .int (nI (k9))), (0, .ref (a 0)), (2, .int (nI (i9)))]) hx hb dM_objects_31 rfl hl (by decide) rfl (fun ls hl => ?_)
          refine lv_iinc (v := (nI (i9 + 1))) (lv' := [(2, .int (nI (i9 + 1))), (1, .int (nI (k9))), (0, .ref (a 0))]) hx hb dM_objects_32 hl (k := 2) rfl (nI_1 _) (by decide) rfl (fun ls hl => ?_)
          refine lv_goto (tgt := 9) hx hb dM_objects_35 (by decide) ?_
          exact ih9 (i9 + 1) k9 (by omega) (by omega) (by show cntN (gM_TH s) i9 + _ = _; rw [ek9]; have hz : gM_TH s i9 = gM_TH (uM_TR s (nI 0)) i9 := rfl; simp [hz, h12, h21]) (by omega) _ _ _ Y (lv_sub hl [2, 1, 0] rfl)
        · skip
          refine lv_iload_n hx hb dM_objects_24 rfl (lv_at hl 1 rfl) ?_
          refine lv_iconst (v := (nI (1))) hx hb dM_objects_25 (by decide) ?_
          refine bn_add hx hb dM_objects_26 ?_
          refine lv_goto (tgt := 31) hx hb dM_objects_27 (by decide) ?_
          refine lv_istore_n (lv' := [(1, .int (nI (k9 + 1))), (0, .ref (a 0)), (2, .int (nI (i9)))]) hx hb dM_objects_31 rfl hl (by decide) rfl (fun ls hl => ?_)
          refine lv_iinc (v := (nI (i9 + 1))) (lv' := [(2, .int (nI (i9 + 1))), (1, .int (nI (k9 + 1))), (0, .ref (a 0))]) hx hb dM_objects_32 hl (k := 2) rfl (nI_1 _) (by decide) rfl (fun ls hl => ?_)
          refine lv_goto (tgt := 9) hx hb dM_objects_35 (by decide) ?_
          exact ih9 (i9 + 1) (k9 + 1) (by omega) (by omega) (by show cntN (gM_TH s) i9 + _ = _; rw [ek9]; have hz : gM_TH s i9 = gM_TH (uM_TR s (nI 0)) i9 := rfl; simp [hz, h12, h21]) (by omega) _ _ _ Y (lv_sub hl [2, 1, 0] rfl)
  exact loop9 (32 + 1) 0 0 (by omega) (by omega) (rfl) (Nat.le_refl 0) _ _ _ Y (lv_sub hl [2, 1, 0] rfl)
end
