-- ===== PART A: goes FIRST, ahead of the names: the tables' words, and 'selects' of the private methods out of them =====
/-- a private method of a class that the tables say can be made, by its rows of tables_1 -/
def lw_okq (q : MethodName × Nat) : Prop := (q.1.cls ≠ "java/lang/invoke/MethodHandle" ∧ q.1.cls ≠ "java/lang/invoke/VarHandle") ∧ Cond.instantiable q.1.cls q.2 ∈ tables_1 ∧ Cond.privateMethod q.1 ∈ tables_1 ∧ Cond.instanceMethod q.1 ∈ tables_1
theorem lw_p0 : lw_okq (⟨"DeltaMaker", "rowNamed", "(I)LDeltaMaker$Row;"⟩, 9) := ⟨⟨by decide +kernel, by decide +kernel⟩, List.mem_of_getElem? (i := 9) (by decide +kernel), List.mem_of_getElem? (i := 168) (by decide +kernel), List.mem_of_getElem? (i := 169) (by decide +kernel)⟩
theorem lw_p1 : lw_okq (⟨"DeltaMaker$Plan", "placeOfLongestRun", "(I)I"⟩, 6) := ⟨⟨by decide +kernel, by decide +kernel⟩, List.mem_of_getElem? (i := 34) (by decide +kernel), List.mem_of_getElem? (i := 204) (by decide +kernel), List.mem_of_getElem? (i := 205) (by decide +kernel)⟩
theorem lw_p2 : lw_okq (⟨"DeltaMaker$Plan", "append", "(III)V"⟩, 6) := ⟨⟨by decide +kernel, by decide +kernel⟩, List.mem_of_getElem? (i := 34) (by decide +kernel), List.mem_of_getElem? (i := 212) (by decide +kernel), List.mem_of_getElem? (i := 213) (by decide +kernel)⟩
theorem lw_p3 : lw_okq (⟨"DeltaMaker$Plan", "addByte", "(I)V"⟩, 6) := ⟨⟨by decide +kernel, by decide +kernel⟩, List.mem_of_getElem? (i := 34) (by decide +kernel), List.mem_of_getElem? (i := 216) (by decide +kernel), List.mem_of_getElem? (i := 217) (by decide +kernel)⟩
theorem lw_p4 : lw_okq (⟨"DeltaMaker$Applier", "readHead", "()I"⟩, 7) := ⟨⟨by decide +kernel, by decide +kernel⟩, List.mem_of_getElem? (i := 61) (by decide +kernel), List.mem_of_getElem? (i := 309) (by decide +kernel), List.mem_of_getElem? (i := 310) (by decide +kernel)⟩
theorem lw_p5 : lw_okq (⟨"DeltaMaker$Applier", "readVarint", "()I"⟩, 7) := ⟨⟨by decide +kernel, by decide +kernel⟩, List.mem_of_getElem? (i := 61) (by decide +kernel), List.mem_of_getElem? (i := 313) (by decide +kernel), List.mem_of_getElem? (i := 314) (by decide +kernel)⟩
theorem lw_p6 : lw_okq (⟨"DeltaMaker$Applier", "unread", "()I"⟩, 7) := ⟨⟨by decide +kernel, by decide +kernel⟩, List.mem_of_getElem? (i := 61) (by decide +kernel), List.mem_of_getElem? (i := 318) (by decide +kernel), List.mem_of_getElem? (i := 319) (by decide +kernel)⟩
theorem lw_p7 : lw_okq (⟨"DeltaMaker$Applier", "readWord", "()I"⟩, 7) := ⟨⟨by decide +kernel, by decide +kernel⟩, List.mem_of_getElem? (i := 61) (by decide +kernel), List.mem_of_getElem? (i := 323) (by decide +kernel), List.mem_of_getElem? (i := 324) (by decide +kernel)⟩
theorem lw_p8 : lw_okq (⟨"DeltaMaker$Applier", "doAll", "()I"⟩, 7) := ⟨⟨by decide +kernel, by decide +kernel⟩, List.mem_of_getElem? (i := 61) (by decide +kernel), List.mem_of_getElem? (i := 328) (by decide +kernel), List.mem_of_getElem? (i := 329) (by decide +kernel)⟩
theorem lw_p9 : lw_okq (⟨"DeltaMaker$Applier", "doNext", "()I"⟩, 7) := ⟨⟨by decide +kernel, by decide +kernel⟩, List.mem_of_getElem? (i := 61) (by decide +kernel), List.mem_of_getElem? (i := 332) (by decide +kernel), List.mem_of_getElem? (i := 333) (by decide +kernel)⟩
theorem lw_p10 : lw_okq (⟨"DeltaMaker$Applier", "doAdd", "(I)I"⟩, 7) := ⟨⟨by decide +kernel, by decide +kernel⟩, List.mem_of_getElem? (i := 61) (by decide +kernel), List.mem_of_getElem? (i := 336) (by decide +kernel), List.mem_of_getElem? (i := 337) (by decide +kernel)⟩
theorem lw_p11 : lw_okq (⟨"DeltaMaker$Applier", "doCopy", "(I)I"⟩, 7) := ⟨⟨by decide +kernel, by decide +kernel⟩, List.mem_of_getElem? (i := 61) (by decide +kernel), List.mem_of_getElem? (i := 341) (by decide +kernel), List.mem_of_getElem? (i := 342) (by decide +kernel)⟩
theorem lw_p12 : lw_okq (⟨"DeltaMaker$Applier", "judgeResult", "()I"⟩, 7) := ⟨⟨by decide +kernel, by decide +kernel⟩, List.mem_of_getElem? (i := 61) (by decide +kernel), List.mem_of_getElem? (i := 348) (by decide +kernel), List.mem_of_getElem? (i := 349) (by decide +kernel)⟩
theorem lw_p13 : lw_okq (⟨"DeltaMaker$Placer", "countBlockers", "()V"⟩, 7) := ⟨⟨by decide +kernel, by decide +kernel⟩, List.mem_of_getElem? (i := 89) (by decide +kernel), List.mem_of_getElem? (i := 376) (by decide +kernel), List.mem_of_getElem? (i := 377) (by decide +kernel)⟩
theorem lw_p14 : lw_okq (⟨"DeltaMaker$Placer", "changeBlockers", "(II)V"⟩, 7) := ⟨⟨by decide +kernel, by decide +kernel⟩, List.mem_of_getElem? (i := 89) (by decide +kernel), List.mem_of_getElem? (i := 382) (by decide +kernel), List.mem_of_getElem? (i := 383) (by decide +kernel)⟩
theorem lw_p15 : lw_okq (⟨"DeltaMaker$Placer", "nextFree", "()I"⟩, 7) := ⟨⟨by decide +kernel, by decide +kernel⟩, List.mem_of_getElem? (i := 89) (by decide +kernel), List.mem_of_getElem? (i := 390) (by decide +kernel), List.mem_of_getElem? (i := 391) (by decide +kernel)⟩
def lw_privs_1 : List (MethodName × Nat) := [(⟨"DeltaMaker", "rowNamed", "(I)LDeltaMaker$Row;"⟩, 9), (⟨"DeltaMaker$Plan", "placeOfLongestRun", "(I)I"⟩, 6), (⟨"DeltaMaker$Plan", "append", "(III)V"⟩, 6), (⟨"DeltaMaker$Plan", "addByte", "(I)V"⟩, 6), (⟨"DeltaMaker$Applier", "readHead", "()I"⟩, 7), (⟨"DeltaMaker$Applier", "readVarint", "()I"⟩, 7), (⟨"DeltaMaker$Applier", "unread", "()I"⟩, 7), (⟨"DeltaMaker$Applier", "readWord", "()I"⟩, 7), (⟨"DeltaMaker$Applier", "doAll", "()I"⟩, 7), (⟨"DeltaMaker$Applier", "doNext", "()I"⟩, 7), (⟨"DeltaMaker$Applier", "doAdd", "(I)I"⟩, 7), (⟨"DeltaMaker$Applier", "doCopy", "(I)I"⟩, 7), (⟨"DeltaMaker$Applier", "judgeResult", "()I"⟩, 7), (⟨"DeltaMaker$Placer", "countBlockers", "()V"⟩, 7), (⟨"DeltaMaker$Placer", "changeBlockers", "(II)V"⟩, 7), (⟨"DeltaMaker$Placer", "nextFree", "()I"⟩, 7)]
theorem lw_r1 : ∀ q ∈ lw_privs_1, lw_okq q := List.forall_mem_cons.mpr ⟨lw_p0, List.forall_mem_cons.mpr ⟨lw_p1, List.forall_mem_cons.mpr ⟨lw_p2, List.forall_mem_cons.mpr ⟨lw_p3, List.forall_mem_cons.mpr ⟨lw_p4, List.forall_mem_cons.mpr ⟨lw_p5, List.forall_mem_cons.mpr ⟨lw_p6, List.forall_mem_cons.mpr ⟨lw_p7, List.forall_mem_cons.mpr ⟨lw_p8, List.forall_mem_cons.mpr ⟨lw_p9, List.forall_mem_cons.mpr ⟨lw_p10, List.forall_mem_cons.mpr ⟨lw_p11, List.forall_mem_cons.mpr ⟨lw_p12, List.forall_mem_cons.mpr ⟨lw_p13, List.forall_mem_cons.mpr ⟨lw_p14, List.forall_mem_cons.mpr ⟨lw_p15, fun _ h => absurd h List.not_mem_nil⟩⟩⟩⟩⟩⟩⟩⟩⟩⟩⟩⟩⟩⟩⟩⟩
theorem lw_p16 : lw_okq (⟨"DeltaMaker$Placer", "carryOut", "(I)V"⟩, 7) := ⟨⟨by decide +kernel, by decide +kernel⟩, List.mem_of_getElem? (i := 89) (by decide +kernel), List.mem_of_getElem? (i := 394) (by decide +kernel), List.mem_of_getElem? (i := 395) (by decide +kernel)⟩
theorem lw_p17 : lw_okq (⟨"DeltaMaker$Placer", "wantsMemory", "(I)Z"⟩, 7) := ⟨⟨by decide +kernel, by decide +kernel⟩, List.mem_of_getElem? (i := 89) (by decide +kernel), List.mem_of_getElem? (i := 398) (by decide +kernel), List.mem_of_getElem? (i := 399) (by decide +kernel)⟩
theorem lw_p18 : lw_okq (⟨"DeltaMaker$Placer", "takeOutOfMemory", "(I)V"⟩, 7) := ⟨⟨by decide +kernel, by decide +kernel⟩, List.mem_of_getElem? (i := 89) (by decide +kernel), List.mem_of_getElem? (i := 404) (by decide +kernel), List.mem_of_getElem? (i := 405) (by decide +kernel)⟩
theorem lw_p19 : lw_okq (⟨"DeltaMaker$Placer", "move", "(LDeltaMaker$Row;ILDeltaMaker$Row;I)V"⟩, 7) := ⟨⟨by decide +kernel, by decide +kernel⟩, List.mem_of_getElem? (i := 89) (by decide +kernel), List.mem_of_getElem? (i := 409) (by decide +kernel), List.mem_of_getElem? (i := 410) (by decide +kernel)⟩
theorem lw_p20 : lw_okq (⟨"DeltaMaker$Placer", "fewestBytes", "()I"⟩, 7) := ⟨⟨by decide +kernel, by decide +kernel⟩, List.mem_of_getElem? (i := 89) (by decide +kernel), List.mem_of_getElem? (i := 420) (by decide +kernel), List.mem_of_getElem? (i := 421) (by decide +kernel)⟩
theorem lw_p21 : lw_okq (⟨"DeltaMaker$Placer", "putAside", "(I)I"⟩, 7) := ⟨⟨by decide +kernel, by decide +kernel⟩, List.mem_of_getElem? (i := 89) (by decide +kernel), List.mem_of_getElem? (i := 424) (by decide +kernel), List.mem_of_getElem? (i := 425) (by decide +kernel)⟩
theorem lw_p22 : lw_okq (⟨"DeltaMakerModel", "sizeOf", "(I)I"⟩, 26) := ⟨⟨by decide +kernel, by decide +kernel⟩, List.mem_of_getElem? (i := 433) (by decide +kernel), List.mem_of_getElem? (i := 531) (by decide +kernel), List.mem_of_getElem? (i := 532) (by decide +kernel)⟩
theorem lw_p23 : lw_okq (⟨"DeltaMakerModel", "byteOf", "(II)I"⟩, 26) := ⟨⟨by decide +kernel, by decide +kernel⟩, List.mem_of_getElem? (i := 433) (by decide +kernel), List.mem_of_getElem? (i := 535) (by decide +kernel), List.mem_of_getElem? (i := 536) (by decide +kernel)⟩
theorem lw_p24 : lw_okq (⟨"DeltaMakerModel", "checkOf", "(I)I"⟩, 26) := ⟨⟨by decide +kernel, by decide +kernel⟩, List.mem_of_getElem? (i := 433) (by decide +kernel), List.mem_of_getElem? (i := 547) (by decide +kernel), List.mem_of_getElem? (i := 548) (by decide +kernel)⟩
theorem lw_p25 : lw_okq (⟨"DeltaMakerModel", "findSteps", "()V"⟩, 26) := ⟨⟨by decide +kernel, by decide +kernel⟩, List.mem_of_getElem? (i := 433) (by decide +kernel), List.mem_of_getElem? (i := 556) (by decide +kernel), List.mem_of_getElem? (i := 557) (by decide +kernel)⟩
theorem lw_p26 : lw_okq (⟨"DeltaMakerModel", "runOf", "(II)I"⟩, 26) := ⟨⟨by decide +kernel, by decide +kernel⟩, List.mem_of_getElem? (i := 433) (by decide +kernel), List.mem_of_getElem? (i := 560) (by decide +kernel), List.mem_of_getElem? (i := 561) (by decide +kernel)⟩
theorem lw_p27 : lw_okq (⟨"DeltaMakerModel", "putNumber", "(I)V"⟩, 26) := ⟨⟨by decide +kernel, by decide +kernel⟩, List.mem_of_getElem? (i := 433) (by decide +kernel), List.mem_of_getElem? (i := 564) (by decide +kernel), List.mem_of_getElem? (i := 565) (by decide +kernel)⟩
theorem lw_p28 : lw_okq (⟨"DeltaMakerModel", "put", "(I)V"⟩, 26) := ⟨⟨by decide +kernel, by decide +kernel⟩, List.mem_of_getElem? (i := 433) (by decide +kernel), List.mem_of_getElem? (i := 568) (by decide +kernel), List.mem_of_getElem? (i := 569) (by decide +kernel)⟩
theorem lw_p29 : lw_okq (⟨"DeltaMakerModel", "putCheck", "(I)V"⟩, 26) := ⟨⟨by decide +kernel, by decide +kernel⟩, List.mem_of_getElem? (i := 433) (by decide +kernel), List.mem_of_getElem? (i := 572) (by decide +kernel), List.mem_of_getElem? (i := 573) (by decide +kernel)⟩
theorem lw_p30 : lw_okq (⟨"DeltaMakerModel", "applied", "()I"⟩, 26) := ⟨⟨by decide +kernel, by decide +kernel⟩, List.mem_of_getElem? (i := 433) (by decide +kernel), List.mem_of_getElem? (i := 588) (by decide +kernel), List.mem_of_getElem? (i := 589) (by decide +kernel)⟩
theorem lw_p31 : lw_okq (⟨"DeltaMakerModel", "nextNumber", "()I"⟩, 26) := ⟨⟨by decide +kernel, by decide +kernel⟩, List.mem_of_getElem? (i := 433) (by decide +kernel), List.mem_of_getElem? (i := 592) (by decide +kernel), List.mem_of_getElem? (i := 593) (by decide +kernel)⟩
def lw_privs_2 : List (MethodName × Nat) := [(⟨"DeltaMaker$Placer", "carryOut", "(I)V"⟩, 7), (⟨"DeltaMaker$Placer", "wantsMemory", "(I)Z"⟩, 7), (⟨"DeltaMaker$Placer", "takeOutOfMemory", "(I)V"⟩, 7), (⟨"DeltaMaker$Placer", "move", "(LDeltaMaker$Row;ILDeltaMaker$Row;I)V"⟩, 7), (⟨"DeltaMaker$Placer", "fewestBytes", "()I"⟩, 7), (⟨"DeltaMaker$Placer", "putAside", "(I)I"⟩, 7), (⟨"DeltaMakerModel", "sizeOf", "(I)I"⟩, 26), (⟨"DeltaMakerModel", "byteOf", "(II)I"⟩, 26), (⟨"DeltaMakerModel", "checkOf", "(I)I"⟩, 26), (⟨"DeltaMakerModel", "findSteps", "()V"⟩, 26), (⟨"DeltaMakerModel", "runOf", "(II)I"⟩, 26), (⟨"DeltaMakerModel", "putNumber", "(I)V"⟩, 26), (⟨"DeltaMakerModel", "put", "(I)V"⟩, 26), (⟨"DeltaMakerModel", "putCheck", "(I)V"⟩, 26), (⟨"DeltaMakerModel", "applied", "()I"⟩, 26), (⟨"DeltaMakerModel", "nextNumber", "()I"⟩, 26)]
theorem lw_r2 : ∀ q ∈ lw_privs_2, lw_okq q := List.forall_mem_cons.mpr ⟨lw_p16, List.forall_mem_cons.mpr ⟨lw_p17, List.forall_mem_cons.mpr ⟨lw_p18, List.forall_mem_cons.mpr ⟨lw_p19, List.forall_mem_cons.mpr ⟨lw_p20, List.forall_mem_cons.mpr ⟨lw_p21, List.forall_mem_cons.mpr ⟨lw_p22, List.forall_mem_cons.mpr ⟨lw_p23, List.forall_mem_cons.mpr ⟨lw_p24, List.forall_mem_cons.mpr ⟨lw_p25, List.forall_mem_cons.mpr ⟨lw_p26, List.forall_mem_cons.mpr ⟨lw_p27, List.forall_mem_cons.mpr ⟨lw_p28, List.forall_mem_cons.mpr ⟨lw_p29, List.forall_mem_cons.mpr ⟨lw_p30, List.forall_mem_cons.mpr ⟨lw_p31, fun _ h => absurd h List.not_mem_nil⟩⟩⟩⟩⟩⟩⟩⟩⟩⟩⟩⟩⟩⟩⟩⟩
theorem lw_p32 : lw_okq (⟨"DeltaMakerModel", "next", "()I"⟩, 26) := ⟨⟨by decide +kernel, by decide +kernel⟩, List.mem_of_getElem? (i := 433) (by decide +kernel), List.mem_of_getElem? (i := 596) (by decide +kernel), List.mem_of_getElem? (i := 597) (by decide +kernel)⟩
theorem lw_p33 : lw_okq (⟨"DeltaMakerModel", "nextCheck", "()I"⟩, 26) := ⟨⟨by decide +kernel, by decide +kernel⟩, List.mem_of_getElem? (i := 433) (by decide +kernel), List.mem_of_getElem? (i := 600) (by decide +kernel), List.mem_of_getElem? (i := 601) (by decide +kernel)⟩
theorem lw_p34 : lw_okq (⟨"DeltaMakerModel", "isFree", "(I)Z"⟩, 26) := ⟨⟨by decide +kernel, by decide +kernel⟩, List.mem_of_getElem? (i := 433) (by decide +kernel), List.mem_of_getElem? (i := 608) (by decide +kernel), List.mem_of_getElem? (i := 609) (by decide +kernel)⟩
theorem lw_p35 : lw_okq (⟨"DeltaMakerModel", "shortest", "()I"⟩, 26) := ⟨⟨by decide +kernel, by decide +kernel⟩, List.mem_of_getElem? (i := 433) (by decide +kernel), List.mem_of_getElem? (i := 615) (by decide +kernel), List.mem_of_getElem? (i := 616) (by decide +kernel)⟩
theorem lw_p36 : lw_okq (⟨"DeltaMakerModel", "write", "(I)V"⟩, 26) := ⟨⟨by decide +kernel, by decide +kernel⟩, List.mem_of_getElem? (i := 433) (by decide +kernel), List.mem_of_getElem? (i := 619) (by decide +kernel), List.mem_of_getElem? (i := 620) (by decide +kernel)⟩
def lw_privs_3 : List (MethodName × Nat) := [(⟨"DeltaMakerModel", "next", "()I"⟩, 26), (⟨"DeltaMakerModel", "nextCheck", "()I"⟩, 26), (⟨"DeltaMakerModel", "isFree", "(I)Z"⟩, 26), (⟨"DeltaMakerModel", "shortest", "()I"⟩, 26), (⟨"DeltaMakerModel", "write", "(I)V"⟩, 26)]
theorem lw_r3 : ∀ q ∈ lw_privs_3, lw_okq q := List.forall_mem_cons.mpr ⟨lw_p32, List.forall_mem_cons.mpr ⟨lw_p33, List.forall_mem_cons.mpr ⟨lw_p34, List.forall_mem_cons.mpr ⟨lw_p35, List.forall_mem_cons.mpr ⟨lw_p36, fun _ h => absurd h List.not_mem_nil⟩⟩⟩⟩⟩
def lw_privs : List (MethodName × Nat) := lw_privs_1 ++ (lw_privs_2 ++ (lw_privs_3))
def lw_tbl : List Cond := k2_sels lw_privs ++ tables_1
theorem lw_privs_ok : ∀ q ∈ lw_privs, lw_okq q := by
  show ∀ q ∈ lw_privs_1 ++ (lw_privs_2 ++ (lw_privs_3)), lw_okq q
  exact List.forall_mem_append.mpr ⟨lw_r1, List.forall_mem_append.mpr ⟨lw_r2, lw_r3⟩⟩

/-- the words that every method may use -/
def gW : List Cond := lw_tbl.filter goodWord
theorem gW_tbl : ∀ w ∈ gW, w ∈ lw_tbl := fun w h => (List.mem_filter.mp h).1
theorem gW_good {w : Cond} (h : w ∈ gW) : (w.onTables && w.keeps) = true ∨ ∃ ty, w = .arrayClass ty := good_of_word (List.mem_filter.mp h).2
theorem gW_at {w : Cond} (k : Nat) (h : lw_tbl[k]? = some w) (hg : goodWord w = true) : w ∈ gW := List.mem_filter.mpr ⟨List.mem_of_getElem? h, hg⟩
theorem km {c w : Cond} (h : w ∈ gW) : w ∈ c :: gW := List.mem_cons_of_mem _ h
theorem kgG {T : List Cond} (hT : ∀ w ∈ gW, w ∈ T) {c1 : Cond} (h5 : c1 ∈ gW) : GoodIn T (c1 :: gW) := fun w h => (List.mem_cons.mp h).elim (fun e => e ▸ ⟨hT _ h5, gW_good h5⟩) (fun h => ⟨hT _ h, gW_good h⟩)
theorem kgI {c0 c1 : Cond} (h5 : c1 ∈ gW) : GoodIn (c0 :: gW) (c1 :: gW) := kgG (fun w h => km h) h5
theorem kgVG {T : List Cond} (hT : ∀ w ∈ gW, w ∈ T) {c1 : Cond} {own C : String} {idx : Nat} {y : MethodName} (h1 : Cond.methodLink own idx y ∈ gW) (h2 : Cond.instanceMethod y ∈ gW) (h3 : Cond.selects C y y ∈ gW) (h4 : Cond.initialized C ∈ gW) (h5 : c1 ∈ gW) : GoodIn T (wsV own idx C y (c1 :: gW)) := by
  intro w hw
  unfold wsV at hw
  rcases List.mem_append.mp hw with h | h
  · simp only [List.mem_cons, List.not_mem_nil, or_false] at h
    rcases h with rfl | rfl | rfl | rfl
    · exact ⟨hT _ h1, gW_good h1⟩
    · exact ⟨hT _ h2, gW_good h2⟩
    · exact ⟨hT _ h3, gW_good h3⟩
    · exact ⟨hT _ h4, gW_good h4⟩
  · exact kgG hT h5 w h
theorem kgV {c0 c1 : Cond} {own C : String} {idx : Nat} {y : MethodName} (h1 : Cond.methodLink own idx y ∈ gW) (h2 : Cond.instanceMethod y ∈ gW) (h3 : Cond.selects C y y ∈ gW) (h4 : Cond.initialized C ∈ gW) (h5 : c1 ∈ gW) : GoodIn (c0 :: gW) (wsV own idx C y (c1 :: gW)) := kgVG (fun w h => km h) h1 h2 h3 h4 h5
theorem kgS {c0 c1 : Cond} {own : String} {idx : Nat} {y : MethodName} (h1 : Cond.methodLink own idx y ∈ gW) (h2 : Cond.static y ∈ gW) (h4 : Cond.initialized own ∈ gW) (h5 : c1 ∈ gW) : GoodIn (c0 :: gW) (wsS own idx y (c1 :: gW)) := by
  intro w hw
  unfold wsS at hw
  rcases List.mem_append.mp hw with h | h
  · simp only [List.mem_cons, List.not_mem_nil, or_false] at h
    rcases h with rfl | rfl | rfl
    · exact ⟨km h1, gW_good h1⟩
    · exact ⟨km h2, gW_good h2⟩
    · exact ⟨km h4, gW_good h4⟩
  · exact kgI h5 w h
abbrev kT (cI cZ : ClassId) : List (ClassId × FieldType) := [(cI, .int), (cZ, .boolean)]
def RX0 : String := "DeltaMaker$Applier"
def TX0 : u_T := fun k => match k with
  | 0 => ("DeltaMaker$Applier", "patch", "LDeltaMaker$Row;", true)
  | 1 => ("DeltaMaker$Applier", "first", "LDeltaMaker$Row;", true)
  | 2 => ("DeltaMaker$Applier", "output", "LDeltaMaker$Row;", true)
  | 3 => ("DeltaMaker$Applier", "at", "I", false)
  | 4 => ("DeltaMaker$Applier", "behind", "I", false)
  | 5 => ("DeltaMaker$Applier", "dueSize", "I", false)
  | _ => ("DeltaMaker$Applier", "dueCheck", "I", false)
def tyX0 : Nat → FieldType := fun k => match k with
  | 0 => .object "DeltaMaker$Row"
  | 1 => .object "DeltaMaker$Row"
  | 2 => .object "DeltaMaker$Row"
  | 3 => .int
  | 4 => .int
  | 5 => .int
  | _ => .int
theorem nmX0 : ∀ a, a < 7 → ∀ b, b < 7 → a ≠ b → (TX0 a).2.1 ≠ (TX0 b).2.1 := by decide +kernel
theorem tyX0_ok : ∀ k, k < 7 → parseFieldDescriptor (TX0 k).2.2.1 = some (tyX0 k) := by decide +kernel
theorem ikX0 : ∀ w ∈ u_ws RX0 TX0 7, w ∈ gW := by decide +kernel
def RX1 : String := "DeltaMaker$Placer"
def TX1 : u_T := fun k => match k with
  | 0 => ("DeltaMaker$Placer", "plan", "LDeltaMaker$Plan;", true)
  | 1 => ("DeltaMaker$Placer", "memory", "LDeltaMaker$Row;", true)
  | 2 => ("DeltaMaker$Placer", "hand", "LDeltaMaker$Row;", true)
  | 3 => ("DeltaMaker$Placer", "aside", "[Z", true)
  | 4 => ("DeltaMaker$Placer", "turns", "[I", true)
  | 5 => ("DeltaMaker$Placer", "blockers", "[I", true)
  | _ => ("DeltaMaker$Placer", "done", "I", false)
def tyX1 : Nat → FieldType := fun k => match k with
  | 0 => .object "DeltaMaker$Plan"
  | 1 => .object "DeltaMaker$Row"
  | 2 => .object "DeltaMaker$Row"
  | 3 => .array .boolean
  | 4 => .array .int
  | 5 => .array .int
  | _ => .int
theorem nmX1 : ∀ a, a < 7 → ∀ b, b < 7 → a ≠ b → (TX1 a).2.1 ≠ (TX1 b).2.1 := by decide +kernel
theorem tyX1_ok : ∀ k, k < 7 → parseFieldDescriptor (TX1 k).2.2.1 = some (tyX1 k) := by decide +kernel
theorem ikX1 : ∀ w ∈ u_ws RX1 TX1 7, w ∈ gW := by decide +kernel
def RX2 : String := "DeltaMaker$Plan"
def TX2 : u_T := fun k => match k with
  | 0 => ("DeltaMaker$Plan", "base", "LDeltaMaker$Row;", true)
  | 1 => ("DeltaMaker$Plan", "goal", "LDeltaMaker$Row;", true)
  | 2 => ("DeltaMaker$Plan", "places", "[I", true)
  | 3 => ("DeltaMaker$Plan", "lengths", "[I", true)
  | 4 => ("DeltaMaker$Plan", "sources", "[I", true)
  | _ => ("DeltaMaker$Plan", "count", "I", false)
def tyX2 : Nat → FieldType := fun k => match k with
  | 0 => .object "DeltaMaker$Row"
  | 1 => .object "DeltaMaker$Row"
  | 2 => .array .int
  | 3 => .array .int
  | 4 => .array .int
  | _ => .int
theorem nmX2 : ∀ a, a < 6 → ∀ b, b < 6 → a ≠ b → (TX2 a).2.1 ≠ (TX2 b).2.1 := by decide +kernel
theorem tyX2_ok : ∀ k, k < 6 → parseFieldDescriptor (TX2 k).2.2.1 = some (tyX2 k) := by decide +kernel
theorem ikX2 : ∀ w ∈ u_ws RX2 TX2 6, w ∈ gW := by decide +kernel
def RX3 : String := "DeltaMaker$Row"
def TX3 : u_T := fun k => match k with
  | 0 => ("DeltaMaker$Row", "cells", "[I", true)
  | _ => ("DeltaMaker$Row", "count", "I", false)
def tyX3 : Nat → FieldType := fun k => match k with
  | 0 => .array .int
  | _ => .int
theorem nmX3 : ∀ a, a < 2 → ∀ b, b < 2 → a ≠ b → (TX3 a).2.1 ≠ (TX3 b).2.1 := by decide +kernel
theorem tyX3_ok : ∀ k, k < 2 → parseFieldDescriptor (TX3 k).2.2.1 = some (tyX3 k) := by decide +kernel
theorem ikX3 : ∀ w ∈ u_ws RX3 TX3 2, w ∈ gW := by decide +kernel
def RX4 : String := "DeltaMaker"
def TX4 : u_T := fun k => match k with
  | 0 => ("DeltaMaker", "tape", "LDeltaMaker$Row;", true)
  | 1 => ("DeltaMaker", "first", "LDeltaMaker$Row;", true)
  | 2 => ("DeltaMaker", "second", "LDeltaMaker$Row;", true)
  | 3 => ("DeltaMaker", "patch", "LDeltaMaker$Row;", true)
  | 4 => ("DeltaMaker", "output", "LDeltaMaker$Row;", true)
  | 5 => ("DeltaMaker", "memory", "LDeltaMaker$Row;", true)
  | 6 => ("DeltaMaker", "plan", "LDeltaMaker$Plan;", true)
  | 7 => ("DeltaMaker", "applier", "LDeltaMaker$Applier;", true)
  | _ => ("DeltaMaker", "placer", "LDeltaMaker$Placer;", true)
def tyX4 : Nat → FieldType := fun k => match k with
  | 0 => .object "DeltaMaker$Row"
  | 1 => .object "DeltaMaker$Row"
  | 2 => .object "DeltaMaker$Row"
  | 3 => .object "DeltaMaker$Row"
  | 4 => .object "DeltaMaker$Row"
  | 5 => .object "DeltaMaker$Row"
  | 6 => .object "DeltaMaker$Plan"
  | 7 => .object "DeltaMaker$Applier"
  | _ => .object "DeltaMaker$Placer"
theorem nmX4 : ∀ a, a < 9 → ∀ b, b < 9 → a ≠ b → (TX4 a).2.1 ≠ (TX4 b).2.1 := by decide +kernel
theorem tyX4_ok : ∀ k, k < 9 → parseFieldDescriptor (TX4 k).2.2.1 = some (tyX4 k) := by decide +kernel
theorem ikX4 : ∀ w ∈ u_ws RX4 TX4 9, w ∈ gW := by decide +kernel
def RX5 : String := "DeltaMakerModel"
def TX5 : u_T := fun k => match k with
  | 0 => ("DeltaMakerModel", "code", "I", false)
  | 1 => ("DeltaMakerModel", "tape", "[I", true)
  | 2 => ("DeltaMakerModel", "first", "[I", true)
  | 3 => ("DeltaMakerModel", "second", "[I", true)
  | 4 => ("DeltaMakerModel", "patch", "[I", true)
  | 5 => ("DeltaMakerModel", "output", "[I", true)
  | 6 => ("DeltaMakerModel", "memory", "[I", true)
  | 7 => ("DeltaMakerModel", "aside", "[I", true)
  | 8 => ("DeltaMakerModel", "taped", "I", false)
  | 9 => ("DeltaMakerModel", "firstSize", "I", false)
  | 10 => ("DeltaMakerModel", "secondSize", "I", false)
  | 11 => ("DeltaMakerModel", "patchSize", "I", false)
  | 12 => ("DeltaMakerModel", "outputSize", "I", false)
  | 13 => ("DeltaMakerModel", "memorySize", "I", false)
  | 14 => ("DeltaMakerModel", "place", "[I", true)
  | 15 => ("DeltaMakerModel", "length", "[I", true)
  | 16 => ("DeltaMakerModel", "from", "[I", true)
  | 17 => ("DeltaMakerModel", "putAside", "[I", true)
  | 18 => ("DeltaMakerModel", "order", "[I", true)
  | 19 => ("DeltaMakerModel", "was", "[I", true)
  | 20 => ("DeltaMakerModel", "secondThen", "[I", true)
  | 21 => ("DeltaMakerModel", "steps", "I", false)
  | 22 => ("DeltaMakerModel", "wasSize", "I", false)
  | 23 => ("DeltaMakerModel", "madeSize", "I", false)
  | 24 => ("DeltaMakerModel", "at", "I", false)
  | _ => ("DeltaMakerModel", "lacks", "Z", false)
def tyX5 : Nat → FieldType := fun k => match k with
  | 0 => .int
  | 1 => .array .int
  | 2 => .array .int
  | 3 => .array .int
  | 4 => .array .int
  | 5 => .array .int
  | 6 => .array .int
  | 7 => .array .int
  | 8 => .int
  | 9 => .int
  | 10 => .int
  | 11 => .int
  | 12 => .int
  | 13 => .int
  | 14 => .array .int
  | 15 => .array .int
  | 16 => .array .int
  | 17 => .array .int
  | 18 => .array .int
  | 19 => .array .int
  | 20 => .array .int
  | 21 => .int
  | 22 => .int
  | 23 => .int
  | 24 => .int
  | _ => .boolean
theorem nmX5 : ∀ a, a < 26 → ∀ b, b < 26 → a ≠ b → (TX5 a).2.1 ≠ (TX5 b).2.1 := by decide +kernel
theorem tyX5_ok : ∀ k, k < 26 → parseFieldDescriptor (TX5 k).2.2.1 = some (tyX5 k) := by decide +kernel
theorem ikX5 : ∀ w ∈ u_ws RX5 TX5 26, w ∈ gW := by decide +kernel
def RL : String := "DeltaMakerLaw"
abbrev vwCl : List vw_C := [(RX0, TX0, 7), (RX1, TX1, 7), (RX2, TX2, 6), (RX3, TX3, 2), (RX4, TX4, 9), (RX5, TX5, 26)]
abbrev cX0_init : ByteArray := prog_2_method_1_code
def yX0_init : MethodName := ⟨RX0, "<init>", "(LDeltaMaker$Row;LDeltaMaker$Row;LDeltaMaker$Row;)V"⟩
abbrev wsX0_init : List Cond := .code yX0_init cX0_init 4 none :: gW
set_option maxRecDepth 100000 in
theorem wmcX0_init : Cond.code yX0_init cX0_init 4 none ∈ gW := gW_at 101 rfl rfl
abbrev cX0_run : ByteArray := prog_2_method_2_code
def yX0_run : MethodName := ⟨RX0, "run", "()I"⟩
abbrev wsX0_run : List Cond := .code yX0_run cX0_run 2 (some .int) :: gW
set_option maxRecDepth 100000 in
theorem wmcX0_run : Cond.code yX0_run cX0_run 2 (some .int) ∈ gW := gW_at 343 rfl rfl
abbrev cX0_readHead : ByteArray := prog_2_method_3_code
def yX0_readHead : MethodName := ⟨RX0, "readHead", "()I"⟩
abbrev wsX0_readHead : List Cond := .code yX0_readHead cX0_readHead 3 (some .int) :: gW
set_option maxRecDepth 100000 in
theorem wmcX0_readHead : Cond.code yX0_readHead cX0_readHead 3 (some .int) ∈ gW := gW_at 348 rfl rfl
abbrev cX0_doAll : ByteArray := prog_2_method_4_code
def yX0_doAll : MethodName := ⟨RX0, "doAll", "()I"⟩
abbrev wsX0_doAll : List Cond := .code yX0_doAll cX0_doAll 3 (some .int) :: gW
set_option maxRecDepth 100000 in
theorem wmcX0_doAll : Cond.code yX0_doAll cX0_doAll 3 (some .int) ∈ gW := gW_at 367 rfl rfl
abbrev cX0_doNext : ByteArray := prog_2_method_5_code
def yX0_doNext : MethodName := ⟨RX0, "doNext", "()I"⟩
abbrev wsX0_doNext : List Cond := .code yX0_doNext cX0_doNext 3 (some .int) :: gW
set_option maxRecDepth 100000 in
theorem wmcX0_doNext : Cond.code yX0_doNext cX0_doNext 3 (some .int) ∈ gW := gW_at 371 rfl rfl
abbrev cX0_doAdd : ByteArray := prog_2_method_6_code
def yX0_doAdd : MethodName := ⟨RX0, "doAdd", "(I)I"⟩
abbrev wsX0_doAdd : List Cond := .code yX0_doAdd cX0_doAdd 2 (some .int) :: gW
set_option maxRecDepth 100000 in
theorem wmcX0_doAdd : Cond.code yX0_doAdd cX0_doAdd 2 (some .int) ∈ gW := gW_at 375 rfl rfl
abbrev cX0_doCopy : ByteArray := prog_2_method_7_code
def yX0_doCopy : MethodName := ⟨RX0, "doCopy", "(I)I"⟩
abbrev wsX0_doCopy : List Cond := .code yX0_doCopy cX0_doCopy 4 (some .int) :: gW
set_option maxRecDepth 100000 in
theorem wmcX0_doCopy : Cond.code yX0_doCopy cX0_doCopy 4 (some .int) ∈ gW := gW_at 380 rfl rfl
abbrev cX0_judgeResult : ByteArray := prog_2_method_8_code
def yX0_judgeResult : MethodName := ⟨RX0, "judgeResult", "()I"⟩
abbrev wsX0_judgeResult : List Cond := .code yX0_judgeResult cX0_judgeResult 1 (some .int) :: gW
set_option maxRecDepth 100000 in
theorem wmcX0_judgeResult : Cond.code yX0_judgeResult cX0_judgeResult 1 (some .int) ∈ gW := gW_at 387 rfl rfl
abbrev cX0_unread : ByteArray := prog_2_method_9_code
def yX0_unread : MethodName := ⟨RX0, "unread", "()I"⟩
abbrev wsX0_unread : List Cond := .code yX0_unread cX0_unread 1 (some .int) :: gW
set_option maxRecDepth 100000 in
theorem wmcX0_unread : Cond.code yX0_unread cX0_unread 1 (some .int) ∈ gW := gW_at 357 rfl rfl
abbrev cX0_readVarint : ByteArray := prog_2_method_10_code
def yX0_readVarint : MethodName := ⟨RX0, "readVarint", "()I"⟩
abbrev wsX0_readVarint : List Cond := .code yX0_readVarint cX0_readVarint 4 (some .int) :: gW
set_option maxRecDepth 100000 in
theorem wmcX0_readVarint : Cond.code yX0_readVarint cX0_readVarint 4 (some .int) ∈ gW := gW_at 352 rfl rfl
abbrev cX0_readWord : ByteArray := prog_2_method_11_code
def yX0_readWord : MethodName := ⟨RX0, "readWord", "()I"⟩
abbrev wsX0_readWord : List Cond := .code yX0_readWord cX0_readWord 3 (some .int) :: gW
set_option maxRecDepth 100000 in
theorem wmcX0_readWord : Cond.code yX0_readWord cX0_readWord 3 (some .int) ∈ gW := gW_at 362 rfl rfl
abbrev cX0_withSign : ByteArray := prog_2_method_12_code
def yX0_withSign : MethodName := ⟨RX0, "withSign", "(I)I"⟩
abbrev wsX0_withSign : List Cond := .code yX0_withSign cX0_withSign 1 (some .int) :: gW
set_option maxRecDepth 100000 in
theorem wmcX0_withSign : Cond.code yX0_withSign cX0_withSign 1 (some .int) ∈ gW := gW_at 383 rfl rfl
abbrev cX1_init : ByteArray := prog_3_method_1_code
def yX1_init : MethodName := ⟨RX1, "<init>", "(LDeltaMaker$Plan;LDeltaMaker$Row;)V"⟩
abbrev wsX1_init : List Cond := .code yX1_init cX1_init 3 none :: gW
set_option maxRecDepth 100000 in
theorem wmcX1_init : Cond.code yX1_init cX1_init 3 none ∈ gW := gW_at 129 rfl rfl
abbrev cX1_wasPutAside : ByteArray := prog_3_method_2_code
def yX1_wasPutAside : MethodName := ⟨RX1, "wasPutAside", "(I)Z"⟩
abbrev wsX1_wasPutAside : List Cond := .code yX1_wasPutAside cX1_wasPutAside 2 (some .boolean) :: gW
set_option maxRecDepth 100000 in
theorem wmcX1_wasPutAside : Cond.code yX1_wasPutAside cX1_wasPutAside 2 (some .boolean) ∈ gW := gW_at 331 rfl rfl
abbrev cX1_turnOf : ByteArray := prog_3_method_3_code
def yX1_turnOf : MethodName := ⟨RX1, "turnOf", "(I)I"⟩
abbrev wsX1_turnOf : List Cond := .code yX1_turnOf cX1_turnOf 2 (some .int) :: gW
set_option maxRecDepth 100000 in
theorem wmcX1_turnOf : Cond.code yX1_turnOf cX1_turnOf 2 (some .int) ∈ gW := gW_at 335 rfl rfl
abbrev cX1_forget : ByteArray := prog_3_method_4_code
def yX1_forget : MethodName := ⟨RX1, "forget", "()V"⟩
abbrev wsX1_forget : List Cond := .code yX1_forget cX1_forget 2 none :: gW
set_option maxRecDepth 100000 in
theorem wmcX1_forget : Cond.code yX1_forget cX1_forget 2 none ∈ gW := gW_at 275 rfl rfl
abbrev cX1_run : ByteArray := prog_3_method_5_code
def yX1_run : MethodName := ⟨RX1, "run", "()I"⟩
abbrev wsX1_run : List Cond := .code yX1_run cX1_run 4 (some .int) :: gW
set_option maxRecDepth 100000 in
theorem wmcX1_run : Cond.code yX1_run cX1_run 4 (some .int) ∈ gW := gW_at 395 rfl rfl
abbrev cX1_countBlockers : ByteArray := prog_3_method_6_code
def yX1_countBlockers : MethodName := ⟨RX1, "countBlockers", "()V"⟩
abbrev wsX1_countBlockers : List Cond := .code yX1_countBlockers cX1_countBlockers 2 none :: gW
set_option maxRecDepth 100000 in
theorem wmcX1_countBlockers : Cond.code yX1_countBlockers cX1_countBlockers 2 none ∈ gW := gW_at 415 rfl rfl
abbrev cX1_changeBlockers : ByteArray := prog_3_method_7_code
def yX1_changeBlockers : MethodName := ⟨RX1, "changeBlockers", "(II)V"⟩
abbrev wsX1_changeBlockers : List Cond := .code yX1_changeBlockers cX1_changeBlockers 4 none :: gW
set_option maxRecDepth 100000 in
theorem wmcX1_changeBlockers : Cond.code yX1_changeBlockers cX1_changeBlockers 4 none ∈ gW := gW_at 421 rfl rfl
abbrev cX1_nextFree : ByteArray := prog_3_method_8_code
def yX1_nextFree : MethodName := ⟨RX1, "nextFree", "()I"⟩
abbrev wsX1_nextFree : List Cond := .code yX1_nextFree cX1_nextFree 2 (some .int) :: gW
set_option maxRecDepth 100000 in
theorem wmcX1_nextFree : Cond.code yX1_nextFree cX1_nextFree 2 (some .int) ∈ gW := gW_at 429 rfl rfl
abbrev cX1_wantsMemory : ByteArray := prog_3_method_9_code
def yX1_wantsMemory : MethodName := ⟨RX1, "wantsMemory", "(I)Z"⟩
abbrev wsX1_wantsMemory : List Cond := .code yX1_wantsMemory cX1_wantsMemory 2 (some .boolean) :: gW
set_option maxRecDepth 100000 in
theorem wmcX1_wantsMemory : Cond.code yX1_wantsMemory cX1_wantsMemory 2 (some .boolean) ∈ gW := gW_at 437 rfl rfl
abbrev cX1_fewestBytes : ByteArray := prog_3_method_10_code
def yX1_fewestBytes : MethodName := ⟨RX1, "fewestBytes", "()I"⟩
abbrev wsX1_fewestBytes : List Cond := .code yX1_fewestBytes cX1_fewestBytes 3 (some .int) :: gW
set_option maxRecDepth 100000 in
theorem wmcX1_fewestBytes : Cond.code yX1_fewestBytes cX1_fewestBytes 3 (some .int) ∈ gW := gW_at 459 rfl rfl
abbrev cX1_putAside : ByteArray := prog_3_method_11_code
def yX1_putAside : MethodName := ⟨RX1, "putAside", "(I)I"⟩
abbrev wsX1_putAside : List Cond := .code yX1_putAside cX1_putAside 2 (some .int) :: gW
set_option maxRecDepth 100000 in
theorem wmcX1_putAside : Cond.code yX1_putAside cX1_putAside 2 (some .int) ∈ gW := gW_at 463 rfl rfl
abbrev cX1_carryOut : ByteArray := prog_3_method_12_code
def yX1_carryOut : MethodName := ⟨RX1, "carryOut", "(I)V"⟩
abbrev wsX1_carryOut : List Cond := .code yX1_carryOut cX1_carryOut 2 none :: gW
set_option maxRecDepth 100000 in
theorem wmcX1_carryOut : Cond.code yX1_carryOut cX1_carryOut 2 none ∈ gW := gW_at 433 rfl rfl
abbrev cX1_takeOutOfMemory : ByteArray := prog_3_method_13_code
def yX1_takeOutOfMemory : MethodName := ⟨RX1, "takeOutOfMemory", "(I)V"⟩
abbrev wsX1_takeOutOfMemory : List Cond := .code yX1_takeOutOfMemory cX1_takeOutOfMemory 2 none :: gW
set_option maxRecDepth 100000 in
theorem wmcX1_takeOutOfMemory : Cond.code yX1_takeOutOfMemory cX1_takeOutOfMemory 2 none ∈ gW := gW_at 443 rfl rfl
abbrev cX1_move : ByteArray := prog_3_method_14_code
def yX1_move : MethodName := ⟨RX1, "move", "(LDeltaMaker$Row;ILDeltaMaker$Row;I)V"⟩
abbrev wsX1_move : List Cond := .code yX1_move cX1_move 8 none :: gW
set_option maxRecDepth 100000 in
theorem wmcX1_move : Cond.code yX1_move cX1_move 8 none ∈ gW := gW_at 448 rfl rfl
abbrev cX2_init : ByteArray := prog_4_method_1_code
def yX2_init : MethodName := ⟨RX2, "<init>", "()V"⟩
abbrev wsX2_init : List Cond := .code yX2_init cX2_init 1 none :: gW
set_option maxRecDepth 100000 in
theorem wmcX2_init : Cond.code yX2_init cX2_init 1 none ∈ gW := gW_at 74 rfl rfl
abbrev cX2_base : ByteArray := prog_4_method_2_code
def yX2_base : MethodName := ⟨RX2, "base", "()LDeltaMaker$Row;"⟩
abbrev wsX2_base : List Cond := .code yX2_base cX2_base 1 (some (.object "DeltaMaker$Row")) :: gW
set_option maxRecDepth 100000 in
theorem wmcX2_base : Cond.code yX2_base cX2_base 1 (some (.object "DeltaMaker$Row")) ∈ gW := gW_at 400 rfl rfl
abbrev cX2_goal : ByteArray := prog_4_method_3_code
def yX2_goal : MethodName := ⟨RX2, "goal", "()LDeltaMaker$Row;"⟩
abbrev wsX2_goal : List Cond := .code yX2_goal cX2_goal 1 (some (.object "DeltaMaker$Row")) :: gW
set_option maxRecDepth 100000 in
theorem wmcX2_goal : Cond.code yX2_goal cX2_goal 1 (some (.object "DeltaMaker$Row")) ∈ gW := gW_at 406 rfl rfl
abbrev cX2_count : ByteArray := prog_4_method_4_code
def yX2_count : MethodName := ⟨RX2, "count", "()I"⟩
abbrev wsX2_count : List Cond := .code yX2_count cX2_count 1 (some .int) :: gW
set_option maxRecDepth 100000 in
theorem wmcX2_count : Cond.code yX2_count cX2_count 1 (some .int) ∈ gW := gW_at 318 rfl rfl
abbrev cX2_has : ByteArray := prog_4_method_5_code
def yX2_has : MethodName := ⟨RX2, "has", "(I)Z"⟩
abbrev wsX2_has : List Cond := .code yX2_has cX2_has 2 (some .boolean) :: gW
set_option maxRecDepth 100000 in
theorem wmcX2_has : Cond.code yX2_has cX2_has 2 (some .boolean) ∈ gW := gW_at 259 rfl rfl
abbrev cX2_isCopy : ByteArray := prog_4_method_6_code
def yX2_isCopy : MethodName := ⟨RX2, "isCopy", "(I)Z"⟩
abbrev wsX2_isCopy : List Cond := .code yX2_isCopy cX2_isCopy 2 (some .boolean) :: gW
set_option maxRecDepth 100000 in
theorem wmcX2_isCopy : Cond.code yX2_isCopy cX2_isCopy 2 (some .boolean) ∈ gW := gW_at 263 rfl rfl
abbrev cX2_place : ByteArray := prog_4_method_7_code
def yX2_place : MethodName := ⟨RX2, "place", "(I)I"⟩
abbrev wsX2_place : List Cond := .code yX2_place cX2_place 2 (some .int) :: gW
set_option maxRecDepth 100000 in
theorem wmcX2_place : Cond.code yX2_place cX2_place 2 (some .int) ∈ gW := gW_at 300 rfl rfl
abbrev cX2_length : ByteArray := prog_4_method_8_code
def yX2_length : MethodName := ⟨RX2, "length", "(I)I"⟩
abbrev wsX2_length : List Cond := .code yX2_length cX2_length 2 (some .int) :: gW
set_option maxRecDepth 100000 in
theorem wmcX2_length : Cond.code yX2_length cX2_length 2 (some .int) ∈ gW := gW_at 271 rfl rfl
abbrev cX2_source : ByteArray := prog_4_method_9_code
def yX2_source : MethodName := ⟨RX2, "source", "(I)I"⟩
abbrev wsX2_source : List Cond := .code yX2_source cX2_source 2 (some .int) :: gW
set_option maxRecDepth 100000 in
theorem wmcX2_source : Cond.code yX2_source cX2_source 2 (some .int) ∈ gW := gW_at 267 rfl rfl
abbrev cX2_writesWhereTakes : ByteArray := prog_4_method_10_code
def yX2_writesWhereTakes : MethodName := ⟨RX2, "writesWhereTakes", "(II)Z"⟩
abbrev wsX2_writesWhereTakes : List Cond := .code yX2_writesWhereTakes cX2_writesWhereTakes 3 (some .boolean) :: gW
set_option maxRecDepth 100000 in
theorem wmcX2_writesWhereTakes : Cond.code yX2_writesWhereTakes cX2_writesWhereTakes 3 (some .boolean) ∈ gW := gW_at 425 rfl rfl
abbrev cX2_layOut : ByteArray := prog_4_method_11_code
def yX2_layOut : MethodName := ⟨RX2, "layOut", "(LDeltaMaker$Row;LDeltaMaker$Row;)V"⟩
abbrev wsX2_layOut : List Cond := .code yX2_layOut cX2_layOut 7 none :: gW
set_option maxRecDepth 100000 in
theorem wmcX2_layOut : Cond.code yX2_layOut cX2_layOut 7 none ∈ gW := gW_at 237 rfl rfl
abbrev cX2_placeOfLongestRun : ByteArray := prog_4_method_12_code
def yX2_placeOfLongestRun : MethodName := ⟨RX2, "placeOfLongestRun", "(I)I"⟩
abbrev wsX2_placeOfLongestRun : List Cond := .code yX2_placeOfLongestRun cX2_placeOfLongestRun 6 (some .int) :: gW
set_option maxRecDepth 100000 in
theorem wmcX2_placeOfLongestRun : Cond.code yX2_placeOfLongestRun cX2_placeOfLongestRun 6 (some .int) ∈ gW := gW_at 243 rfl rfl
abbrev cX2_addByte : ByteArray := prog_4_method_13_code
def yX2_addByte : MethodName := ⟨RX2, "addByte", "(I)V"⟩
abbrev wsX2_addByte : List Cond := .code yX2_addByte cX2_addByte 3 none :: gW
set_option maxRecDepth 100000 in
theorem wmcX2_addByte : Cond.code yX2_addByte cX2_addByte 3 none ∈ gW := gW_at 255 rfl rfl
abbrev cX2_append : ByteArray := prog_4_method_14_code
def yX2_append : MethodName := ⟨RX2, "append", "(III)V"⟩
abbrev wsX2_append : List Cond := .code yX2_append cX2_append 4 none :: gW
set_option maxRecDepth 100000 in
theorem wmcX2_append : Cond.code yX2_append cX2_append 4 none ∈ gW := gW_at 251 rfl rfl
abbrev cX2_writeTo : ByteArray := prog_4_method_15_code
def yX2_writeTo : MethodName := ⟨RX2, "writeTo", "(LDeltaMaker$Row;)V"⟩
abbrev wsX2_writeTo : List Cond := .code yX2_writeTo cX2_writeTo 4 none :: gW
set_option maxRecDepth 100000 in
theorem wmcX2_writeTo : Cond.code yX2_writeTo cX2_writeTo 4 none ∈ gW := gW_at 279 rfl rfl
abbrev cX2_withoutSign : ByteArray := prog_4_method_16_code
def yX2_withoutSign : MethodName := ⟨RX2, "withoutSign", "(I)I"⟩
abbrev wsX2_withoutSign : List Cond := .code yX2_withoutSign cX2_withoutSign 1 (some .int) :: gW
set_option maxRecDepth 100000 in
theorem wmcX2_withoutSign : Cond.code yX2_withoutSign cX2_withoutSign 1 (some .int) ∈ gW := gW_at 296 rfl rfl
abbrev cX3_init : ByteArray := prog_5_method_1_code
def yX3_init : MethodName := ⟨RX3, "<init>", "(I)V"⟩
abbrev wsX3_init : List Cond := .code yX3_init cX3_init 2 none :: gW
set_option maxRecDepth 100000 in
theorem wmcX3_init : Cond.code yX3_init cX3_init 2 none ∈ gW := gW_at 57 rfl rfl
abbrev cX3_most : ByteArray := prog_5_method_2_code
def yX3_most : MethodName := ⟨RX3, "most", "()I"⟩
abbrev wsX3_most : List Cond := .code yX3_most cX3_most 1 (some .int) :: gW
set_option maxRecDepth 100000 in
theorem wmcX3_most : Cond.code yX3_most cX3_most 1 (some .int) ∈ gW := gW_at 191 rfl rfl
abbrev cX3_count : ByteArray := prog_5_method_3_code
def yX3_count : MethodName := ⟨RX3, "count", "()I"⟩
abbrev wsX3_count : List Cond := .code yX3_count cX3_count 1 (some .int) :: gW
set_option maxRecDepth 100000 in
theorem wmcX3_count : Cond.code yX3_count cX3_count 1 (some .int) ∈ gW := gW_at 195 rfl rfl
abbrev cX3_at : ByteArray := prog_5_method_4_code
def yX3_at : MethodName := ⟨RX3, "at", "(I)I"⟩
abbrev wsX3_at : List Cond := .code yX3_at cX3_at 2 (some .int) :: gW
set_option maxRecDepth 100000 in
theorem wmcX3_at : Cond.code yX3_at cX3_at 2 (some .int) ∈ gW := gW_at 227 rfl rfl
abbrev cX3_put : ByteArray := prog_5_method_5_code
def yX3_put : MethodName := ⟨RX3, "put", "(II)V"⟩
abbrev wsX3_put : List Cond := .code yX3_put cX3_put 3 none :: gW
set_option maxRecDepth 100000 in
theorem wmcX3_put : Cond.code yX3_put cX3_put 3 none ∈ gW := gW_at 455 rfl rfl
abbrev cX3_clear : ByteArray := prog_5_method_6_code
def yX3_clear : MethodName := ⟨RX3, "clear", "()V"⟩
abbrev wsX3_clear : List Cond := .code yX3_clear cX3_clear 1 none :: gW
set_option maxRecDepth 100000 in
theorem wmcX3_clear : Cond.code yX3_clear cX3_clear 1 none ∈ gW := gW_at 215 rfl rfl
abbrev cX3_setCount : ByteArray := prog_5_method_7_code
def yX3_setCount : MethodName := ⟨RX3, "setCount", "(I)V"⟩
abbrev wsX3_setCount : List Cond := .code yX3_setCount cX3_setCount 2 none :: gW
set_option maxRecDepth 100000 in
theorem wmcX3_setCount : Cond.code yX3_setCount cX3_setCount 2 none ∈ gW := gW_at 411 rfl rfl
abbrev cX3_add : ByteArray := prog_5_method_8_code
def yX3_add : MethodName := ⟨RX3, "add", "(I)V"⟩
abbrev wsX3_add : List Cond := .code yX3_add cX3_add 2 none :: gW
set_option maxRecDepth 100000 in
theorem wmcX3_add : Cond.code yX3_add cX3_add 2 none ∈ gW := gW_at 199 rfl rfl
abbrev cX3_addFrom : ByteArray := prog_5_method_9_code
def yX3_addFrom : MethodName := ⟨RX3, "addFrom", "(LDeltaMaker$Row;II)V"⟩
abbrev wsX3_addFrom : List Cond := .code yX3_addFrom cX3_addFrom 6 none :: gW
set_option maxRecDepth 100000 in
theorem wmcX3_addFrom : Cond.code yX3_addFrom cX3_addFrom 6 none ∈ gW := gW_at 220 rfl rfl
abbrev cX3_become : ByteArray := prog_5_method_10_code
def yX3_become : MethodName := ⟨RX3, "become", "(LDeltaMaker$Row;)V"⟩
abbrev wsX3_become : List Cond := .code yX3_become cX3_become 2 none :: gW
set_option maxRecDepth 100000 in
theorem wmcX3_become : Cond.code yX3_become cX3_become 2 none ∈ gW := gW_at 211 rfl rfl
abbrev cX3_sameFrom : ByteArray := prog_5_method_11_code
def yX3_sameFrom : MethodName := ⟨RX3, "sameFrom", "(ILDeltaMaker$Row;I)I"⟩
abbrev wsX3_sameFrom : List Cond := .code yX3_sameFrom cX3_sameFrom 6 (some .int) :: gW
set_option maxRecDepth 100000 in
theorem wmcX3_sameFrom : Cond.code yX3_sameFrom cX3_sameFrom 6 (some .int) ∈ gW := gW_at 247 rfl rfl
abbrev cX3_addVarint : ByteArray := prog_5_method_12_code
def yX3_addVarint : MethodName := ⟨RX3, "addVarint", "(I)V"⟩
abbrev wsX3_addVarint : List Cond := .code yX3_addVarint cX3_addVarint 4 none :: gW
set_option maxRecDepth 100000 in
theorem wmcX3_addVarint : Cond.code yX3_addVarint cX3_addVarint 4 none ∈ gW := gW_at 284 rfl rfl
abbrev cX3_addWord : ByteArray := prog_5_method_13_code
def yX3_addWord : MethodName := ⟨RX3, "addWord", "(I)V"⟩
abbrev wsX3_addWord : List Cond := .code yX3_addWord cX3_addWord 3 none :: gW
set_option maxRecDepth 100000 in
theorem wmcX3_addWord : Cond.code yX3_addWord cX3_addWord 3 none ∈ gW := gW_at 293 rfl rfl
abbrev cX3_digest : ByteArray := prog_5_method_14_code
def yX3_digest : MethodName := ⟨RX3, "digest", "()I"⟩
abbrev wsX3_digest : List Cond := .code yX3_digest cX3_digest 4 (some .int) :: gW
set_option maxRecDepth 100000 in
theorem wmcX3_digest : Cond.code yX3_digest cX3_digest 4 (some .int) ∈ gW := gW_at 288 rfl rfl
abbrev cX4_init : ByteArray := prog_1_method_1_code
def yX4_init : MethodName := ⟨RX4, "<init>", "()V"⟩
abbrev wsX4_init : List Cond := .code yX4_init cX4_init 1 none :: gW
set_option maxRecDepth 100000 in
theorem wmcX4_init : Cond.code yX4_init cX4_init 1 none ∈ gW := gW_at 49 rfl rfl
abbrev cX4_feed : ByteArray := prog_1_method_2_code
def yX4_feed : MethodName := ⟨RX4, "feed", "(JI)Z"⟩
abbrev wsX4_feed : List Cond := .code yX4_feed cX4_feed 5 (some .boolean) :: gW
set_option maxRecDepth 100000 in
theorem wmcX4_feed : Cond.code yX4_feed cX4_feed 5 (some .boolean) ∈ gW := gW_at 187 rfl rfl
abbrev cX4_take : ByteArray := prog_1_method_3_code
def yX4_take : MethodName := ⟨RX4, "take", "(I)Z"⟩
abbrev wsX4_take : List Cond := .code yX4_take cX4_take 3 (some .boolean) :: gW
set_option maxRecDepth 100000 in
theorem wmcX4_take : Cond.code yX4_take cX4_take 3 (some .boolean) ∈ gW := gW_at 203 rfl rfl
abbrev cX4_make : ByteArray := prog_1_method_4_code
def yX4_make : MethodName := ⟨RX4, "make", "()I"⟩
abbrev wsX4_make : List Cond := .code yX4_make cX4_make 1 (some .int) :: gW
set_option maxRecDepth 100000 in
theorem wmcX4_make : Cond.code yX4_make cX4_make 1 (some .int) ∈ gW := gW_at 233 rfl rfl
abbrev cX4_byteAt : ByteArray := prog_1_method_5_code
def yX4_byteAt : MethodName := ⟨RX4, "byteAt", "(II)I"⟩
abbrev wsX4_byteAt : List Cond := .code yX4_byteAt cX4_byteAt 4 (some .int) :: gW
set_option maxRecDepth 100000 in
theorem wmcX4_byteAt : Cond.code yX4_byteAt cX4_byteAt 4 (some .int) ∈ gW := gW_at 305 rfl rfl
abbrev cX4_size : ByteArray := prog_1_method_6_code
def yX4_size : MethodName := ⟨RX4, "size", "(I)I"⟩
abbrev wsX4_size : List Cond := .code yX4_size cX4_size 3 (some .int) :: gW
set_option maxRecDepth 100000 in
theorem wmcX4_size : Cond.code yX4_size cX4_size 3 (some .int) ∈ gW := gW_at 310 rfl rfl
abbrev cX4_steps : ByteArray := prog_1_method_7_code
def yX4_steps : MethodName := ⟨RX4, "steps", "()I"⟩
abbrev wsX4_steps : List Cond := .code yX4_steps cX4_steps 1 (some .int) :: gW
set_option maxRecDepth 100000 in
theorem wmcX4_steps : Cond.code yX4_steps cX4_steps 1 (some .int) ∈ gW := gW_at 314 rfl rfl
abbrev cX4_step : ByteArray := prog_1_method_8_code
def yX4_step : MethodName := ⟨RX4, "step", "(II)I"⟩
abbrev wsX4_step : List Cond := .code yX4_step cX4_step 3 (some .int) :: gW
set_option maxRecDepth 100000 in
theorem wmcX4_step : Cond.code yX4_step cX4_step 3 (some .int) ∈ gW := gW_at 322 rfl rfl
abbrev cX4_apply : ByteArray := prog_1_method_9_code
def yX4_apply : MethodName := ⟨RX4, "apply", "()I"⟩
abbrev wsX4_apply : List Cond := .code yX4_apply cX4_apply 1 (some .int) :: gW
set_option maxRecDepth 100000 in
theorem wmcX4_apply : Cond.code yX4_apply cX4_apply 1 (some .int) ∈ gW := gW_at 339 rfl rfl
abbrev cX4_inPlace : ByteArray := prog_1_method_10_code
def yX4_inPlace : MethodName := ⟨RX4, "inPlace", "()I"⟩
abbrev wsX4_inPlace : List Cond := .code yX4_inPlace cX4_inPlace 1 (some .int) :: gW
set_option maxRecDepth 100000 in
theorem wmcX4_inPlace : Cond.code yX4_inPlace cX4_inPlace 1 (some .int) ∈ gW := gW_at 391 rfl rfl
abbrev cX4_check : ByteArray := prog_1_method_11_code
def yX4_check : MethodName := ⟨RX4, "check", "(I)I"⟩
abbrev wsX4_check : List Cond := .code yX4_check cX4_check 3 (some .int) :: gW
set_option maxRecDepth 100000 in
theorem wmcX4_check : Cond.code yX4_check cX4_check 3 (some .int) ∈ gW := gW_at 467 rfl rfl
abbrev cX4_rowNamed : ByteArray := prog_1_method_12_code
def yX4_rowNamed : MethodName := ⟨RX4, "rowNamed", "(I)LDeltaMaker$Row;"⟩
abbrev wsX4_rowNamed : List Cond := .code yX4_rowNamed cX4_rowNamed 2 (some (.object "DeltaMaker$Row")) :: gW
set_option maxRecDepth 100000 in
theorem wmcX4_rowNamed : Cond.code yX4_rowNamed cX4_rowNamed 2 (some (.object "DeltaMaker$Row")) ∈ gW := gW_at 207 rfl rfl
abbrev cX5_init : ByteArray := prog_7_method_1_code
def yX5_init : MethodName := ⟨RX5, "<init>", "()V"⟩
abbrev wsX5_init : List Cond := .code yX5_init cX5_init 1 none :: gW
set_option maxRecDepth 100000 in
theorem wmcX5_init : Cond.code yX5_init cX5_init 1 none ∈ gW := gW_at 473 rfl rfl
abbrev cX5_feed : ByteArray := prog_7_method_3_code
def yX5_feed : MethodName := ⟨RX5, "feed", "(JI)Z"⟩
abbrev wsX5_feed : List Cond := .code yX5_feed cX5_feed 5 (some .boolean) :: gW
set_option maxRecDepth 100000 in
theorem wmcX5_feed : Cond.code yX5_feed cX5_feed 5 (some .boolean) ∈ gW := gW_at 557 rfl rfl
abbrev cX5_take : ByteArray := prog_7_method_4_code
def yX5_take : MethodName := ⟨RX5, "take", "(I)Z"⟩
abbrev wsX5_take : List Cond := .code yX5_take cX5_take 3 (some .boolean) :: gW
set_option maxRecDepth 100000 in
theorem wmcX5_take : Cond.code yX5_take cX5_take 3 (some .boolean) ∈ gW := gW_at 562 rfl rfl
abbrev cX5_sizeOf : ByteArray := prog_7_method_5_code
def yX5_sizeOf : MethodName := ⟨RX5, "sizeOf", "(I)I"⟩
abbrev wsX5_sizeOf : List Cond := .code yX5_sizeOf cX5_sizeOf 2 (some .int) :: gW
set_option maxRecDepth 100000 in
theorem wmcX5_sizeOf : Cond.code yX5_sizeOf cX5_sizeOf 2 (some .int) ∈ gW := gW_at 570 rfl rfl
abbrev cX5_byteOf : ByteArray := prog_7_method_6_code
def yX5_byteOf : MethodName := ⟨RX5, "byteOf", "(II)I"⟩
abbrev wsX5_byteOf : List Cond := .code yX5_byteOf cX5_byteOf 3 (some .int) :: gW
set_option maxRecDepth 100000 in
theorem wmcX5_byteOf : Cond.code yX5_byteOf cX5_byteOf 3 (some .int) ∈ gW := gW_at 574 rfl rfl
abbrev cX5_byteAt : ByteArray := prog_7_method_7_code
def yX5_byteAt : MethodName := ⟨RX5, "byteAt", "(II)I"⟩
abbrev wsX5_byteAt : List Cond := .code yX5_byteAt cX5_byteAt 3 (some .int) :: gW
set_option maxRecDepth 100000 in
theorem wmcX5_byteAt : Cond.code yX5_byteAt cX5_byteAt 3 (some .int) ∈ gW := gW_at 566 rfl rfl
abbrev cX5_size : ByteArray := prog_7_method_8_code
def yX5_size : MethodName := ⟨RX5, "size", "(I)I"⟩
abbrev wsX5_size : List Cond := .code yX5_size cX5_size 2 (some .int) :: gW
set_option maxRecDepth 100000 in
theorem wmcX5_size : Cond.code yX5_size cX5_size 2 (some .int) ∈ gW := gW_at 578 rfl rfl
abbrev cX5_checkOf : ByteArray := prog_7_method_9_code
def yX5_checkOf : MethodName := ⟨RX5, "checkOf", "(I)I"⟩
abbrev wsX5_checkOf : List Cond := .code yX5_checkOf cX5_checkOf 5 (some .int) :: gW
set_option maxRecDepth 100000 in
theorem wmcX5_checkOf : Cond.code yX5_checkOf cX5_checkOf 5 (some .int) ∈ gW := gW_at 586 rfl rfl
abbrev cX5_check : ByteArray := prog_7_method_10_code
def yX5_check : MethodName := ⟨RX5, "check", "(I)I"⟩
abbrev wsX5_check : List Cond := .code yX5_check cX5_check 2 (some .int) :: gW
set_option maxRecDepth 100000 in
theorem wmcX5_check : Cond.code yX5_check cX5_check 2 (some .int) ∈ gW := gW_at 582 rfl rfl
abbrev cX5_runOf : ByteArray := prog_7_method_11_code
def yX5_runOf : MethodName := ⟨RX5, "runOf", "(II)I"⟩
abbrev wsX5_runOf : List Cond := .code yX5_runOf cX5_runOf 4 (some .int) :: gW
set_option maxRecDepth 100000 in
theorem wmcX5_runOf : Cond.code yX5_runOf cX5_runOf 4 (some .int) ∈ gW := gW_at 599 rfl rfl
abbrev cX5_findSteps : ByteArray := prog_7_method_12_code
def yX5_findSteps : MethodName := ⟨RX5, "findSteps", "()V"⟩
abbrev wsX5_findSteps : List Cond := .code yX5_findSteps cX5_findSteps 6 none :: gW
set_option maxRecDepth 100000 in
theorem wmcX5_findSteps : Cond.code yX5_findSteps cX5_findSteps 6 none ∈ gW := gW_at 595 rfl rfl
abbrev cX5_put : ByteArray := prog_7_method_13_code
def yX5_put : MethodName := ⟨RX5, "put", "(I)V"⟩
abbrev wsX5_put : List Cond := .code yX5_put cX5_put 2 none :: gW
set_option maxRecDepth 100000 in
theorem wmcX5_put : Cond.code yX5_put cX5_put 2 none ∈ gW := gW_at 607 rfl rfl
abbrev cX5_putNumber : ByteArray := prog_7_method_14_code
def yX5_putNumber : MethodName := ⟨RX5, "putNumber", "(I)V"⟩
abbrev wsX5_putNumber : List Cond := .code yX5_putNumber cX5_putNumber 3 none :: gW
set_option maxRecDepth 100000 in
theorem wmcX5_putNumber : Cond.code yX5_putNumber cX5_putNumber 3 none ∈ gW := gW_at 603 rfl rfl
abbrev cX5_putCheck : ByteArray := prog_7_method_15_code
def yX5_putCheck : MethodName := ⟨RX5, "putCheck", "(I)V"⟩
abbrev wsX5_putCheck : List Cond := .code yX5_putCheck cX5_putCheck 3 none :: gW
set_option maxRecDepth 100000 in
theorem wmcX5_putCheck : Cond.code yX5_putCheck cX5_putCheck 3 none ∈ gW := gW_at 611 rfl rfl
abbrev cX5_make : ByteArray := prog_7_method_16_code
def yX5_make : MethodName := ⟨RX5, "make", "()I"⟩
abbrev wsX5_make : List Cond := .code yX5_make cX5_make 5 (some .int) :: gW
set_option maxRecDepth 100000 in
theorem wmcX5_make : Cond.code yX5_make cX5_make 5 (some .int) ∈ gW := gW_at 591 rfl rfl
abbrev cX5_steps : ByteArray := prog_7_method_17_code
def yX5_steps : MethodName := ⟨RX5, "steps", "()I"⟩
abbrev wsX5_steps : List Cond := .code yX5_steps cX5_steps 1 (some .int) :: gW
set_option maxRecDepth 100000 in
theorem wmcX5_steps : Cond.code yX5_steps cX5_steps 1 (some .int) ∈ gW := gW_at 615 rfl rfl
abbrev cX5_step : ByteArray := prog_7_method_18_code
def yX5_step : MethodName := ⟨RX5, "step", "(II)I"⟩
abbrev wsX5_step : List Cond := .code yX5_step cX5_step 3 (some .int) :: gW
set_option maxRecDepth 100000 in
theorem wmcX5_step : Cond.code yX5_step cX5_step 3 (some .int) ∈ gW := gW_at 619 rfl rfl
abbrev cX5_next : ByteArray := prog_7_method_19_code
def yX5_next : MethodName := ⟨RX5, "next", "()I"⟩
abbrev wsX5_next : List Cond := .code yX5_next cX5_next 1 (some .int) :: gW
set_option maxRecDepth 100000 in
theorem wmcX5_next : Cond.code yX5_next cX5_next 1 (some .int) ∈ gW := gW_at 635 rfl rfl
abbrev cX5_nextNumber : ByteArray := prog_7_method_20_code
def yX5_nextNumber : MethodName := ⟨RX5, "nextNumber", "()I"⟩
abbrev wsX5_nextNumber : List Cond := .code yX5_nextNumber cX5_nextNumber 4 (some .int) :: gW
set_option maxRecDepth 100000 in
theorem wmcX5_nextNumber : Cond.code yX5_nextNumber cX5_nextNumber 4 (some .int) ∈ gW := gW_at 631 rfl rfl
abbrev cX5_nextCheck : ByteArray := prog_7_method_21_code
def yX5_nextCheck : MethodName := ⟨RX5, "nextCheck", "()I"⟩
abbrev wsX5_nextCheck : List Cond := .code yX5_nextCheck cX5_nextCheck 3 (some .int) :: gW
set_option maxRecDepth 100000 in
theorem wmcX5_nextCheck : Cond.code yX5_nextCheck cX5_nextCheck 3 (some .int) ∈ gW := gW_at 639 rfl rfl
abbrev cX5_applied : ByteArray := prog_7_method_22_code
def yX5_applied : MethodName := ⟨RX5, "applied", "()I"⟩
abbrev wsX5_applied : List Cond := .code yX5_applied cX5_applied 10 (some .int) :: gW
set_option maxRecDepth 100000 in
theorem wmcX5_applied : Cond.code yX5_applied cX5_applied 10 (some .int) ∈ gW := gW_at 627 rfl rfl
abbrev cX5_apply : ByteArray := prog_7_method_23_code
def yX5_apply : MethodName := ⟨RX5, "apply", "()I"⟩
abbrev wsX5_apply : List Cond := .code yX5_apply cX5_apply 2 (some .int) :: gW
set_option maxRecDepth 100000 in
theorem wmcX5_apply : Cond.code yX5_apply cX5_apply 2 (some .int) ∈ gW := gW_at 623 rfl rfl
abbrev cX5_meets : ByteArray := prog_7_method_24_code
def yX5_meets : MethodName := ⟨RX5, "meets", "(IIII)Z"⟩
abbrev wsX5_meets : List Cond := .code yX5_meets cX5_meets 4 (some .boolean) :: gW
set_option maxRecDepth 100000 in
theorem wmcX5_meets : Cond.code yX5_meets cX5_meets 4 (some .boolean) ∈ gW := gW_at 650 rfl rfl
abbrev cX5_isFree : ByteArray := prog_7_method_25_code
def yX5_isFree : MethodName := ⟨RX5, "isFree", "(I)Z"⟩
abbrev wsX5_isFree : List Cond := .code yX5_isFree cX5_isFree 4 (some .boolean) :: gW
set_option maxRecDepth 100000 in
theorem wmcX5_isFree : Cond.code yX5_isFree cX5_isFree 4 (some .boolean) ∈ gW := gW_at 647 rfl rfl
abbrev cX5_shortest : ByteArray := prog_7_method_26_code
def yX5_shortest : MethodName := ⟨RX5, "shortest", "()I"⟩
abbrev wsX5_shortest : List Cond := .code yX5_shortest cX5_shortest 3 (some .int) :: gW
set_option maxRecDepth 100000 in
theorem wmcX5_shortest : Cond.code yX5_shortest cX5_shortest 3 (some .int) ∈ gW := gW_at 654 rfl rfl
abbrev cX5_inPlace : ByteArray := prog_7_method_27_code
def yX5_inPlace : MethodName := ⟨RX5, "inPlace", "()I"⟩
abbrev wsX5_inPlace : List Cond := .code yX5_inPlace cX5_inPlace 6 (some .int) :: gW
set_option maxRecDepth 100000 in
theorem wmcX5_inPlace : Cond.code yX5_inPlace cX5_inPlace 6 (some .int) ∈ gW := gW_at 643 rfl rfl
abbrev cX5_write : ByteArray := prog_7_method_28_code
def yX5_write : MethodName := ⟨RX5, "write", "(I)V"⟩
abbrev wsX5_write : List Cond := .code yX5_write cX5_write 3 none :: gW
set_option maxRecDepth 100000 in
theorem wmcX5_write : Cond.code yX5_write cX5_write 3 none ∈ gW := gW_at 658 rfl rfl
set_option maxRecDepth 100000 in
theorem wm0 : Cond.selects "DeltaMaker" ⟨"DeltaMaker", "rowNamed", "(I)LDeltaMaker$Row;"⟩ ⟨"DeltaMaker", "rowNamed", "(I)LDeltaMaker$Row;"⟩ ∈ gW := gW_at 0 rfl rfl
set_option maxRecDepth 100000 in
theorem wm1 : Cond.selects "DeltaMaker$Plan" ⟨"DeltaMaker$Plan", "placeOfLongestRun", "(I)I"⟩ ⟨"DeltaMaker$Plan", "placeOfLongestRun", "(I)I"⟩ ∈ gW := gW_at 1 rfl rfl
set_option maxRecDepth 100000 in
theorem wm2 : Cond.selects "DeltaMaker$Plan" ⟨"DeltaMaker$Plan", "append", "(III)V"⟩ ⟨"DeltaMaker$Plan", "append", "(III)V"⟩ ∈ gW := gW_at 2 rfl rfl
set_option maxRecDepth 100000 in
theorem wm3 : Cond.selects "DeltaMaker$Plan" ⟨"DeltaMaker$Plan", "addByte", "(I)V"⟩ ⟨"DeltaMaker$Plan", "addByte", "(I)V"⟩ ∈ gW := gW_at 3 rfl rfl
set_option maxRecDepth 100000 in
theorem wm4 : Cond.selects "DeltaMaker$Applier" ⟨"DeltaMaker$Applier", "readHead", "()I"⟩ ⟨"DeltaMaker$Applier", "readHead", "()I"⟩ ∈ gW := gW_at 4 rfl rfl
set_option maxRecDepth 100000 in
theorem wm5 : Cond.selects "DeltaMaker$Applier" ⟨"DeltaMaker$Applier", "readVarint", "()I"⟩ ⟨"DeltaMaker$Applier", "readVarint", "()I"⟩ ∈ gW := gW_at 5 rfl rfl
set_option maxRecDepth 100000 in
theorem wm6 : Cond.selects "DeltaMaker$Applier" ⟨"DeltaMaker$Applier", "unread", "()I"⟩ ⟨"DeltaMaker$Applier", "unread", "()I"⟩ ∈ gW := gW_at 6 rfl rfl
set_option maxRecDepth 100000 in
theorem wm7 : Cond.selects "DeltaMaker$Applier" ⟨"DeltaMaker$Applier", "readWord", "()I"⟩ ⟨"DeltaMaker$Applier", "readWord", "()I"⟩ ∈ gW := gW_at 7 rfl rfl
set_option maxRecDepth 100000 in
theorem wm8 : Cond.selects "DeltaMaker$Applier" ⟨"DeltaMaker$Applier", "doAll", "()I"⟩ ⟨"DeltaMaker$Applier", "doAll", "()I"⟩ ∈ gW := gW_at 8 rfl rfl
set_option maxRecDepth 100000 in
theorem wm9 : Cond.selects "DeltaMaker$Applier" ⟨"DeltaMaker$Applier", "doNext", "()I"⟩ ⟨"DeltaMaker$Applier", "doNext", "()I"⟩ ∈ gW := gW_at 9 rfl rfl
set_option maxRecDepth 100000 in
theorem wm10 : Cond.selects "DeltaMaker$Applier" ⟨"DeltaMaker$Applier", "doAdd", "(I)I"⟩ ⟨"DeltaMaker$Applier", "doAdd", "(I)I"⟩ ∈ gW := gW_at 10 rfl rfl
set_option maxRecDepth 100000 in
theorem wm11 : Cond.selects "DeltaMaker$Applier" ⟨"DeltaMaker$Applier", "doCopy", "(I)I"⟩ ⟨"DeltaMaker$Applier", "doCopy", "(I)I"⟩ ∈ gW := gW_at 11 rfl rfl
set_option maxRecDepth 100000 in
theorem wm12 : Cond.selects "DeltaMaker$Applier" ⟨"DeltaMaker$Applier", "judgeResult", "()I"⟩ ⟨"DeltaMaker$Applier", "judgeResult", "()I"⟩ ∈ gW := gW_at 12 rfl rfl
set_option maxRecDepth 100000 in
theorem wm13 : Cond.selects "DeltaMaker$Placer" ⟨"DeltaMaker$Placer", "countBlockers", "()V"⟩ ⟨"DeltaMaker$Placer", "countBlockers", "()V"⟩ ∈ gW := gW_at 13 rfl rfl
set_option maxRecDepth 100000 in
theorem wm14 : Cond.selects "DeltaMaker$Placer" ⟨"DeltaMaker$Placer", "changeBlockers", "(II)V"⟩ ⟨"DeltaMaker$Placer", "changeBlockers", "(II)V"⟩ ∈ gW := gW_at 14 rfl rfl
set_option maxRecDepth 100000 in
theorem wm15 : Cond.selects "DeltaMaker$Placer" ⟨"DeltaMaker$Placer", "nextFree", "()I"⟩ ⟨"DeltaMaker$Placer", "nextFree", "()I"⟩ ∈ gW := gW_at 15 rfl rfl
set_option maxRecDepth 100000 in
theorem wm16 : Cond.selects "DeltaMaker$Placer" ⟨"DeltaMaker$Placer", "carryOut", "(I)V"⟩ ⟨"DeltaMaker$Placer", "carryOut", "(I)V"⟩ ∈ gW := gW_at 16 rfl rfl
set_option maxRecDepth 100000 in
theorem wm17 : Cond.selects "DeltaMaker$Placer" ⟨"DeltaMaker$Placer", "wantsMemory", "(I)Z"⟩ ⟨"DeltaMaker$Placer", "wantsMemory", "(I)Z"⟩ ∈ gW := gW_at 17 rfl rfl
set_option maxRecDepth 100000 in
theorem wm18 : Cond.selects "DeltaMaker$Placer" ⟨"DeltaMaker$Placer", "takeOutOfMemory", "(I)V"⟩ ⟨"DeltaMaker$Placer", "takeOutOfMemory", "(I)V"⟩ ∈ gW := gW_at 18 rfl rfl
set_option maxRecDepth 100000 in
theorem wm19 : Cond.selects "DeltaMaker$Placer" ⟨"DeltaMaker$Placer", "move", "(LDeltaMaker$Row;ILDeltaMaker$Row;I)V"⟩ ⟨"DeltaMaker$Placer", "move", "(LDeltaMaker$Row;ILDeltaMaker$Row;I)V"⟩ ∈ gW := gW_at 19 rfl rfl
set_option maxRecDepth 100000 in
theorem wm20 : Cond.selects "DeltaMaker$Placer" ⟨"DeltaMaker$Placer", "fewestBytes", "()I"⟩ ⟨"DeltaMaker$Placer", "fewestBytes", "()I"⟩ ∈ gW := gW_at 20 rfl rfl
set_option maxRecDepth 100000 in
theorem wm21 : Cond.selects "DeltaMaker$Placer" ⟨"DeltaMaker$Placer", "putAside", "(I)I"⟩ ⟨"DeltaMaker$Placer", "putAside", "(I)I"⟩ ∈ gW := gW_at 21 rfl rfl
set_option maxRecDepth 100000 in
theorem wm22 : Cond.selects "DeltaMakerModel" ⟨"DeltaMakerModel", "sizeOf", "(I)I"⟩ ⟨"DeltaMakerModel", "sizeOf", "(I)I"⟩ ∈ gW := gW_at 22 rfl rfl
set_option maxRecDepth 100000 in
theorem wm23 : Cond.selects "DeltaMakerModel" ⟨"DeltaMakerModel", "byteOf", "(II)I"⟩ ⟨"DeltaMakerModel", "byteOf", "(II)I"⟩ ∈ gW := gW_at 23 rfl rfl
set_option maxRecDepth 100000 in
theorem wm24 : Cond.selects "DeltaMakerModel" ⟨"DeltaMakerModel", "checkOf", "(I)I"⟩ ⟨"DeltaMakerModel", "checkOf", "(I)I"⟩ ∈ gW := gW_at 24 rfl rfl
set_option maxRecDepth 100000 in
theorem wm25 : Cond.selects "DeltaMakerModel" ⟨"DeltaMakerModel", "findSteps", "()V"⟩ ⟨"DeltaMakerModel", "findSteps", "()V"⟩ ∈ gW := gW_at 25 rfl rfl
set_option maxRecDepth 100000 in
theorem wm26 : Cond.selects "DeltaMakerModel" ⟨"DeltaMakerModel", "runOf", "(II)I"⟩ ⟨"DeltaMakerModel", "runOf", "(II)I"⟩ ∈ gW := gW_at 26 rfl rfl
set_option maxRecDepth 100000 in
theorem wm27 : Cond.selects "DeltaMakerModel" ⟨"DeltaMakerModel", "putNumber", "(I)V"⟩ ⟨"DeltaMakerModel", "putNumber", "(I)V"⟩ ∈ gW := gW_at 27 rfl rfl
set_option maxRecDepth 100000 in
theorem wm28 : Cond.selects "DeltaMakerModel" ⟨"DeltaMakerModel", "put", "(I)V"⟩ ⟨"DeltaMakerModel", "put", "(I)V"⟩ ∈ gW := gW_at 28 rfl rfl
set_option maxRecDepth 100000 in
theorem wm29 : Cond.selects "DeltaMakerModel" ⟨"DeltaMakerModel", "putCheck", "(I)V"⟩ ⟨"DeltaMakerModel", "putCheck", "(I)V"⟩ ∈ gW := gW_at 29 rfl rfl
set_option maxRecDepth 100000 in
theorem wm30 : Cond.selects "DeltaMakerModel" ⟨"DeltaMakerModel", "applied", "()I"⟩ ⟨"DeltaMakerModel", "applied", "()I"⟩ ∈ gW := gW_at 30 rfl rfl
set_option maxRecDepth 100000 in
theorem wm31 : Cond.selects "DeltaMakerModel" ⟨"DeltaMakerModel", "nextNumber", "()I"⟩ ⟨"DeltaMakerModel", "nextNumber", "()I"⟩ ∈ gW := gW_at 31 rfl rfl
set_option maxRecDepth 100000 in
theorem wm32 : Cond.selects "DeltaMakerModel" ⟨"DeltaMakerModel", "next", "()I"⟩ ⟨"DeltaMakerModel", "next", "()I"⟩ ∈ gW := gW_at 32 rfl rfl
set_option maxRecDepth 100000 in
theorem wm33 : Cond.selects "DeltaMakerModel" ⟨"DeltaMakerModel", "nextCheck", "()I"⟩ ⟨"DeltaMakerModel", "nextCheck", "()I"⟩ ∈ gW := gW_at 33 rfl rfl
set_option maxRecDepth 100000 in
theorem wm34 : Cond.selects "DeltaMakerModel" ⟨"DeltaMakerModel", "isFree", "(I)Z"⟩ ⟨"DeltaMakerModel", "isFree", "(I)Z"⟩ ∈ gW := gW_at 34 rfl rfl
set_option maxRecDepth 100000 in
theorem wm35 : Cond.selects "DeltaMakerModel" ⟨"DeltaMakerModel", "shortest", "()I"⟩ ⟨"DeltaMakerModel", "shortest", "()I"⟩ ∈ gW := gW_at 35 rfl rfl
set_option maxRecDepth 100000 in
theorem wm36 : Cond.selects "DeltaMakerModel" ⟨"DeltaMakerModel", "write", "(I)V"⟩ ⟨"DeltaMakerModel", "write", "(I)V"⟩ ∈ gW := gW_at 36 rfl rfl
set_option maxRecDepth 100000 in
theorem wm37 : (Jvm.Cond.initialized "DeltaMakerLaw") ∈ gW := gW_at 37 rfl rfl
set_option maxRecDepth 100000 in
theorem wm38 : (Jvm.Cond.initialized "DeltaMaker") ∈ gW := gW_at 38 rfl rfl
set_option maxRecDepth 100000 in
theorem wm39 : (Jvm.Cond.initialized "DeltaMaker$Row") ∈ gW := gW_at 39 rfl rfl
set_option maxRecDepth 100000 in
theorem wm40 : (Jvm.Cond.initialized "java/lang/Math") ∈ gW := gW_at 40 rfl rfl
set_option maxRecDepth 100000 in
theorem wm41 : (Jvm.Cond.initialized "DeltaMaker$Plan") ∈ gW := gW_at 41 rfl rfl
set_option maxRecDepth 100000 in
theorem wm42 : (Jvm.Cond.initialized "DeltaMaker$Applier") ∈ gW := gW_at 42 rfl rfl
set_option maxRecDepth 100000 in
theorem wm43 : (Jvm.Cond.initialized "DeltaMaker$Placer") ∈ gW := gW_at 43 rfl rfl
set_option maxRecDepth 100000 in
theorem wm44 : (Jvm.Cond.initialized "DeltaMakerModel") ∈ gW := gW_at 44 rfl rfl
set_option maxRecDepth 100000 in
theorem wm45 : (Jvm.Cond.classLink "DeltaMakerLaw" (7 : Nat) "DeltaMaker") ∈ gW := gW_at 45 rfl rfl
set_option maxRecDepth 100000 in
theorem wm46 : (Jvm.Cond.instantiable "DeltaMaker" (9 : Nat)) ∈ gW := gW_at 46 rfl rfl
set_option maxRecDepth 100000 in
theorem wm47 : (Jvm.Cond.methodLink "DeltaMakerLaw" (9 : Nat) ({ cls := "DeltaMaker", name := "<init>", desc := "()V" } : Jvm.MethodName)) ∈ gW := gW_at 47 rfl rfl
set_option maxRecDepth 100000 in
theorem wm48 : (Jvm.Cond.instanceMethod ({ cls := "DeltaMaker", name := "<init>", desc := "()V" } : Jvm.MethodName)) ∈ gW := gW_at 48 rfl rfl
set_option maxRecDepth 100000 in
theorem wm50 : (Jvm.Cond.methodLink "DeltaMaker" (3 : Nat) ({ cls := "java/lang/Object", name := "<init>", desc := "()V" } : Jvm.MethodName)) ∈ gW := gW_at 50 rfl rfl
set_option maxRecDepth 100000 in
theorem wm51 : (Jvm.Cond.instanceMethod ({ cls := "java/lang/Object", name := "<init>", desc := "()V" } : Jvm.MethodName)) ∈ gW := gW_at 51 rfl rfl
set_option maxRecDepth 100000 in
theorem wm52 : (Jvm.Cond.code ({ cls := "java/lang/Object", name := "<init>", desc := "()V" } : Jvm.MethodName) object_method_1_code (1 : Nat) (Option.none : Option Jvm.ClassFile.FieldType)) ∈ gW := gW_at 52 rfl rfl
set_option maxRecDepth 100000 in
theorem wm53 : (Jvm.Cond.classLink "DeltaMaker" (9 : Nat) "DeltaMaker$Row") ∈ gW := gW_at 53 rfl rfl
set_option maxRecDepth 100000 in
theorem wm54 : (Jvm.Cond.instantiable "DeltaMaker$Row" (2 : Nat)) ∈ gW := gW_at 54 rfl rfl
set_option maxRecDepth 100000 in
theorem wm55 : (Jvm.Cond.methodLink "DeltaMaker" (11 : Nat) ({ cls := "DeltaMaker$Row", name := "<init>", desc := "(I)V" } : Jvm.MethodName)) ∈ gW := gW_at 55 rfl rfl
set_option maxRecDepth 100000 in
theorem wm56 : (Jvm.Cond.instanceMethod ({ cls := "DeltaMaker$Row", name := "<init>", desc := "(I)V" } : Jvm.MethodName)) ∈ gW := gW_at 56 rfl rfl
set_option maxRecDepth 100000 in
theorem wm58 : (Jvm.Cond.methodLink "DeltaMaker$Row" (3 : Nat) ({ cls := "java/lang/Object", name := "<init>", desc := "()V" } : Jvm.MethodName)) ∈ gW := gW_at 58 rfl rfl
set_option maxRecDepth 100000 in
theorem wm59 : (Jvm.Cond.methodLink "DeltaMaker$Row" (9 : Nat) ({ cls := "java/lang/Math", name := "max", desc := "(II)I" } : Jvm.MethodName)) ∈ gW := gW_at 59 rfl rfl
set_option maxRecDepth 100000 in
theorem wm60 : (Jvm.Cond.static ({ cls := "java/lang/Math", name := "max", desc := "(II)I" } : Jvm.MethodName)) ∈ gW := gW_at 60 rfl rfl
set_option maxRecDepth 100000 in
theorem wm61 : (Jvm.Cond.code ({ cls := "java/lang/Math", name := "max", desc := "(II)I" } : Jvm.MethodName) prog_8_method_65_code (2 : Nat) (Option.some Jvm.ClassFile.FieldType.int)) ∈ gW := gW_at 61 rfl rfl
set_option maxRecDepth 100000 in
theorem wm62 : (Jvm.Cond.fieldLink "DeltaMaker$Row" (15 : Nat) "DeltaMaker$Row" "cells" "[I") ∈ gW := gW_at 62 rfl rfl
set_option maxRecDepth 100000 in
theorem wm63 : (Jvm.Cond.fieldLink "DeltaMaker$Row" (21 : Nat) "DeltaMaker$Row" "count" "I") ∈ gW := gW_at 63 rfl rfl
set_option maxRecDepth 100000 in
theorem wm69 : (Jvm.Cond.arrayClass Jvm.ClassFile.FieldType.int) ∈ gW := gW_at 69 rfl rfl
set_option maxRecDepth 100000 in
theorem wm70 : (Jvm.Cond.classLink "DeltaMaker" (33 : Nat) "DeltaMaker$Plan") ∈ gW := gW_at 70 rfl rfl
set_option maxRecDepth 100000 in
theorem wm71 : (Jvm.Cond.instantiable "DeltaMaker$Plan" (6 : Nat)) ∈ gW := gW_at 71 rfl rfl
set_option maxRecDepth 100000 in
theorem wm72 : (Jvm.Cond.methodLink "DeltaMaker" (35 : Nat) ({ cls := "DeltaMaker$Plan", name := "<init>", desc := "()V" } : Jvm.MethodName)) ∈ gW := gW_at 72 rfl rfl
set_option maxRecDepth 100000 in
theorem wm73 : (Jvm.Cond.instanceMethod ({ cls := "DeltaMaker$Plan", name := "<init>", desc := "()V" } : Jvm.MethodName)) ∈ gW := gW_at 73 rfl rfl
set_option maxRecDepth 100000 in
theorem wm75 : (Jvm.Cond.methodLink "DeltaMaker$Plan" (3 : Nat) ({ cls := "java/lang/Object", name := "<init>", desc := "()V" } : Jvm.MethodName)) ∈ gW := gW_at 75 rfl rfl
set_option maxRecDepth 100000 in
theorem wm76 : (Jvm.Cond.classLink "DeltaMaker$Plan" (9 : Nat) "DeltaMaker$Row") ∈ gW := gW_at 76 rfl rfl
set_option maxRecDepth 100000 in
theorem wm77 : (Jvm.Cond.methodLink "DeltaMaker$Plan" (11 : Nat) ({ cls := "DeltaMaker$Row", name := "<init>", desc := "(I)V" } : Jvm.MethodName)) ∈ gW := gW_at 77 rfl rfl
set_option maxRecDepth 100000 in
theorem wm78 : (Jvm.Cond.fieldLink "DeltaMaker$Plan" (14 : Nat) "DeltaMaker$Plan" "base" "LDeltaMaker$Row;") ∈ gW := gW_at 78 rfl rfl
set_option maxRecDepth 100000 in
theorem wm79 : (Jvm.Cond.fieldLink "DeltaMaker$Plan" (20 : Nat) "DeltaMaker$Plan" "goal" "LDeltaMaker$Row;") ∈ gW := gW_at 79 rfl rfl
set_option maxRecDepth 100000 in
theorem wm80 : (Jvm.Cond.fieldLink "DeltaMaker$Plan" (23 : Nat) "DeltaMaker$Plan" "places" "[I") ∈ gW := gW_at 80 rfl rfl
set_option maxRecDepth 100000 in
theorem wm81 : (Jvm.Cond.fieldLink "DeltaMaker$Plan" (27 : Nat) "DeltaMaker$Plan" "lengths" "[I") ∈ gW := gW_at 81 rfl rfl
set_option maxRecDepth 100000 in
theorem wm82 : (Jvm.Cond.fieldLink "DeltaMaker$Plan" (30 : Nat) "DeltaMaker$Plan" "sources" "[I") ∈ gW := gW_at 82 rfl rfl
set_option maxRecDepth 100000 in
theorem wm83 : (Jvm.Cond.fieldLink "DeltaMaker$Plan" (33 : Nat) "DeltaMaker$Plan" "count" "I") ∈ gW := gW_at 83 rfl rfl
set_option maxRecDepth 100000 in
theorem wm97 : (Jvm.Cond.classLink "DeltaMaker" (40 : Nat) "DeltaMaker$Applier") ∈ gW := gW_at 97 rfl rfl
set_option maxRecDepth 100000 in
theorem wm98 : (Jvm.Cond.instantiable "DeltaMaker$Applier" (7 : Nat)) ∈ gW := gW_at 98 rfl rfl
set_option maxRecDepth 100000 in
theorem wm99 : (Jvm.Cond.methodLink "DeltaMaker" (42 : Nat) ({ cls := "DeltaMaker$Applier", name := "<init>", desc := "(LDeltaMaker$Row;LDeltaMaker$Row;LDeltaMaker$Row;)V" } : Jvm.MethodName)) ∈ gW := gW_at 99 rfl rfl
set_option maxRecDepth 100000 in
theorem wm100 : (Jvm.Cond.instanceMethod ({ cls := "DeltaMaker$Applier", name := "<init>", desc := "(LDeltaMaker$Row;LDeltaMaker$Row;LDeltaMaker$Row;)V" } : Jvm.MethodName)) ∈ gW := gW_at 100 rfl rfl
set_option maxRecDepth 100000 in
theorem wm102 : (Jvm.Cond.methodLink "DeltaMaker$Applier" (3 : Nat) ({ cls := "java/lang/Object", name := "<init>", desc := "()V" } : Jvm.MethodName)) ∈ gW := gW_at 102 rfl rfl
set_option maxRecDepth 100000 in
theorem wm103 : (Jvm.Cond.fieldLink "DeltaMaker$Applier" (9 : Nat) "DeltaMaker$Applier" "patch" "LDeltaMaker$Row;") ∈ gW := gW_at 103 rfl rfl
set_option maxRecDepth 100000 in
theorem wm104 : (Jvm.Cond.fieldLink "DeltaMaker$Applier" (15 : Nat) "DeltaMaker$Applier" "first" "LDeltaMaker$Row;") ∈ gW := gW_at 104 rfl rfl
set_option maxRecDepth 100000 in
theorem wm105 : (Jvm.Cond.fieldLink "DeltaMaker$Applier" (18 : Nat) "DeltaMaker$Applier" "output" "LDeltaMaker$Row;") ∈ gW := gW_at 105 rfl rfl
set_option maxRecDepth 100000 in
theorem wm106 : (Jvm.Cond.fieldLink "DeltaMaker$Applier" (21 : Nat) "DeltaMaker$Applier" "at" "I") ∈ gW := gW_at 106 rfl rfl
set_option maxRecDepth 100000 in
theorem wm107 : (Jvm.Cond.fieldLink "DeltaMaker$Applier" (25 : Nat) "DeltaMaker$Applier" "behind" "I") ∈ gW := gW_at 107 rfl rfl
set_option maxRecDepth 100000 in
theorem wm108 : (Jvm.Cond.fieldLink "DeltaMaker$Applier" (28 : Nat) "DeltaMaker$Applier" "dueSize" "I") ∈ gW := gW_at 108 rfl rfl
set_option maxRecDepth 100000 in
theorem wm109 : (Jvm.Cond.fieldLink "DeltaMaker$Applier" (31 : Nat) "DeltaMaker$Applier" "dueCheck" "I") ∈ gW := gW_at 109 rfl rfl
set_option maxRecDepth 100000 in
theorem wm125 : (Jvm.Cond.classLink "DeltaMaker" (49 : Nat) "DeltaMaker$Placer") ∈ gW := gW_at 125 rfl rfl
set_option maxRecDepth 100000 in
theorem wm126 : (Jvm.Cond.instantiable "DeltaMaker$Placer" (7 : Nat)) ∈ gW := gW_at 126 rfl rfl
set_option maxRecDepth 100000 in
theorem wm127 : (Jvm.Cond.methodLink "DeltaMaker" (51 : Nat) ({ cls := "DeltaMaker$Placer", name := "<init>", desc := "(LDeltaMaker$Plan;LDeltaMaker$Row;)V" } : Jvm.MethodName)) ∈ gW := gW_at 127 rfl rfl
set_option maxRecDepth 100000 in
theorem wm128 : (Jvm.Cond.instanceMethod ({ cls := "DeltaMaker$Placer", name := "<init>", desc := "(LDeltaMaker$Plan;LDeltaMaker$Row;)V" } : Jvm.MethodName)) ∈ gW := gW_at 128 rfl rfl
set_option maxRecDepth 100000 in
theorem wm130 : (Jvm.Cond.methodLink "DeltaMaker$Placer" (3 : Nat) ({ cls := "java/lang/Object", name := "<init>", desc := "()V" } : Jvm.MethodName)) ∈ gW := gW_at 130 rfl rfl
set_option maxRecDepth 100000 in
theorem wm131 : (Jvm.Cond.classLink "DeltaMaker$Placer" (19 : Nat) "DeltaMaker$Row") ∈ gW := gW_at 131 rfl rfl
set_option maxRecDepth 100000 in
theorem wm132 : (Jvm.Cond.methodLink "DeltaMaker$Placer" (21 : Nat) ({ cls := "DeltaMaker$Row", name := "<init>", desc := "(I)V" } : Jvm.MethodName)) ∈ gW := gW_at 132 rfl rfl
set_option maxRecDepth 100000 in
theorem wm133 : (Jvm.Cond.fieldLink "DeltaMaker$Placer" (9 : Nat) "DeltaMaker$Placer" "plan" "LDeltaMaker$Plan;") ∈ gW := gW_at 133 rfl rfl
set_option maxRecDepth 100000 in
theorem wm134 : (Jvm.Cond.fieldLink "DeltaMaker$Placer" (15 : Nat) "DeltaMaker$Placer" "memory" "LDeltaMaker$Row;") ∈ gW := gW_at 134 rfl rfl
set_option maxRecDepth 100000 in
theorem wm135 : (Jvm.Cond.fieldLink "DeltaMaker$Placer" (24 : Nat) "DeltaMaker$Placer" "hand" "LDeltaMaker$Row;") ∈ gW := gW_at 135 rfl rfl
set_option maxRecDepth 100000 in
theorem wm136 : (Jvm.Cond.fieldLink "DeltaMaker$Placer" (27 : Nat) "DeltaMaker$Placer" "aside" "[Z") ∈ gW := gW_at 136 rfl rfl
set_option maxRecDepth 100000 in
theorem wm137 : (Jvm.Cond.fieldLink "DeltaMaker$Placer" (31 : Nat) "DeltaMaker$Placer" "turns" "[I") ∈ gW := gW_at 137 rfl rfl
set_option maxRecDepth 100000 in
theorem wm138 : (Jvm.Cond.fieldLink "DeltaMaker$Placer" (35 : Nat) "DeltaMaker$Placer" "blockers" "[I") ∈ gW := gW_at 138 rfl rfl
set_option maxRecDepth 100000 in
theorem wm139 : (Jvm.Cond.fieldLink "DeltaMaker$Placer" (38 : Nat) "DeltaMaker$Placer" "done" "I") ∈ gW := gW_at 139 rfl rfl
set_option maxRecDepth 100000 in
theorem wm155 : (Jvm.Cond.arrayClass Jvm.ClassFile.FieldType.boolean) ∈ gW := gW_at 155 rfl rfl
set_option maxRecDepth 100000 in
theorem wm156 : (Jvm.Cond.fieldLink "DeltaMaker" (14 : Nat) "DeltaMaker" "tape" "LDeltaMaker$Row;") ∈ gW := gW_at 156 rfl rfl
set_option maxRecDepth 100000 in
theorem wm157 : (Jvm.Cond.fieldLink "DeltaMaker" (18 : Nat) "DeltaMaker" "first" "LDeltaMaker$Row;") ∈ gW := gW_at 157 rfl rfl
set_option maxRecDepth 100000 in
theorem wm158 : (Jvm.Cond.fieldLink "DeltaMaker" (21 : Nat) "DeltaMaker" "second" "LDeltaMaker$Row;") ∈ gW := gW_at 158 rfl rfl
set_option maxRecDepth 100000 in
theorem wm159 : (Jvm.Cond.fieldLink "DeltaMaker" (24 : Nat) "DeltaMaker" "patch" "LDeltaMaker$Row;") ∈ gW := gW_at 159 rfl rfl
set_option maxRecDepth 100000 in
theorem wm160 : (Jvm.Cond.fieldLink "DeltaMaker" (27 : Nat) "DeltaMaker" "output" "LDeltaMaker$Row;") ∈ gW := gW_at 160 rfl rfl
set_option maxRecDepth 100000 in
theorem wm161 : (Jvm.Cond.fieldLink "DeltaMaker" (30 : Nat) "DeltaMaker" "memory" "LDeltaMaker$Row;") ∈ gW := gW_at 161 rfl rfl
set_option maxRecDepth 100000 in
theorem wm162 : (Jvm.Cond.fieldLink "DeltaMaker" (36 : Nat) "DeltaMaker" "plan" "LDeltaMaker$Plan;") ∈ gW := gW_at 162 rfl rfl
set_option maxRecDepth 100000 in
theorem wm163 : (Jvm.Cond.fieldLink "DeltaMaker" (45 : Nat) "DeltaMaker" "applier" "LDeltaMaker$Applier;") ∈ gW := gW_at 163 rfl rfl
set_option maxRecDepth 100000 in
theorem wm164 : (Jvm.Cond.fieldLink "DeltaMaker" (54 : Nat) "DeltaMaker" "placer" "LDeltaMaker$Placer;") ∈ gW := gW_at 164 rfl rfl
set_option maxRecDepth 100000 in
theorem wm184 : (Jvm.Cond.methodLink "DeltaMakerLaw" (15 : Nat) ({ cls := "DeltaMaker", name := "feed", desc := "(JI)Z" } : Jvm.MethodName)) ∈ gW := gW_at 184 rfl rfl
set_option maxRecDepth 100000 in
theorem wm185 : (Jvm.Cond.instanceMethod ({ cls := "DeltaMaker", name := "feed", desc := "(JI)Z" } : Jvm.MethodName)) ∈ gW := gW_at 185 rfl rfl
set_option maxRecDepth 100000 in
theorem wm186 : (Jvm.Cond.selects "DeltaMaker" ({ cls := "DeltaMaker", name := "feed", desc := "(JI)Z" } : Jvm.MethodName) ({ cls := "DeltaMaker", name := "feed", desc := "(JI)Z" } : Jvm.MethodName)) ∈ gW := gW_at 186 rfl rfl
set_option maxRecDepth 100000 in
theorem wm188 : (Jvm.Cond.methodLink "DeltaMaker" (58 : Nat) ({ cls := "DeltaMaker$Row", name := "most", desc := "()I" } : Jvm.MethodName)) ∈ gW := gW_at 188 rfl rfl
set_option maxRecDepth 100000 in
theorem wm189 : (Jvm.Cond.instanceMethod ({ cls := "DeltaMaker$Row", name := "most", desc := "()I" } : Jvm.MethodName)) ∈ gW := gW_at 189 rfl rfl
set_option maxRecDepth 100000 in
theorem wm190 : (Jvm.Cond.selects "DeltaMaker$Row" ({ cls := "DeltaMaker$Row", name := "most", desc := "()I" } : Jvm.MethodName) ({ cls := "DeltaMaker$Row", name := "most", desc := "()I" } : Jvm.MethodName)) ∈ gW := gW_at 190 rfl rfl
set_option maxRecDepth 100000 in
theorem wm192 : (Jvm.Cond.methodLink "DeltaMaker" (62 : Nat) ({ cls := "DeltaMaker$Row", name := "count", desc := "()I" } : Jvm.MethodName)) ∈ gW := gW_at 192 rfl rfl
set_option maxRecDepth 100000 in
theorem wm193 : (Jvm.Cond.instanceMethod ({ cls := "DeltaMaker$Row", name := "count", desc := "()I" } : Jvm.MethodName)) ∈ gW := gW_at 193 rfl rfl
set_option maxRecDepth 100000 in
theorem wm194 : (Jvm.Cond.selects "DeltaMaker$Row" ({ cls := "DeltaMaker$Row", name := "count", desc := "()I" } : Jvm.MethodName) ({ cls := "DeltaMaker$Row", name := "count", desc := "()I" } : Jvm.MethodName)) ∈ gW := gW_at 194 rfl rfl
set_option maxRecDepth 100000 in
theorem wm196 : (Jvm.Cond.methodLink "DeltaMaker" (65 : Nat) ({ cls := "DeltaMaker$Row", name := "add", desc := "(I)V" } : Jvm.MethodName)) ∈ gW := gW_at 196 rfl rfl
set_option maxRecDepth 100000 in
theorem wm197 : (Jvm.Cond.instanceMethod ({ cls := "DeltaMaker$Row", name := "add", desc := "(I)V" } : Jvm.MethodName)) ∈ gW := gW_at 197 rfl rfl
set_option maxRecDepth 100000 in
theorem wm198 : (Jvm.Cond.selects "DeltaMaker$Row" ({ cls := "DeltaMaker$Row", name := "add", desc := "(I)V" } : Jvm.MethodName) ({ cls := "DeltaMaker$Row", name := "add", desc := "(I)V" } : Jvm.MethodName)) ∈ gW := gW_at 198 rfl rfl
set_option maxRecDepth 100000 in
theorem wm200 : (Jvm.Cond.methodLink "DeltaMakerLaw" (20 : Nat) ({ cls := "DeltaMaker", name := "take", desc := "(I)Z" } : Jvm.MethodName)) ∈ gW := gW_at 200 rfl rfl
set_option maxRecDepth 100000 in
theorem wm201 : (Jvm.Cond.instanceMethod ({ cls := "DeltaMaker", name := "take", desc := "(I)Z" } : Jvm.MethodName)) ∈ gW := gW_at 201 rfl rfl
set_option maxRecDepth 100000 in
theorem wm202 : (Jvm.Cond.selects "DeltaMaker" ({ cls := "DeltaMaker", name := "take", desc := "(I)Z" } : Jvm.MethodName) ({ cls := "DeltaMaker", name := "take", desc := "(I)Z" } : Jvm.MethodName)) ∈ gW := gW_at 202 rfl rfl
set_option maxRecDepth 100000 in
theorem wm204 : (Jvm.Cond.methodLink "DeltaMaker" (68 : Nat) ({ cls := "DeltaMaker", name := "rowNamed", desc := "(I)LDeltaMaker$Row;" } : Jvm.MethodName)) ∈ gW := gW_at 204 rfl rfl
set_option maxRecDepth 100000 in
theorem wm206 : (Jvm.Cond.instanceMethod ({ cls := "DeltaMaker", name := "rowNamed", desc := "(I)LDeltaMaker$Row;" } : Jvm.MethodName)) ∈ gW := gW_at 206 rfl rfl
set_option maxRecDepth 100000 in
theorem wm208 : (Jvm.Cond.methodLink "DeltaMaker" (72 : Nat) ({ cls := "DeltaMaker$Row", name := "become", desc := "(LDeltaMaker$Row;)V" } : Jvm.MethodName)) ∈ gW := gW_at 208 rfl rfl
set_option maxRecDepth 100000 in
theorem wm209 : (Jvm.Cond.instanceMethod ({ cls := "DeltaMaker$Row", name := "become", desc := "(LDeltaMaker$Row;)V" } : Jvm.MethodName)) ∈ gW := gW_at 209 rfl rfl
set_option maxRecDepth 100000 in
theorem wm210 : (Jvm.Cond.selects "DeltaMaker$Row" ({ cls := "DeltaMaker$Row", name := "become", desc := "(LDeltaMaker$Row;)V" } : Jvm.MethodName) ({ cls := "DeltaMaker$Row", name := "become", desc := "(LDeltaMaker$Row;)V" } : Jvm.MethodName)) ∈ gW := gW_at 210 rfl rfl
set_option maxRecDepth 100000 in
theorem wm212 : (Jvm.Cond.methodLink "DeltaMaker$Row" (39 : Nat) ({ cls := "DeltaMaker$Row", name := "clear", desc := "()V" } : Jvm.MethodName)) ∈ gW := gW_at 212 rfl rfl
set_option maxRecDepth 100000 in
theorem wm213 : (Jvm.Cond.instanceMethod ({ cls := "DeltaMaker$Row", name := "clear", desc := "()V" } : Jvm.MethodName)) ∈ gW := gW_at 213 rfl rfl
set_option maxRecDepth 100000 in
theorem wm214 : (Jvm.Cond.selects "DeltaMaker$Row" ({ cls := "DeltaMaker$Row", name := "clear", desc := "()V" } : Jvm.MethodName) ({ cls := "DeltaMaker$Row", name := "clear", desc := "()V" } : Jvm.MethodName)) ∈ gW := gW_at 214 rfl rfl
set_option maxRecDepth 100000 in
theorem wm216 : (Jvm.Cond.methodLink "DeltaMaker$Row" (28 : Nat) ({ cls := "DeltaMaker$Row", name := "count", desc := "()I" } : Jvm.MethodName)) ∈ gW := gW_at 216 rfl rfl
set_option maxRecDepth 100000 in
theorem wm217 : (Jvm.Cond.methodLink "DeltaMaker$Row" (42 : Nat) ({ cls := "DeltaMaker$Row", name := "addFrom", desc := "(LDeltaMaker$Row;II)V" } : Jvm.MethodName)) ∈ gW := gW_at 217 rfl rfl
set_option maxRecDepth 100000 in
theorem wm218 : (Jvm.Cond.instanceMethod ({ cls := "DeltaMaker$Row", name := "addFrom", desc := "(LDeltaMaker$Row;II)V" } : Jvm.MethodName)) ∈ gW := gW_at 218 rfl rfl
set_option maxRecDepth 100000 in
theorem wm219 : (Jvm.Cond.selects "DeltaMaker$Row" ({ cls := "DeltaMaker$Row", name := "addFrom", desc := "(LDeltaMaker$Row;II)V" } : Jvm.MethodName) ({ cls := "DeltaMaker$Row", name := "addFrom", desc := "(LDeltaMaker$Row;II)V" } : Jvm.MethodName)) ∈ gW := gW_at 219 rfl rfl
set_option maxRecDepth 100000 in
theorem wm221 : (Jvm.Cond.methodLink "DeltaMaker$Row" (25 : Nat) ({ cls := "java/lang/Math", name := "min", desc := "(II)I" } : Jvm.MethodName)) ∈ gW := gW_at 221 rfl rfl
set_option maxRecDepth 100000 in
theorem wm222 : (Jvm.Cond.static ({ cls := "java/lang/Math", name := "min", desc := "(II)I" } : Jvm.MethodName)) ∈ gW := gW_at 222 rfl rfl
set_option maxRecDepth 100000 in
theorem wm223 : (Jvm.Cond.code ({ cls := "java/lang/Math", name := "min", desc := "(II)I" } : Jvm.MethodName) prog_8_method_69_code (2 : Nat) (Option.some Jvm.ClassFile.FieldType.int)) ∈ gW := gW_at 223 rfl rfl
set_option maxRecDepth 100000 in
theorem wm224 : (Jvm.Cond.methodLink "DeltaMaker$Row" (31 : Nat) ({ cls := "DeltaMaker$Row", name := "at", desc := "(I)I" } : Jvm.MethodName)) ∈ gW := gW_at 224 rfl rfl
set_option maxRecDepth 100000 in
theorem wm225 : (Jvm.Cond.instanceMethod ({ cls := "DeltaMaker$Row", name := "at", desc := "(I)I" } : Jvm.MethodName)) ∈ gW := gW_at 225 rfl rfl
set_option maxRecDepth 100000 in
theorem wm226 : (Jvm.Cond.selects "DeltaMaker$Row" ({ cls := "DeltaMaker$Row", name := "at", desc := "(I)I" } : Jvm.MethodName) ({ cls := "DeltaMaker$Row", name := "at", desc := "(I)I" } : Jvm.MethodName)) ∈ gW := gW_at 226 rfl rfl
set_option maxRecDepth 100000 in
theorem wm228 : (Jvm.Cond.methodLink "DeltaMaker$Row" (35 : Nat) ({ cls := "DeltaMaker$Row", name := "add", desc := "(I)V" } : Jvm.MethodName)) ∈ gW := gW_at 228 rfl rfl
set_option maxRecDepth 100000 in
theorem wm229 : (Jvm.Cond.methodLink "DeltaMaker" (76 : Nat) ({ cls := "DeltaMaker$Row", name := "clear", desc := "()V" } : Jvm.MethodName)) ∈ gW := gW_at 229 rfl rfl
set_option maxRecDepth 100000 in
theorem wm230 : (Jvm.Cond.methodLink "DeltaMakerLaw" (25 : Nat) ({ cls := "DeltaMaker", name := "make", desc := "()I" } : Jvm.MethodName)) ∈ gW := gW_at 230 rfl rfl
set_option maxRecDepth 100000 in
theorem wm231 : (Jvm.Cond.instanceMethod ({ cls := "DeltaMaker", name := "make", desc := "()I" } : Jvm.MethodName)) ∈ gW := gW_at 231 rfl rfl
set_option maxRecDepth 100000 in
theorem wm232 : (Jvm.Cond.selects "DeltaMaker" ({ cls := "DeltaMaker", name := "make", desc := "()I" } : Jvm.MethodName) ({ cls := "DeltaMaker", name := "make", desc := "()I" } : Jvm.MethodName)) ∈ gW := gW_at 232 rfl rfl
set_option maxRecDepth 100000 in
theorem wm234 : (Jvm.Cond.methodLink "DeltaMaker" (79 : Nat) ({ cls := "DeltaMaker$Plan", name := "layOut", desc := "(LDeltaMaker$Row;LDeltaMaker$Row;)V" } : Jvm.MethodName)) ∈ gW := gW_at 234 rfl rfl
set_option maxRecDepth 100000 in
theorem wm235 : (Jvm.Cond.instanceMethod ({ cls := "DeltaMaker$Plan", name := "layOut", desc := "(LDeltaMaker$Row;LDeltaMaker$Row;)V" } : Jvm.MethodName)) ∈ gW := gW_at 235 rfl rfl
set_option maxRecDepth 100000 in
theorem wm236 : (Jvm.Cond.selects "DeltaMaker$Plan" ({ cls := "DeltaMaker$Plan", name := "layOut", desc := "(LDeltaMaker$Row;LDeltaMaker$Row;)V" } : Jvm.MethodName) ({ cls := "DeltaMaker$Plan", name := "layOut", desc := "(LDeltaMaker$Row;LDeltaMaker$Row;)V" } : Jvm.MethodName)) ∈ gW := gW_at 236 rfl rfl
set_option maxRecDepth 100000 in
theorem wm238 : (Jvm.Cond.methodLink "DeltaMaker$Plan" (45 : Nat) ({ cls := "DeltaMaker$Row", name := "become", desc := "(LDeltaMaker$Row;)V" } : Jvm.MethodName)) ∈ gW := gW_at 238 rfl rfl
set_option maxRecDepth 100000 in
theorem wm239 : (Jvm.Cond.methodLink "DeltaMaker$Plan" (49 : Nat) ({ cls := "DeltaMaker$Row", name := "count", desc := "()I" } : Jvm.MethodName)) ∈ gW := gW_at 239 rfl rfl
set_option maxRecDepth 100000 in
theorem wm240 : (Jvm.Cond.methodLink "DeltaMaker$Plan" (52 : Nat) ({ cls := "DeltaMaker$Plan", name := "placeOfLongestRun", desc := "(I)I" } : Jvm.MethodName)) ∈ gW := gW_at 240 rfl rfl
set_option maxRecDepth 100000 in
theorem wm242 : (Jvm.Cond.instanceMethod ({ cls := "DeltaMaker$Plan", name := "placeOfLongestRun", desc := "(I)I" } : Jvm.MethodName)) ∈ gW := gW_at 242 rfl rfl
set_option maxRecDepth 100000 in
theorem wm244 : (Jvm.Cond.methodLink "DeltaMaker$Plan" (55 : Nat) ({ cls := "DeltaMaker$Row", name := "sameFrom", desc := "(ILDeltaMaker$Row;I)I" } : Jvm.MethodName)) ∈ gW := gW_at 244 rfl rfl
set_option maxRecDepth 100000 in
theorem wm245 : (Jvm.Cond.instanceMethod ({ cls := "DeltaMaker$Row", name := "sameFrom", desc := "(ILDeltaMaker$Row;I)I" } : Jvm.MethodName)) ∈ gW := gW_at 245 rfl rfl
set_option maxRecDepth 100000 in
theorem wm246 : (Jvm.Cond.selects "DeltaMaker$Row" ({ cls := "DeltaMaker$Row", name := "sameFrom", desc := "(ILDeltaMaker$Row;I)I" } : Jvm.MethodName) ({ cls := "DeltaMaker$Row", name := "sameFrom", desc := "(ILDeltaMaker$Row;I)I" } : Jvm.MethodName)) ∈ gW := gW_at 246 rfl rfl
set_option maxRecDepth 100000 in
theorem wm248 : (Jvm.Cond.methodLink "DeltaMaker$Plan" (59 : Nat) ({ cls := "DeltaMaker$Plan", name := "append", desc := "(III)V" } : Jvm.MethodName)) ∈ gW := gW_at 248 rfl rfl
set_option maxRecDepth 100000 in
theorem wm250 : (Jvm.Cond.instanceMethod ({ cls := "DeltaMaker$Plan", name := "append", desc := "(III)V" } : Jvm.MethodName)) ∈ gW := gW_at 250 rfl rfl
set_option maxRecDepth 100000 in
theorem wm252 : (Jvm.Cond.methodLink "DeltaMaker$Plan" (63 : Nat) ({ cls := "DeltaMaker$Plan", name := "addByte", desc := "(I)V" } : Jvm.MethodName)) ∈ gW := gW_at 252 rfl rfl
set_option maxRecDepth 100000 in
theorem wm254 : (Jvm.Cond.instanceMethod ({ cls := "DeltaMaker$Plan", name := "addByte", desc := "(I)V" } : Jvm.MethodName)) ∈ gW := gW_at 254 rfl rfl
set_option maxRecDepth 100000 in
theorem wm256 : (Jvm.Cond.methodLink "DeltaMaker$Plan" (41 : Nat) ({ cls := "DeltaMaker$Plan", name := "has", desc := "(I)Z" } : Jvm.MethodName)) ∈ gW := gW_at 256 rfl rfl
set_option maxRecDepth 100000 in
theorem wm257 : (Jvm.Cond.instanceMethod ({ cls := "DeltaMaker$Plan", name := "has", desc := "(I)Z" } : Jvm.MethodName)) ∈ gW := gW_at 257 rfl rfl
set_option maxRecDepth 100000 in
theorem wm258 : (Jvm.Cond.selects "DeltaMaker$Plan" ({ cls := "DeltaMaker$Plan", name := "has", desc := "(I)Z" } : Jvm.MethodName) ({ cls := "DeltaMaker$Plan", name := "has", desc := "(I)Z" } : Jvm.MethodName)) ∈ gW := gW_at 258 rfl rfl
set_option maxRecDepth 100000 in
theorem wm260 : (Jvm.Cond.methodLink "DeltaMaker$Plan" (66 : Nat) ({ cls := "DeltaMaker$Plan", name := "isCopy", desc := "(I)Z" } : Jvm.MethodName)) ∈ gW := gW_at 260 rfl rfl
set_option maxRecDepth 100000 in
theorem wm261 : (Jvm.Cond.instanceMethod ({ cls := "DeltaMaker$Plan", name := "isCopy", desc := "(I)Z" } : Jvm.MethodName)) ∈ gW := gW_at 261 rfl rfl
set_option maxRecDepth 100000 in
theorem wm262 : (Jvm.Cond.selects "DeltaMaker$Plan" ({ cls := "DeltaMaker$Plan", name := "isCopy", desc := "(I)Z" } : Jvm.MethodName) ({ cls := "DeltaMaker$Plan", name := "isCopy", desc := "(I)Z" } : Jvm.MethodName)) ∈ gW := gW_at 262 rfl rfl
set_option maxRecDepth 100000 in
theorem wm264 : (Jvm.Cond.methodLink "DeltaMaker$Plan" (37 : Nat) ({ cls := "DeltaMaker$Plan", name := "source", desc := "(I)I" } : Jvm.MethodName)) ∈ gW := gW_at 264 rfl rfl
set_option maxRecDepth 100000 in
theorem wm265 : (Jvm.Cond.instanceMethod ({ cls := "DeltaMaker$Plan", name := "source", desc := "(I)I" } : Jvm.MethodName)) ∈ gW := gW_at 265 rfl rfl
set_option maxRecDepth 100000 in
theorem wm266 : (Jvm.Cond.selects "DeltaMaker$Plan" ({ cls := "DeltaMaker$Plan", name := "source", desc := "(I)I" } : Jvm.MethodName) ({ cls := "DeltaMaker$Plan", name := "source", desc := "(I)I" } : Jvm.MethodName)) ∈ gW := gW_at 266 rfl rfl
set_option maxRecDepth 100000 in
theorem wm268 : (Jvm.Cond.methodLink "DeltaMaker$Plan" (69 : Nat) ({ cls := "DeltaMaker$Plan", name := "length", desc := "(I)I" } : Jvm.MethodName)) ∈ gW := gW_at 268 rfl rfl
set_option maxRecDepth 100000 in
theorem wm269 : (Jvm.Cond.instanceMethod ({ cls := "DeltaMaker$Plan", name := "length", desc := "(I)I" } : Jvm.MethodName)) ∈ gW := gW_at 269 rfl rfl
set_option maxRecDepth 100000 in
theorem wm270 : (Jvm.Cond.selects "DeltaMaker$Plan" ({ cls := "DeltaMaker$Plan", name := "length", desc := "(I)I" } : Jvm.MethodName) ({ cls := "DeltaMaker$Plan", name := "length", desc := "(I)I" } : Jvm.MethodName)) ∈ gW := gW_at 270 rfl rfl
set_option maxRecDepth 100000 in
theorem wm272 : (Jvm.Cond.methodLink "DeltaMaker" (83 : Nat) ({ cls := "DeltaMaker$Placer", name := "forget", desc := "()V" } : Jvm.MethodName)) ∈ gW := gW_at 272 rfl rfl
set_option maxRecDepth 100000 in
theorem wm273 : (Jvm.Cond.instanceMethod ({ cls := "DeltaMaker$Placer", name := "forget", desc := "()V" } : Jvm.MethodName)) ∈ gW := gW_at 273 rfl rfl
set_option maxRecDepth 100000 in
theorem wm274 : (Jvm.Cond.selects "DeltaMaker$Placer" ({ cls := "DeltaMaker$Placer", name := "forget", desc := "()V" } : Jvm.MethodName) ({ cls := "DeltaMaker$Placer", name := "forget", desc := "()V" } : Jvm.MethodName)) ∈ gW := gW_at 274 rfl rfl
set_option maxRecDepth 100000 in
theorem wm276 : (Jvm.Cond.methodLink "DeltaMaker" (86 : Nat) ({ cls := "DeltaMaker$Plan", name := "writeTo", desc := "(LDeltaMaker$Row;)V" } : Jvm.MethodName)) ∈ gW := gW_at 276 rfl rfl
set_option maxRecDepth 100000 in
theorem wm277 : (Jvm.Cond.instanceMethod ({ cls := "DeltaMaker$Plan", name := "writeTo", desc := "(LDeltaMaker$Row;)V" } : Jvm.MethodName)) ∈ gW := gW_at 277 rfl rfl
set_option maxRecDepth 100000 in
theorem wm278 : (Jvm.Cond.selects "DeltaMaker$Plan" ({ cls := "DeltaMaker$Plan", name := "writeTo", desc := "(LDeltaMaker$Row;)V" } : Jvm.MethodName) ({ cls := "DeltaMaker$Plan", name := "writeTo", desc := "(LDeltaMaker$Row;)V" } : Jvm.MethodName)) ∈ gW := gW_at 278 rfl rfl
set_option maxRecDepth 100000 in
theorem wm280 : (Jvm.Cond.methodLink "DeltaMaker$Plan" (72 : Nat) ({ cls := "DeltaMaker$Row", name := "clear", desc := "()V" } : Jvm.MethodName)) ∈ gW := gW_at 280 rfl rfl
set_option maxRecDepth 100000 in
theorem wm281 : (Jvm.Cond.methodLink "DeltaMaker$Plan" (75 : Nat) ({ cls := "DeltaMaker$Row", name := "addVarint", desc := "(I)V" } : Jvm.MethodName)) ∈ gW := gW_at 281 rfl rfl
set_option maxRecDepth 100000 in
theorem wm282 : (Jvm.Cond.instanceMethod ({ cls := "DeltaMaker$Row", name := "addVarint", desc := "(I)V" } : Jvm.MethodName)) ∈ gW := gW_at 282 rfl rfl
set_option maxRecDepth 100000 in
theorem wm283 : (Jvm.Cond.selects "DeltaMaker$Row" ({ cls := "DeltaMaker$Row", name := "addVarint", desc := "(I)V" } : Jvm.MethodName) ({ cls := "DeltaMaker$Row", name := "addVarint", desc := "(I)V" } : Jvm.MethodName)) ∈ gW := gW_at 283 rfl rfl
set_option maxRecDepth 100000 in
theorem wm285 : (Jvm.Cond.methodLink "DeltaMaker$Plan" (78 : Nat) ({ cls := "DeltaMaker$Row", name := "digest", desc := "()I" } : Jvm.MethodName)) ∈ gW := gW_at 285 rfl rfl
set_option maxRecDepth 100000 in
theorem wm286 : (Jvm.Cond.instanceMethod ({ cls := "DeltaMaker$Row", name := "digest", desc := "()I" } : Jvm.MethodName)) ∈ gW := gW_at 286 rfl rfl
set_option maxRecDepth 100000 in
theorem wm287 : (Jvm.Cond.selects "DeltaMaker$Row" ({ cls := "DeltaMaker$Row", name := "digest", desc := "()I" } : Jvm.MethodName) ({ cls := "DeltaMaker$Row", name := "digest", desc := "()I" } : Jvm.MethodName)) ∈ gW := gW_at 287 rfl rfl
set_option maxRecDepth 100000 in
theorem wm289 : (Jvm.Cond.constant "DeltaMaker$Row" (46 : Nat) (-2048144777 : Int32)) ∈ gW := gW_at 289 rfl rfl
set_option maxRecDepth 100000 in
theorem wm290 : (Jvm.Cond.methodLink "DeltaMaker$Plan" (81 : Nat) ({ cls := "DeltaMaker$Row", name := "addWord", desc := "(I)V" } : Jvm.MethodName)) ∈ gW := gW_at 290 rfl rfl
set_option maxRecDepth 100000 in
theorem wm291 : (Jvm.Cond.instanceMethod ({ cls := "DeltaMaker$Row", name := "addWord", desc := "(I)V" } : Jvm.MethodName)) ∈ gW := gW_at 291 rfl rfl
set_option maxRecDepth 100000 in
theorem wm292 : (Jvm.Cond.selects "DeltaMaker$Row" ({ cls := "DeltaMaker$Row", name := "addWord", desc := "(I)V" } : Jvm.MethodName) ({ cls := "DeltaMaker$Row", name := "addWord", desc := "(I)V" } : Jvm.MethodName)) ∈ gW := gW_at 292 rfl rfl
set_option maxRecDepth 100000 in
theorem wm294 : (Jvm.Cond.methodLink "DeltaMaker$Plan" (84 : Nat) ({ cls := "DeltaMaker$Plan", name := "withoutSign", desc := "(I)I" } : Jvm.MethodName)) ∈ gW := gW_at 294 rfl rfl
set_option maxRecDepth 100000 in
theorem wm295 : (Jvm.Cond.static ({ cls := "DeltaMaker$Plan", name := "withoutSign", desc := "(I)I" } : Jvm.MethodName)) ∈ gW := gW_at 295 rfl rfl
set_option maxRecDepth 100000 in
theorem wm297 : (Jvm.Cond.methodLink "DeltaMaker$Plan" (87 : Nat) ({ cls := "DeltaMaker$Plan", name := "place", desc := "(I)I" } : Jvm.MethodName)) ∈ gW := gW_at 297 rfl rfl
set_option maxRecDepth 100000 in
theorem wm298 : (Jvm.Cond.instanceMethod ({ cls := "DeltaMaker$Plan", name := "place", desc := "(I)I" } : Jvm.MethodName)) ∈ gW := gW_at 298 rfl rfl
set_option maxRecDepth 100000 in
theorem wm299 : (Jvm.Cond.selects "DeltaMaker$Plan" ({ cls := "DeltaMaker$Plan", name := "place", desc := "(I)I" } : Jvm.MethodName) ({ cls := "DeltaMaker$Plan", name := "place", desc := "(I)I" } : Jvm.MethodName)) ∈ gW := gW_at 299 rfl rfl
set_option maxRecDepth 100000 in
theorem wm301 : (Jvm.Cond.methodLink "DeltaMaker$Plan" (90 : Nat) ({ cls := "DeltaMaker$Row", name := "addFrom", desc := "(LDeltaMaker$Row;II)V" } : Jvm.MethodName)) ∈ gW := gW_at 301 rfl rfl
set_option maxRecDepth 100000 in
theorem wm302 : (Jvm.Cond.methodLink "DeltaMakerLaw" (30 : Nat) ({ cls := "DeltaMaker", name := "byteAt", desc := "(II)I" } : Jvm.MethodName)) ∈ gW := gW_at 302 rfl rfl
set_option maxRecDepth 100000 in
theorem wm303 : (Jvm.Cond.instanceMethod ({ cls := "DeltaMaker", name := "byteAt", desc := "(II)I" } : Jvm.MethodName)) ∈ gW := gW_at 303 rfl rfl
set_option maxRecDepth 100000 in
theorem wm304 : (Jvm.Cond.selects "DeltaMaker" ({ cls := "DeltaMaker", name := "byteAt", desc := "(II)I" } : Jvm.MethodName) ({ cls := "DeltaMaker", name := "byteAt", desc := "(II)I" } : Jvm.MethodName)) ∈ gW := gW_at 304 rfl rfl
set_option maxRecDepth 100000 in
theorem wm306 : (Jvm.Cond.methodLink "DeltaMaker" (89 : Nat) ({ cls := "DeltaMaker$Row", name := "at", desc := "(I)I" } : Jvm.MethodName)) ∈ gW := gW_at 306 rfl rfl
set_option maxRecDepth 100000 in
theorem wm307 : (Jvm.Cond.methodLink "DeltaMakerLaw" (35 : Nat) ({ cls := "DeltaMaker", name := "size", desc := "(I)I" } : Jvm.MethodName)) ∈ gW := gW_at 307 rfl rfl
set_option maxRecDepth 100000 in
theorem wm308 : (Jvm.Cond.instanceMethod ({ cls := "DeltaMaker", name := "size", desc := "(I)I" } : Jvm.MethodName)) ∈ gW := gW_at 308 rfl rfl
set_option maxRecDepth 100000 in
theorem wm309 : (Jvm.Cond.selects "DeltaMaker" ({ cls := "DeltaMaker", name := "size", desc := "(I)I" } : Jvm.MethodName) ({ cls := "DeltaMaker", name := "size", desc := "(I)I" } : Jvm.MethodName)) ∈ gW := gW_at 309 rfl rfl
set_option maxRecDepth 100000 in
theorem wm311 : (Jvm.Cond.methodLink "DeltaMakerLaw" (40 : Nat) ({ cls := "DeltaMaker", name := "steps", desc := "()I" } : Jvm.MethodName)) ∈ gW := gW_at 311 rfl rfl
set_option maxRecDepth 100000 in
theorem wm312 : (Jvm.Cond.instanceMethod ({ cls := "DeltaMaker", name := "steps", desc := "()I" } : Jvm.MethodName)) ∈ gW := gW_at 312 rfl rfl
set_option maxRecDepth 100000 in
theorem wm313 : (Jvm.Cond.selects "DeltaMaker" ({ cls := "DeltaMaker", name := "steps", desc := "()I" } : Jvm.MethodName) ({ cls := "DeltaMaker", name := "steps", desc := "()I" } : Jvm.MethodName)) ∈ gW := gW_at 313 rfl rfl
set_option maxRecDepth 100000 in
theorem wm315 : (Jvm.Cond.methodLink "DeltaMaker" (93 : Nat) ({ cls := "DeltaMaker$Plan", name := "count", desc := "()I" } : Jvm.MethodName)) ∈ gW := gW_at 315 rfl rfl
set_option maxRecDepth 100000 in
theorem wm316 : (Jvm.Cond.instanceMethod ({ cls := "DeltaMaker$Plan", name := "count", desc := "()I" } : Jvm.MethodName)) ∈ gW := gW_at 316 rfl rfl
set_option maxRecDepth 100000 in
theorem wm317 : (Jvm.Cond.selects "DeltaMaker$Plan" ({ cls := "DeltaMaker$Plan", name := "count", desc := "()I" } : Jvm.MethodName) ({ cls := "DeltaMaker$Plan", name := "count", desc := "()I" } : Jvm.MethodName)) ∈ gW := gW_at 317 rfl rfl
set_option maxRecDepth 100000 in
theorem wm319 : (Jvm.Cond.methodLink "DeltaMakerLaw" (44 : Nat) ({ cls := "DeltaMaker", name := "step", desc := "(II)I" } : Jvm.MethodName)) ∈ gW := gW_at 319 rfl rfl
set_option maxRecDepth 100000 in
theorem wm320 : (Jvm.Cond.instanceMethod ({ cls := "DeltaMaker", name := "step", desc := "(II)I" } : Jvm.MethodName)) ∈ gW := gW_at 320 rfl rfl
set_option maxRecDepth 100000 in
theorem wm321 : (Jvm.Cond.selects "DeltaMaker" ({ cls := "DeltaMaker", name := "step", desc := "(II)I" } : Jvm.MethodName) ({ cls := "DeltaMaker", name := "step", desc := "(II)I" } : Jvm.MethodName)) ∈ gW := gW_at 321 rfl rfl
set_option maxRecDepth 100000 in
theorem wm323 : (Jvm.Cond.methodLink "DeltaMaker" (94 : Nat) ({ cls := "DeltaMaker$Plan", name := "has", desc := "(I)Z" } : Jvm.MethodName)) ∈ gW := gW_at 323 rfl rfl
set_option maxRecDepth 100000 in
theorem wm324 : (Jvm.Cond.methodLink "DeltaMaker" (98 : Nat) ({ cls := "DeltaMaker$Plan", name := "isCopy", desc := "(I)Z" } : Jvm.MethodName)) ∈ gW := gW_at 324 rfl rfl
set_option maxRecDepth 100000 in
theorem wm325 : (Jvm.Cond.methodLink "DeltaMaker" (101 : Nat) ({ cls := "DeltaMaker$Plan", name := "place", desc := "(I)I" } : Jvm.MethodName)) ∈ gW := gW_at 325 rfl rfl
set_option maxRecDepth 100000 in
theorem wm326 : (Jvm.Cond.methodLink "DeltaMaker" (104 : Nat) ({ cls := "DeltaMaker$Plan", name := "length", desc := "(I)I" } : Jvm.MethodName)) ∈ gW := gW_at 326 rfl rfl
set_option maxRecDepth 100000 in
theorem wm327 : (Jvm.Cond.methodLink "DeltaMaker" (107 : Nat) ({ cls := "DeltaMaker$Plan", name := "source", desc := "(I)I" } : Jvm.MethodName)) ∈ gW := gW_at 327 rfl rfl
set_option maxRecDepth 100000 in
theorem wm328 : (Jvm.Cond.methodLink "DeltaMaker" (110 : Nat) ({ cls := "DeltaMaker$Placer", name := "wasPutAside", desc := "(I)Z" } : Jvm.MethodName)) ∈ gW := gW_at 328 rfl rfl
set_option maxRecDepth 100000 in
theorem wm329 : (Jvm.Cond.instanceMethod ({ cls := "DeltaMaker$Placer", name := "wasPutAside", desc := "(I)Z" } : Jvm.MethodName)) ∈ gW := gW_at 329 rfl rfl
set_option maxRecDepth 100000 in
theorem wm330 : (Jvm.Cond.selects "DeltaMaker$Placer" ({ cls := "DeltaMaker$Placer", name := "wasPutAside", desc := "(I)Z" } : Jvm.MethodName) ({ cls := "DeltaMaker$Placer", name := "wasPutAside", desc := "(I)Z" } : Jvm.MethodName)) ∈ gW := gW_at 330 rfl rfl
set_option maxRecDepth 100000 in
theorem wm332 : (Jvm.Cond.methodLink "DeltaMaker" (113 : Nat) ({ cls := "DeltaMaker$Placer", name := "turnOf", desc := "(I)I" } : Jvm.MethodName)) ∈ gW := gW_at 332 rfl rfl
set_option maxRecDepth 100000 in
theorem wm333 : (Jvm.Cond.instanceMethod ({ cls := "DeltaMaker$Placer", name := "turnOf", desc := "(I)I" } : Jvm.MethodName)) ∈ gW := gW_at 333 rfl rfl
set_option maxRecDepth 100000 in
theorem wm334 : (Jvm.Cond.selects "DeltaMaker$Placer" ({ cls := "DeltaMaker$Placer", name := "turnOf", desc := "(I)I" } : Jvm.MethodName) ({ cls := "DeltaMaker$Placer", name := "turnOf", desc := "(I)I" } : Jvm.MethodName)) ∈ gW := gW_at 334 rfl rfl
set_option maxRecDepth 100000 in
theorem wm336 : (Jvm.Cond.methodLink "DeltaMakerLaw" (48 : Nat) ({ cls := "DeltaMaker", name := "apply", desc := "()I" } : Jvm.MethodName)) ∈ gW := gW_at 336 rfl rfl
set_option maxRecDepth 100000 in
theorem wm337 : (Jvm.Cond.instanceMethod ({ cls := "DeltaMaker", name := "apply", desc := "()I" } : Jvm.MethodName)) ∈ gW := gW_at 337 rfl rfl
set_option maxRecDepth 100000 in
theorem wm338 : (Jvm.Cond.selects "DeltaMaker" ({ cls := "DeltaMaker", name := "apply", desc := "()I" } : Jvm.MethodName) ({ cls := "DeltaMaker", name := "apply", desc := "()I" } : Jvm.MethodName)) ∈ gW := gW_at 338 rfl rfl
set_option maxRecDepth 100000 in
theorem wm340 : (Jvm.Cond.methodLink "DeltaMaker" (116 : Nat) ({ cls := "DeltaMaker$Applier", name := "run", desc := "()I" } : Jvm.MethodName)) ∈ gW := gW_at 340 rfl rfl
set_option maxRecDepth 100000 in
theorem wm341 : (Jvm.Cond.instanceMethod ({ cls := "DeltaMaker$Applier", name := "run", desc := "()I" } : Jvm.MethodName)) ∈ gW := gW_at 341 rfl rfl
set_option maxRecDepth 100000 in
theorem wm342 : (Jvm.Cond.selects "DeltaMaker$Applier" ({ cls := "DeltaMaker$Applier", name := "run", desc := "()I" } : Jvm.MethodName) ({ cls := "DeltaMaker$Applier", name := "run", desc := "()I" } : Jvm.MethodName)) ∈ gW := gW_at 342 rfl rfl
set_option maxRecDepth 100000 in
theorem wm344 : (Jvm.Cond.methodLink "DeltaMaker$Applier" (34 : Nat) ({ cls := "DeltaMaker$Row", name := "clear", desc := "()V" } : Jvm.MethodName)) ∈ gW := gW_at 344 rfl rfl
set_option maxRecDepth 100000 in
theorem wm345 : (Jvm.Cond.methodLink "DeltaMaker$Applier" (39 : Nat) ({ cls := "DeltaMaker$Applier", name := "readHead", desc := "()I" } : Jvm.MethodName)) ∈ gW := gW_at 345 rfl rfl
set_option maxRecDepth 100000 in
theorem wm347 : (Jvm.Cond.instanceMethod ({ cls := "DeltaMaker$Applier", name := "readHead", desc := "()I" } : Jvm.MethodName)) ∈ gW := gW_at 347 rfl rfl
set_option maxRecDepth 100000 in
theorem wm349 : (Jvm.Cond.methodLink "DeltaMaker$Applier" (52 : Nat) ({ cls := "DeltaMaker$Applier", name := "readVarint", desc := "()I" } : Jvm.MethodName)) ∈ gW := gW_at 349 rfl rfl
set_option maxRecDepth 100000 in
theorem wm351 : (Jvm.Cond.instanceMethod ({ cls := "DeltaMaker$Applier", name := "readVarint", desc := "()I" } : Jvm.MethodName)) ∈ gW := gW_at 351 rfl rfl
set_option maxRecDepth 100000 in
theorem wm353 : (Jvm.Cond.methodLink "DeltaMaker$Applier" (81 : Nat) ({ cls := "DeltaMaker$Row", name := "at", desc := "(I)I" } : Jvm.MethodName)) ∈ gW := gW_at 353 rfl rfl
set_option maxRecDepth 100000 in
theorem wm354 : (Jvm.Cond.methodLink "DeltaMaker$Applier" (55 : Nat) ({ cls := "DeltaMaker$Applier", name := "unread", desc := "()I" } : Jvm.MethodName)) ∈ gW := gW_at 354 rfl rfl
set_option maxRecDepth 100000 in
theorem wm356 : (Jvm.Cond.instanceMethod ({ cls := "DeltaMaker$Applier", name := "unread", desc := "()I" } : Jvm.MethodName)) ∈ gW := gW_at 356 rfl rfl
set_option maxRecDepth 100000 in
theorem wm358 : (Jvm.Cond.methodLink "DeltaMaker$Applier" (49 : Nat) ({ cls := "DeltaMaker$Row", name := "count", desc := "()I" } : Jvm.MethodName)) ∈ gW := gW_at 358 rfl rfl
set_option maxRecDepth 100000 in
theorem wm359 : (Jvm.Cond.methodLink "DeltaMaker$Applier" (58 : Nat) ({ cls := "DeltaMaker$Applier", name := "readWord", desc := "()I" } : Jvm.MethodName)) ∈ gW := gW_at 359 rfl rfl
set_option maxRecDepth 100000 in
theorem wm361 : (Jvm.Cond.instanceMethod ({ cls := "DeltaMaker$Applier", name := "readWord", desc := "()I" } : Jvm.MethodName)) ∈ gW := gW_at 361 rfl rfl
set_option maxRecDepth 100000 in
theorem wm363 : (Jvm.Cond.methodLink "DeltaMaker$Applier" (61 : Nat) ({ cls := "DeltaMaker$Row", name := "digest", desc := "()I" } : Jvm.MethodName)) ∈ gW := gW_at 363 rfl rfl
set_option maxRecDepth 100000 in
theorem wm364 : (Jvm.Cond.methodLink "DeltaMaker$Applier" (43 : Nat) ({ cls := "DeltaMaker$Applier", name := "doAll", desc := "()I" } : Jvm.MethodName)) ∈ gW := gW_at 364 rfl rfl
set_option maxRecDepth 100000 in
theorem wm366 : (Jvm.Cond.instanceMethod ({ cls := "DeltaMaker$Applier", name := "doAll", desc := "()I" } : Jvm.MethodName)) ∈ gW := gW_at 366 rfl rfl
set_option maxRecDepth 100000 in
theorem wm368 : (Jvm.Cond.methodLink "DeltaMaker$Applier" (64 : Nat) ({ cls := "DeltaMaker$Applier", name := "doNext", desc := "()I" } : Jvm.MethodName)) ∈ gW := gW_at 368 rfl rfl
set_option maxRecDepth 100000 in
theorem wm370 : (Jvm.Cond.instanceMethod ({ cls := "DeltaMaker$Applier", name := "doNext", desc := "()I" } : Jvm.MethodName)) ∈ gW := gW_at 370 rfl rfl
set_option maxRecDepth 100000 in
theorem wm372 : (Jvm.Cond.methodLink "DeltaMaker$Applier" (67 : Nat) ({ cls := "DeltaMaker$Applier", name := "doAdd", desc := "(I)I" } : Jvm.MethodName)) ∈ gW := gW_at 372 rfl rfl
set_option maxRecDepth 100000 in
theorem wm374 : (Jvm.Cond.instanceMethod ({ cls := "DeltaMaker$Applier", name := "doAdd", desc := "(I)I" } : Jvm.MethodName)) ∈ gW := gW_at 374 rfl rfl
set_option maxRecDepth 100000 in
theorem wm376 : (Jvm.Cond.methodLink "DeltaMaker$Applier" (74 : Nat) ({ cls := "DeltaMaker$Row", name := "addFrom", desc := "(LDeltaMaker$Row;II)V" } : Jvm.MethodName)) ∈ gW := gW_at 376 rfl rfl
set_option maxRecDepth 100000 in
theorem wm377 : (Jvm.Cond.methodLink "DeltaMaker$Applier" (71 : Nat) ({ cls := "DeltaMaker$Applier", name := "doCopy", desc := "(I)I" } : Jvm.MethodName)) ∈ gW := gW_at 377 rfl rfl
set_option maxRecDepth 100000 in
theorem wm379 : (Jvm.Cond.instanceMethod ({ cls := "DeltaMaker$Applier", name := "doCopy", desc := "(I)I" } : Jvm.MethodName)) ∈ gW := gW_at 379 rfl rfl
set_option maxRecDepth 100000 in
theorem wm381 : (Jvm.Cond.methodLink "DeltaMaker$Applier" (78 : Nat) ({ cls := "DeltaMaker$Applier", name := "withSign", desc := "(I)I" } : Jvm.MethodName)) ∈ gW := gW_at 381 rfl rfl
set_option maxRecDepth 100000 in
theorem wm382 : (Jvm.Cond.static ({ cls := "DeltaMaker$Applier", name := "withSign", desc := "(I)I" } : Jvm.MethodName)) ∈ gW := gW_at 382 rfl rfl
set_option maxRecDepth 100000 in
theorem wm384 : (Jvm.Cond.methodLink "DeltaMaker$Applier" (46 : Nat) ({ cls := "DeltaMaker$Applier", name := "judgeResult", desc := "()I" } : Jvm.MethodName)) ∈ gW := gW_at 384 rfl rfl
set_option maxRecDepth 100000 in
theorem wm386 : (Jvm.Cond.instanceMethod ({ cls := "DeltaMaker$Applier", name := "judgeResult", desc := "()I" } : Jvm.MethodName)) ∈ gW := gW_at 386 rfl rfl
set_option maxRecDepth 100000 in
theorem wm388 : (Jvm.Cond.methodLink "DeltaMakerLaw" (52 : Nat) ({ cls := "DeltaMaker", name := "inPlace", desc := "()I" } : Jvm.MethodName)) ∈ gW := gW_at 388 rfl rfl
set_option maxRecDepth 100000 in
theorem wm389 : (Jvm.Cond.instanceMethod ({ cls := "DeltaMaker", name := "inPlace", desc := "()I" } : Jvm.MethodName)) ∈ gW := gW_at 389 rfl rfl
set_option maxRecDepth 100000 in
theorem wm390 : (Jvm.Cond.selects "DeltaMaker" ({ cls := "DeltaMaker", name := "inPlace", desc := "()I" } : Jvm.MethodName) ({ cls := "DeltaMaker", name := "inPlace", desc := "()I" } : Jvm.MethodName)) ∈ gW := gW_at 390 rfl rfl
set_option maxRecDepth 100000 in
theorem wm392 : (Jvm.Cond.methodLink "DeltaMaker" (119 : Nat) ({ cls := "DeltaMaker$Placer", name := "run", desc := "()I" } : Jvm.MethodName)) ∈ gW := gW_at 392 rfl rfl
set_option maxRecDepth 100000 in
theorem wm393 : (Jvm.Cond.instanceMethod ({ cls := "DeltaMaker$Placer", name := "run", desc := "()I" } : Jvm.MethodName)) ∈ gW := gW_at 393 rfl rfl
set_option maxRecDepth 100000 in
theorem wm394 : (Jvm.Cond.selects "DeltaMaker$Placer" ({ cls := "DeltaMaker$Placer", name := "run", desc := "()I" } : Jvm.MethodName) ({ cls := "DeltaMaker$Placer", name := "run", desc := "()I" } : Jvm.MethodName)) ∈ gW := gW_at 394 rfl rfl
set_option maxRecDepth 100000 in
theorem wm396 : (Jvm.Cond.methodLink "DeltaMaker$Placer" (42 : Nat) ({ cls := "DeltaMaker$Placer", name := "forget", desc := "()V" } : Jvm.MethodName)) ∈ gW := gW_at 396 rfl rfl
set_option maxRecDepth 100000 in
theorem wm397 : (Jvm.Cond.methodLink "DeltaMaker$Placer" (45 : Nat) ({ cls := "DeltaMaker$Plan", name := "base", desc := "()LDeltaMaker$Row;" } : Jvm.MethodName)) ∈ gW := gW_at 397 rfl rfl
set_option maxRecDepth 100000 in
theorem wm398 : (Jvm.Cond.instanceMethod ({ cls := "DeltaMaker$Plan", name := "base", desc := "()LDeltaMaker$Row;" } : Jvm.MethodName)) ∈ gW := gW_at 398 rfl rfl
set_option maxRecDepth 100000 in
theorem wm399 : (Jvm.Cond.selects "DeltaMaker$Plan" ({ cls := "DeltaMaker$Plan", name := "base", desc := "()LDeltaMaker$Row;" } : Jvm.MethodName) ({ cls := "DeltaMaker$Plan", name := "base", desc := "()LDeltaMaker$Row;" } : Jvm.MethodName)) ∈ gW := gW_at 399 rfl rfl
set_option maxRecDepth 100000 in
theorem wm401 : (Jvm.Cond.methodLink "DeltaMaker$Placer" (51 : Nat) ({ cls := "DeltaMaker$Row", name := "become", desc := "(LDeltaMaker$Row;)V" } : Jvm.MethodName)) ∈ gW := gW_at 401 rfl rfl
set_option maxRecDepth 100000 in
theorem wm402 : (Jvm.Cond.methodLink "DeltaMaker$Placer" (55 : Nat) ({ cls := "DeltaMaker$Row", name := "count", desc := "()I" } : Jvm.MethodName)) ∈ gW := gW_at 402 rfl rfl
set_option maxRecDepth 100000 in
theorem wm403 : (Jvm.Cond.methodLink "DeltaMaker$Placer" (59 : Nat) ({ cls := "DeltaMaker$Plan", name := "goal", desc := "()LDeltaMaker$Row;" } : Jvm.MethodName)) ∈ gW := gW_at 403 rfl rfl
set_option maxRecDepth 100000 in
theorem wm404 : (Jvm.Cond.instanceMethod ({ cls := "DeltaMaker$Plan", name := "goal", desc := "()LDeltaMaker$Row;" } : Jvm.MethodName)) ∈ gW := gW_at 404 rfl rfl
set_option maxRecDepth 100000 in
theorem wm405 : (Jvm.Cond.selects "DeltaMaker$Plan" ({ cls := "DeltaMaker$Plan", name := "goal", desc := "()LDeltaMaker$Row;" } : Jvm.MethodName) ({ cls := "DeltaMaker$Plan", name := "goal", desc := "()LDeltaMaker$Row;" } : Jvm.MethodName)) ∈ gW := gW_at 405 rfl rfl
set_option maxRecDepth 100000 in
theorem wm407 : (Jvm.Cond.methodLink "DeltaMaker$Placer" (62 : Nat) ({ cls := "java/lang/Math", name := "max", desc := "(II)I" } : Jvm.MethodName)) ∈ gW := gW_at 407 rfl rfl
set_option maxRecDepth 100000 in
theorem wm408 : (Jvm.Cond.methodLink "DeltaMaker$Placer" (68 : Nat) ({ cls := "DeltaMaker$Row", name := "setCount", desc := "(I)V" } : Jvm.MethodName)) ∈ gW := gW_at 408 rfl rfl
set_option maxRecDepth 100000 in
theorem wm409 : (Jvm.Cond.instanceMethod ({ cls := "DeltaMaker$Row", name := "setCount", desc := "(I)V" } : Jvm.MethodName)) ∈ gW := gW_at 409 rfl rfl
set_option maxRecDepth 100000 in
theorem wm410 : (Jvm.Cond.selects "DeltaMaker$Row" ({ cls := "DeltaMaker$Row", name := "setCount", desc := "(I)V" } : Jvm.MethodName) ({ cls := "DeltaMaker$Row", name := "setCount", desc := "(I)V" } : Jvm.MethodName)) ∈ gW := gW_at 410 rfl rfl
set_option maxRecDepth 100000 in
theorem wm412 : (Jvm.Cond.methodLink "DeltaMaker$Placer" (71 : Nat) ({ cls := "DeltaMaker$Placer", name := "countBlockers", desc := "()V" } : Jvm.MethodName)) ∈ gW := gW_at 412 rfl rfl
set_option maxRecDepth 100000 in
theorem wm414 : (Jvm.Cond.instanceMethod ({ cls := "DeltaMaker$Placer", name := "countBlockers", desc := "()V" } : Jvm.MethodName)) ∈ gW := gW_at 414 rfl rfl
set_option maxRecDepth 100000 in
theorem wm416 : (Jvm.Cond.methodLink "DeltaMaker$Placer" (74 : Nat) ({ cls := "DeltaMaker$Plan", name := "count", desc := "()I" } : Jvm.MethodName)) ∈ gW := gW_at 416 rfl rfl
set_option maxRecDepth 100000 in
theorem wm417 : (Jvm.Cond.methodLink "DeltaMaker$Placer" (88 : Nat) ({ cls := "DeltaMaker$Plan", name := "isCopy", desc := "(I)Z" } : Jvm.MethodName)) ∈ gW := gW_at 417 rfl rfl
set_option maxRecDepth 100000 in
theorem wm418 : (Jvm.Cond.methodLink "DeltaMaker$Placer" (92 : Nat) ({ cls := "DeltaMaker$Placer", name := "changeBlockers", desc := "(II)V" } : Jvm.MethodName)) ∈ gW := gW_at 418 rfl rfl
set_option maxRecDepth 100000 in
theorem wm420 : (Jvm.Cond.instanceMethod ({ cls := "DeltaMaker$Placer", name := "changeBlockers", desc := "(II)V" } : Jvm.MethodName)) ∈ gW := gW_at 420 rfl rfl
set_option maxRecDepth 100000 in
theorem wm422 : (Jvm.Cond.methodLink "DeltaMaker$Placer" (96 : Nat) ({ cls := "DeltaMaker$Plan", name := "writesWhereTakes", desc := "(II)Z" } : Jvm.MethodName)) ∈ gW := gW_at 422 rfl rfl
set_option maxRecDepth 100000 in
theorem wm423 : (Jvm.Cond.instanceMethod ({ cls := "DeltaMaker$Plan", name := "writesWhereTakes", desc := "(II)Z" } : Jvm.MethodName)) ∈ gW := gW_at 423 rfl rfl
set_option maxRecDepth 100000 in
theorem wm424 : (Jvm.Cond.selects "DeltaMaker$Plan" ({ cls := "DeltaMaker$Plan", name := "writesWhereTakes", desc := "(II)Z" } : Jvm.MethodName) ({ cls := "DeltaMaker$Plan", name := "writesWhereTakes", desc := "(II)Z" } : Jvm.MethodName)) ∈ gW := gW_at 424 rfl rfl
set_option maxRecDepth 100000 in
theorem wm426 : (Jvm.Cond.methodLink "DeltaMaker$Placer" (75 : Nat) ({ cls := "DeltaMaker$Placer", name := "nextFree", desc := "()I" } : Jvm.MethodName)) ∈ gW := gW_at 426 rfl rfl
set_option maxRecDepth 100000 in
theorem wm428 : (Jvm.Cond.instanceMethod ({ cls := "DeltaMaker$Placer", name := "nextFree", desc := "()I" } : Jvm.MethodName)) ∈ gW := gW_at 428 rfl rfl
set_option maxRecDepth 100000 in
theorem wm430 : (Jvm.Cond.methodLink "DeltaMaker$Placer" (78 : Nat) ({ cls := "DeltaMaker$Placer", name := "carryOut", desc := "(I)V" } : Jvm.MethodName)) ∈ gW := gW_at 430 rfl rfl
set_option maxRecDepth 100000 in
theorem wm432 : (Jvm.Cond.instanceMethod ({ cls := "DeltaMaker$Placer", name := "carryOut", desc := "(I)V" } : Jvm.MethodName)) ∈ gW := gW_at 432 rfl rfl
set_option maxRecDepth 100000 in
theorem wm434 : (Jvm.Cond.methodLink "DeltaMaker$Placer" (106 : Nat) ({ cls := "DeltaMaker$Placer", name := "wantsMemory", desc := "(I)Z" } : Jvm.MethodName)) ∈ gW := gW_at 434 rfl rfl
set_option maxRecDepth 100000 in
theorem wm436 : (Jvm.Cond.instanceMethod ({ cls := "DeltaMaker$Placer", name := "wantsMemory", desc := "(I)Z" } : Jvm.MethodName)) ∈ gW := gW_at 436 rfl rfl
set_option maxRecDepth 100000 in
theorem wm438 : (Jvm.Cond.methodLink "DeltaMaker$Placer" (100 : Nat) ({ cls := "DeltaMaker$Placer", name := "turnOf", desc := "(I)I" } : Jvm.MethodName)) ∈ gW := gW_at 438 rfl rfl
set_option maxRecDepth 100000 in
theorem wm439 : (Jvm.Cond.methodLink "DeltaMaker$Placer" (103 : Nat) ({ cls := "DeltaMaker$Placer", name := "wasPutAside", desc := "(I)Z" } : Jvm.MethodName)) ∈ gW := gW_at 439 rfl rfl
set_option maxRecDepth 100000 in
theorem wm440 : (Jvm.Cond.methodLink "DeltaMaker$Placer" (112 : Nat) ({ cls := "DeltaMaker$Placer", name := "takeOutOfMemory", desc := "(I)V" } : Jvm.MethodName)) ∈ gW := gW_at 440 rfl rfl
set_option maxRecDepth 100000 in
theorem wm442 : (Jvm.Cond.instanceMethod ({ cls := "DeltaMaker$Placer", name := "takeOutOfMemory", desc := "(I)V" } : Jvm.MethodName)) ∈ gW := gW_at 442 rfl rfl
set_option maxRecDepth 100000 in
theorem wm444 : (Jvm.Cond.methodLink "DeltaMaker$Placer" (122 : Nat) ({ cls := "DeltaMaker$Plan", name := "source", desc := "(I)I" } : Jvm.MethodName)) ∈ gW := gW_at 444 rfl rfl
set_option maxRecDepth 100000 in
theorem wm445 : (Jvm.Cond.methodLink "DeltaMaker$Placer" (118 : Nat) ({ cls := "DeltaMaker$Placer", name := "move", desc := "(LDeltaMaker$Row;ILDeltaMaker$Row;I)V" } : Jvm.MethodName)) ∈ gW := gW_at 445 rfl rfl
set_option maxRecDepth 100000 in
theorem wm447 : (Jvm.Cond.instanceMethod ({ cls := "DeltaMaker$Placer", name := "move", desc := "(LDeltaMaker$Row;ILDeltaMaker$Row;I)V" } : Jvm.MethodName)) ∈ gW := gW_at 447 rfl rfl
set_option maxRecDepth 100000 in
theorem wm449 : (Jvm.Cond.methodLink "DeltaMaker$Placer" (115 : Nat) ({ cls := "DeltaMaker$Plan", name := "place", desc := "(I)I" } : Jvm.MethodName)) ∈ gW := gW_at 449 rfl rfl
set_option maxRecDepth 100000 in
theorem wm450 : (Jvm.Cond.methodLink "DeltaMaker$Placer" (109 : Nat) ({ cls := "DeltaMaker$Plan", name := "length", desc := "(I)I" } : Jvm.MethodName)) ∈ gW := gW_at 450 rfl rfl
set_option maxRecDepth 100000 in
theorem wm451 : (Jvm.Cond.methodLink "DeltaMaker$Placer" (125 : Nat) ({ cls := "DeltaMaker$Row", name := "at", desc := "(I)I" } : Jvm.MethodName)) ∈ gW := gW_at 451 rfl rfl
set_option maxRecDepth 100000 in
theorem wm452 : (Jvm.Cond.methodLink "DeltaMaker$Placer" (128 : Nat) ({ cls := "DeltaMaker$Row", name := "put", desc := "(II)V" } : Jvm.MethodName)) ∈ gW := gW_at 452 rfl rfl
set_option maxRecDepth 100000 in
theorem wm453 : (Jvm.Cond.instanceMethod ({ cls := "DeltaMaker$Row", name := "put", desc := "(II)V" } : Jvm.MethodName)) ∈ gW := gW_at 453 rfl rfl
set_option maxRecDepth 100000 in
theorem wm454 : (Jvm.Cond.selects "DeltaMaker$Row" ({ cls := "DeltaMaker$Row", name := "put", desc := "(II)V" } : Jvm.MethodName) ({ cls := "DeltaMaker$Row", name := "put", desc := "(II)V" } : Jvm.MethodName)) ∈ gW := gW_at 454 rfl rfl
set_option maxRecDepth 100000 in
theorem wm456 : (Jvm.Cond.methodLink "DeltaMaker$Placer" (81 : Nat) ({ cls := "DeltaMaker$Placer", name := "fewestBytes", desc := "()I" } : Jvm.MethodName)) ∈ gW := gW_at 456 rfl rfl
set_option maxRecDepth 100000 in
theorem wm458 : (Jvm.Cond.instanceMethod ({ cls := "DeltaMaker$Placer", name := "fewestBytes", desc := "()I" } : Jvm.MethodName)) ∈ gW := gW_at 458 rfl rfl
set_option maxRecDepth 100000 in
theorem wm460 : (Jvm.Cond.methodLink "DeltaMaker$Placer" (84 : Nat) ({ cls := "DeltaMaker$Placer", name := "putAside", desc := "(I)I" } : Jvm.MethodName)) ∈ gW := gW_at 460 rfl rfl
set_option maxRecDepth 100000 in
theorem wm462 : (Jvm.Cond.instanceMethod ({ cls := "DeltaMaker$Placer", name := "putAside", desc := "(I)I" } : Jvm.MethodName)) ∈ gW := gW_at 462 rfl rfl
set_option maxRecDepth 100000 in
theorem wm464 : (Jvm.Cond.methodLink "DeltaMakerLaw" (56 : Nat) ({ cls := "DeltaMaker", name := "check", desc := "(I)I" } : Jvm.MethodName)) ∈ gW := gW_at 464 rfl rfl
set_option maxRecDepth 100000 in
theorem wm465 : (Jvm.Cond.instanceMethod ({ cls := "DeltaMaker", name := "check", desc := "(I)I" } : Jvm.MethodName)) ∈ gW := gW_at 465 rfl rfl
set_option maxRecDepth 100000 in
theorem wm466 : (Jvm.Cond.selects "DeltaMaker" ({ cls := "DeltaMaker", name := "check", desc := "(I)I" } : Jvm.MethodName) ({ cls := "DeltaMaker", name := "check", desc := "(I)I" } : Jvm.MethodName)) ∈ gW := gW_at 466 rfl rfl
set_option maxRecDepth 100000 in
theorem wm468 : (Jvm.Cond.methodLink "DeltaMaker" (120 : Nat) ({ cls := "DeltaMaker$Row", name := "digest", desc := "()I" } : Jvm.MethodName)) ∈ gW := gW_at 468 rfl rfl
set_option maxRecDepth 100000 in
theorem wm469 : (Jvm.Cond.classLink "DeltaMakerLaw" (10 : Nat) "DeltaMakerModel") ∈ gW := gW_at 469 rfl rfl
set_option maxRecDepth 100000 in
theorem wm470 : (Jvm.Cond.instantiable "DeltaMakerModel" (26 : Nat)) ∈ gW := gW_at 470 rfl rfl
set_option maxRecDepth 100000 in
theorem wm471 : (Jvm.Cond.methodLink "DeltaMakerLaw" (12 : Nat) ({ cls := "DeltaMakerModel", name := "<init>", desc := "()V" } : Jvm.MethodName)) ∈ gW := gW_at 471 rfl rfl
set_option maxRecDepth 100000 in
theorem wm472 : (Jvm.Cond.instanceMethod ({ cls := "DeltaMakerModel", name := "<init>", desc := "()V" } : Jvm.MethodName)) ∈ gW := gW_at 472 rfl rfl
set_option maxRecDepth 100000 in
theorem wm474 : (Jvm.Cond.methodLink "DeltaMakerModel" (1 : Nat) ({ cls := "java/lang/Object", name := "<init>", desc := "()V" } : Jvm.MethodName)) ∈ gW := gW_at 474 rfl rfl
set_option maxRecDepth 100000 in
theorem wm475 : (Jvm.Cond.fieldLink "DeltaMakerModel" (52 : Nat) "DeltaMakerModel" "code" "I") ∈ gW := gW_at 475 rfl rfl
set_option maxRecDepth 100000 in
theorem wm476 : (Jvm.Cond.fieldLink "DeltaMakerModel" (7 : Nat) "DeltaMakerModel" "tape" "[I") ∈ gW := gW_at 476 rfl rfl
set_option maxRecDepth 100000 in
theorem wm477 : (Jvm.Cond.fieldLink "DeltaMakerModel" (13 : Nat) "DeltaMakerModel" "first" "[I") ∈ gW := gW_at 477 rfl rfl
set_option maxRecDepth 100000 in
theorem wm478 : (Jvm.Cond.fieldLink "DeltaMakerModel" (16 : Nat) "DeltaMakerModel" "second" "[I") ∈ gW := gW_at 478 rfl rfl
set_option maxRecDepth 100000 in
theorem wm479 : (Jvm.Cond.fieldLink "DeltaMakerModel" (19 : Nat) "DeltaMakerModel" "patch" "[I") ∈ gW := gW_at 479 rfl rfl
set_option maxRecDepth 100000 in
theorem wm480 : (Jvm.Cond.fieldLink "DeltaMakerModel" (22 : Nat) "DeltaMakerModel" "output" "[I") ∈ gW := gW_at 480 rfl rfl
set_option maxRecDepth 100000 in
theorem wm481 : (Jvm.Cond.fieldLink "DeltaMakerModel" (25 : Nat) "DeltaMakerModel" "memory" "[I") ∈ gW := gW_at 481 rfl rfl
set_option maxRecDepth 100000 in
theorem wm482 : (Jvm.Cond.fieldLink "DeltaMakerModel" (28 : Nat) "DeltaMakerModel" "aside" "[I") ∈ gW := gW_at 482 rfl rfl
set_option maxRecDepth 100000 in
theorem wm483 : (Jvm.Cond.fieldLink "DeltaMakerModel" (56 : Nat) "DeltaMakerModel" "taped" "I") ∈ gW := gW_at 483 rfl rfl
set_option maxRecDepth 100000 in
theorem wm484 : (Jvm.Cond.fieldLink "DeltaMakerModel" (61 : Nat) "DeltaMakerModel" "firstSize" "I") ∈ gW := gW_at 484 rfl rfl
set_option maxRecDepth 100000 in
theorem wm485 : (Jvm.Cond.fieldLink "DeltaMakerModel" (64 : Nat) "DeltaMakerModel" "secondSize" "I") ∈ gW := gW_at 485 rfl rfl
set_option maxRecDepth 100000 in
theorem wm486 : (Jvm.Cond.fieldLink "DeltaMakerModel" (67 : Nat) "DeltaMakerModel" "patchSize" "I") ∈ gW := gW_at 486 rfl rfl
set_option maxRecDepth 100000 in
theorem wm487 : (Jvm.Cond.fieldLink "DeltaMakerModel" (70 : Nat) "DeltaMakerModel" "outputSize" "I") ∈ gW := gW_at 487 rfl rfl
set_option maxRecDepth 100000 in
theorem wm488 : (Jvm.Cond.fieldLink "DeltaMakerModel" (73 : Nat) "DeltaMakerModel" "memorySize" "I") ∈ gW := gW_at 488 rfl rfl
set_option maxRecDepth 100000 in
theorem wm489 : (Jvm.Cond.fieldLink "DeltaMakerModel" (31 : Nat) "DeltaMakerModel" "place" "[I") ∈ gW := gW_at 489 rfl rfl
set_option maxRecDepth 100000 in
theorem wm490 : (Jvm.Cond.fieldLink "DeltaMakerModel" (34 : Nat) "DeltaMakerModel" "length" "[I") ∈ gW := gW_at 490 rfl rfl
set_option maxRecDepth 100000 in
theorem wm491 : (Jvm.Cond.fieldLink "DeltaMakerModel" (37 : Nat) "DeltaMakerModel" "from" "[I") ∈ gW := gW_at 491 rfl rfl
set_option maxRecDepth 100000 in
theorem wm492 : (Jvm.Cond.fieldLink "DeltaMakerModel" (40 : Nat) "DeltaMakerModel" "putAside" "[I") ∈ gW := gW_at 492 rfl rfl
set_option maxRecDepth 100000 in
theorem wm493 : (Jvm.Cond.fieldLink "DeltaMakerModel" (43 : Nat) "DeltaMakerModel" "order" "[I") ∈ gW := gW_at 493 rfl rfl
set_option maxRecDepth 100000 in
theorem wm494 : (Jvm.Cond.fieldLink "DeltaMakerModel" (46 : Nat) "DeltaMakerModel" "was" "[I") ∈ gW := gW_at 494 rfl rfl
set_option maxRecDepth 100000 in
theorem wm495 : (Jvm.Cond.fieldLink "DeltaMakerModel" (49 : Nat) "DeltaMakerModel" "secondThen" "[I") ∈ gW := gW_at 495 rfl rfl
set_option maxRecDepth 100000 in
theorem wm496 : (Jvm.Cond.fieldLink "DeltaMakerModel" (88 : Nat) "DeltaMakerModel" "steps" "I") ∈ gW := gW_at 496 rfl rfl
set_option maxRecDepth 100000 in
theorem wm497 : (Jvm.Cond.fieldLink "DeltaMakerModel" (101 : Nat) "DeltaMakerModel" "wasSize" "I") ∈ gW := gW_at 497 rfl rfl
set_option maxRecDepth 100000 in
theorem wm498 : (Jvm.Cond.fieldLink "DeltaMakerModel" (104 : Nat) "DeltaMakerModel" "madeSize" "I") ∈ gW := gW_at 498 rfl rfl
set_option maxRecDepth 100000 in
theorem wm499 : (Jvm.Cond.fieldLink "DeltaMakerModel" (113 : Nat) "DeltaMakerModel" "at" "I") ∈ gW := gW_at 499 rfl rfl
set_option maxRecDepth 100000 in
theorem wm500 : (Jvm.Cond.fieldLink "DeltaMakerModel" (116 : Nat) "DeltaMakerModel" "lacks" "Z") ∈ gW := gW_at 500 rfl rfl
set_option maxRecDepth 100000 in
theorem wm554 : (Jvm.Cond.methodLink "DeltaMakerLaw" (19 : Nat) ({ cls := "DeltaMakerModel", name := "feed", desc := "(JI)Z" } : Jvm.MethodName)) ∈ gW := gW_at 554 rfl rfl
set_option maxRecDepth 100000 in
theorem wm555 : (Jvm.Cond.instanceMethod ({ cls := "DeltaMakerModel", name := "feed", desc := "(JI)Z" } : Jvm.MethodName)) ∈ gW := gW_at 555 rfl rfl
set_option maxRecDepth 100000 in
theorem wm556 : (Jvm.Cond.selects "DeltaMakerModel" ({ cls := "DeltaMakerModel", name := "feed", desc := "(JI)Z" } : Jvm.MethodName) ({ cls := "DeltaMakerModel", name := "feed", desc := "(JI)Z" } : Jvm.MethodName)) ∈ gW := gW_at 556 rfl rfl
set_option maxRecDepth 100000 in
theorem wm558 : (Jvm.Cond.constantLong "DeltaMakerModel" (59 : Nat) (255 : Int64)) ∈ gW := gW_at 558 rfl rfl
set_option maxRecDepth 100000 in
theorem wm559 : (Jvm.Cond.methodLink "DeltaMakerLaw" (24 : Nat) ({ cls := "DeltaMakerModel", name := "take", desc := "(I)Z" } : Jvm.MethodName)) ∈ gW := gW_at 559 rfl rfl
set_option maxRecDepth 100000 in
theorem wm560 : (Jvm.Cond.instanceMethod ({ cls := "DeltaMakerModel", name := "take", desc := "(I)Z" } : Jvm.MethodName)) ∈ gW := gW_at 560 rfl rfl
set_option maxRecDepth 100000 in
theorem wm561 : (Jvm.Cond.selects "DeltaMakerModel" ({ cls := "DeltaMakerModel", name := "take", desc := "(I)Z" } : Jvm.MethodName) ({ cls := "DeltaMakerModel", name := "take", desc := "(I)Z" } : Jvm.MethodName)) ∈ gW := gW_at 561 rfl rfl
set_option maxRecDepth 100000 in
theorem wm563 : (Jvm.Cond.methodLink "DeltaMakerLaw" (34 : Nat) ({ cls := "DeltaMakerModel", name := "byteAt", desc := "(II)I" } : Jvm.MethodName)) ∈ gW := gW_at 563 rfl rfl
set_option maxRecDepth 100000 in
theorem wm564 : (Jvm.Cond.instanceMethod ({ cls := "DeltaMakerModel", name := "byteAt", desc := "(II)I" } : Jvm.MethodName)) ∈ gW := gW_at 564 rfl rfl
set_option maxRecDepth 100000 in
theorem wm565 : (Jvm.Cond.selects "DeltaMakerModel" ({ cls := "DeltaMakerModel", name := "byteAt", desc := "(II)I" } : Jvm.MethodName) ({ cls := "DeltaMakerModel", name := "byteAt", desc := "(II)I" } : Jvm.MethodName)) ∈ gW := gW_at 565 rfl rfl
set_option maxRecDepth 100000 in
theorem wm567 : (Jvm.Cond.methodLink "DeltaMakerModel" (76 : Nat) ({ cls := "DeltaMakerModel", name := "sizeOf", desc := "(I)I" } : Jvm.MethodName)) ∈ gW := gW_at 567 rfl rfl
set_option maxRecDepth 100000 in
theorem wm569 : (Jvm.Cond.instanceMethod ({ cls := "DeltaMakerModel", name := "sizeOf", desc := "(I)I" } : Jvm.MethodName)) ∈ gW := gW_at 569 rfl rfl
set_option maxRecDepth 100000 in
theorem wm571 : (Jvm.Cond.methodLink "DeltaMakerModel" (80 : Nat) ({ cls := "DeltaMakerModel", name := "byteOf", desc := "(II)I" } : Jvm.MethodName)) ∈ gW := gW_at 571 rfl rfl
set_option maxRecDepth 100000 in
theorem wm573 : (Jvm.Cond.instanceMethod ({ cls := "DeltaMakerModel", name := "byteOf", desc := "(II)I" } : Jvm.MethodName)) ∈ gW := gW_at 573 rfl rfl
set_option maxRecDepth 100000 in
theorem wm575 : (Jvm.Cond.methodLink "DeltaMakerLaw" (39 : Nat) ({ cls := "DeltaMakerModel", name := "size", desc := "(I)I" } : Jvm.MethodName)) ∈ gW := gW_at 575 rfl rfl
set_option maxRecDepth 100000 in
theorem wm576 : (Jvm.Cond.instanceMethod ({ cls := "DeltaMakerModel", name := "size", desc := "(I)I" } : Jvm.MethodName)) ∈ gW := gW_at 576 rfl rfl
set_option maxRecDepth 100000 in
theorem wm577 : (Jvm.Cond.selects "DeltaMakerModel" ({ cls := "DeltaMakerModel", name := "size", desc := "(I)I" } : Jvm.MethodName) ({ cls := "DeltaMakerModel", name := "size", desc := "(I)I" } : Jvm.MethodName)) ∈ gW := gW_at 577 rfl rfl
set_option maxRecDepth 100000 in
theorem wm579 : (Jvm.Cond.methodLink "DeltaMakerLaw" (59 : Nat) ({ cls := "DeltaMakerModel", name := "check", desc := "(I)I" } : Jvm.MethodName)) ∈ gW := gW_at 579 rfl rfl
set_option maxRecDepth 100000 in
theorem wm580 : (Jvm.Cond.instanceMethod ({ cls := "DeltaMakerModel", name := "check", desc := "(I)I" } : Jvm.MethodName)) ∈ gW := gW_at 580 rfl rfl
set_option maxRecDepth 100000 in
theorem wm581 : (Jvm.Cond.selects "DeltaMakerModel" ({ cls := "DeltaMakerModel", name := "check", desc := "(I)I" } : Jvm.MethodName) ({ cls := "DeltaMakerModel", name := "check", desc := "(I)I" } : Jvm.MethodName)) ∈ gW := gW_at 581 rfl rfl
set_option maxRecDepth 100000 in
theorem wm583 : (Jvm.Cond.methodLink "DeltaMakerModel" (85 : Nat) ({ cls := "DeltaMakerModel", name := "checkOf", desc := "(I)I" } : Jvm.MethodName)) ∈ gW := gW_at 583 rfl rfl
set_option maxRecDepth 100000 in
theorem wm585 : (Jvm.Cond.instanceMethod ({ cls := "DeltaMakerModel", name := "checkOf", desc := "(I)I" } : Jvm.MethodName)) ∈ gW := gW_at 585 rfl rfl
set_option maxRecDepth 100000 in
theorem wm587 : (Jvm.Cond.constant "DeltaMakerModel" (84 : Nat) (-2048144777 : Int32)) ∈ gW := gW_at 587 rfl rfl
set_option maxRecDepth 100000 in
theorem wm588 : (Jvm.Cond.methodLink "DeltaMakerLaw" (29 : Nat) ({ cls := "DeltaMakerModel", name := "make", desc := "()I" } : Jvm.MethodName)) ∈ gW := gW_at 588 rfl rfl
set_option maxRecDepth 100000 in
theorem wm589 : (Jvm.Cond.instanceMethod ({ cls := "DeltaMakerModel", name := "make", desc := "()I" } : Jvm.MethodName)) ∈ gW := gW_at 589 rfl rfl
set_option maxRecDepth 100000 in
theorem wm590 : (Jvm.Cond.selects "DeltaMakerModel" ({ cls := "DeltaMakerModel", name := "make", desc := "()I" } : Jvm.MethodName) ({ cls := "DeltaMakerModel", name := "make", desc := "()I" } : Jvm.MethodName)) ∈ gW := gW_at 590 rfl rfl
set_option maxRecDepth 100000 in
theorem wm592 : (Jvm.Cond.methodLink "DeltaMakerModel" (98 : Nat) ({ cls := "DeltaMakerModel", name := "findSteps", desc := "()V" } : Jvm.MethodName)) ∈ gW := gW_at 592 rfl rfl
set_option maxRecDepth 100000 in
theorem wm594 : (Jvm.Cond.instanceMethod ({ cls := "DeltaMakerModel", name := "findSteps", desc := "()V" } : Jvm.MethodName)) ∈ gW := gW_at 594 rfl rfl
set_option maxRecDepth 100000 in
theorem wm596 : (Jvm.Cond.methodLink "DeltaMakerModel" (91 : Nat) ({ cls := "DeltaMakerModel", name := "runOf", desc := "(II)I" } : Jvm.MethodName)) ∈ gW := gW_at 596 rfl rfl
set_option maxRecDepth 100000 in
theorem wm598 : (Jvm.Cond.instanceMethod ({ cls := "DeltaMakerModel", name := "runOf", desc := "(II)I" } : Jvm.MethodName)) ∈ gW := gW_at 598 rfl rfl
set_option maxRecDepth 100000 in
theorem wm600 : (Jvm.Cond.methodLink "DeltaMakerModel" (107 : Nat) ({ cls := "DeltaMakerModel", name := "putNumber", desc := "(I)V" } : Jvm.MethodName)) ∈ gW := gW_at 600 rfl rfl
set_option maxRecDepth 100000 in
theorem wm602 : (Jvm.Cond.instanceMethod ({ cls := "DeltaMakerModel", name := "putNumber", desc := "(I)V" } : Jvm.MethodName)) ∈ gW := gW_at 602 rfl rfl
set_option maxRecDepth 100000 in
theorem wm604 : (Jvm.Cond.methodLink "DeltaMakerModel" (94 : Nat) ({ cls := "DeltaMakerModel", name := "put", desc := "(I)V" } : Jvm.MethodName)) ∈ gW := gW_at 604 rfl rfl
set_option maxRecDepth 100000 in
theorem wm606 : (Jvm.Cond.instanceMethod ({ cls := "DeltaMakerModel", name := "put", desc := "(I)V" } : Jvm.MethodName)) ∈ gW := gW_at 606 rfl rfl
set_option maxRecDepth 100000 in
theorem wm608 : (Jvm.Cond.methodLink "DeltaMakerModel" (110 : Nat) ({ cls := "DeltaMakerModel", name := "putCheck", desc := "(I)V" } : Jvm.MethodName)) ∈ gW := gW_at 608 rfl rfl
set_option maxRecDepth 100000 in
theorem wm610 : (Jvm.Cond.instanceMethod ({ cls := "DeltaMakerModel", name := "putCheck", desc := "(I)V" } : Jvm.MethodName)) ∈ gW := gW_at 610 rfl rfl
set_option maxRecDepth 100000 in
theorem wm612 : (Jvm.Cond.methodLink "DeltaMakerLaw" (43 : Nat) ({ cls := "DeltaMakerModel", name := "steps", desc := "()I" } : Jvm.MethodName)) ∈ gW := gW_at 612 rfl rfl
set_option maxRecDepth 100000 in
theorem wm613 : (Jvm.Cond.instanceMethod ({ cls := "DeltaMakerModel", name := "steps", desc := "()I" } : Jvm.MethodName)) ∈ gW := gW_at 613 rfl rfl
set_option maxRecDepth 100000 in
theorem wm614 : (Jvm.Cond.selects "DeltaMakerModel" ({ cls := "DeltaMakerModel", name := "steps", desc := "()I" } : Jvm.MethodName) ({ cls := "DeltaMakerModel", name := "steps", desc := "()I" } : Jvm.MethodName)) ∈ gW := gW_at 614 rfl rfl
set_option maxRecDepth 100000 in
theorem wm616 : (Jvm.Cond.methodLink "DeltaMakerLaw" (47 : Nat) ({ cls := "DeltaMakerModel", name := "step", desc := "(II)I" } : Jvm.MethodName)) ∈ gW := gW_at 616 rfl rfl
set_option maxRecDepth 100000 in
theorem wm617 : (Jvm.Cond.instanceMethod ({ cls := "DeltaMakerModel", name := "step", desc := "(II)I" } : Jvm.MethodName)) ∈ gW := gW_at 617 rfl rfl
set_option maxRecDepth 100000 in
theorem wm618 : (Jvm.Cond.selects "DeltaMakerModel" ({ cls := "DeltaMakerModel", name := "step", desc := "(II)I" } : Jvm.MethodName) ({ cls := "DeltaMakerModel", name := "step", desc := "(II)I" } : Jvm.MethodName)) ∈ gW := gW_at 618 rfl rfl
set_option maxRecDepth 100000 in
theorem wm620 : (Jvm.Cond.methodLink "DeltaMakerLaw" (51 : Nat) ({ cls := "DeltaMakerModel", name := "apply", desc := "()I" } : Jvm.MethodName)) ∈ gW := gW_at 620 rfl rfl
set_option maxRecDepth 100000 in
theorem wm621 : (Jvm.Cond.instanceMethod ({ cls := "DeltaMakerModel", name := "apply", desc := "()I" } : Jvm.MethodName)) ∈ gW := gW_at 621 rfl rfl
set_option maxRecDepth 100000 in
theorem wm622 : (Jvm.Cond.selects "DeltaMakerModel" ({ cls := "DeltaMakerModel", name := "apply", desc := "()I" } : Jvm.MethodName) ({ cls := "DeltaMakerModel", name := "apply", desc := "()I" } : Jvm.MethodName)) ∈ gW := gW_at 622 rfl rfl
set_option maxRecDepth 100000 in
theorem wm624 : (Jvm.Cond.methodLink "DeltaMakerModel" (130 : Nat) ({ cls := "DeltaMakerModel", name := "applied", desc := "()I" } : Jvm.MethodName)) ∈ gW := gW_at 624 rfl rfl
set_option maxRecDepth 100000 in
theorem wm626 : (Jvm.Cond.instanceMethod ({ cls := "DeltaMakerModel", name := "applied", desc := "()I" } : Jvm.MethodName)) ∈ gW := gW_at 626 rfl rfl
set_option maxRecDepth 100000 in
theorem wm628 : (Jvm.Cond.methodLink "DeltaMakerModel" (124 : Nat) ({ cls := "DeltaMakerModel", name := "nextNumber", desc := "()I" } : Jvm.MethodName)) ∈ gW := gW_at 628 rfl rfl
set_option maxRecDepth 100000 in
theorem wm630 : (Jvm.Cond.instanceMethod ({ cls := "DeltaMakerModel", name := "nextNumber", desc := "()I" } : Jvm.MethodName)) ∈ gW := gW_at 630 rfl rfl
set_option maxRecDepth 100000 in
theorem wm632 : (Jvm.Cond.methodLink "DeltaMakerModel" (120 : Nat) ({ cls := "DeltaMakerModel", name := "next", desc := "()I" } : Jvm.MethodName)) ∈ gW := gW_at 632 rfl rfl
set_option maxRecDepth 100000 in
theorem wm634 : (Jvm.Cond.instanceMethod ({ cls := "DeltaMakerModel", name := "next", desc := "()I" } : Jvm.MethodName)) ∈ gW := gW_at 634 rfl rfl
set_option maxRecDepth 100000 in
theorem wm636 : (Jvm.Cond.methodLink "DeltaMakerModel" (127 : Nat) ({ cls := "DeltaMakerModel", name := "nextCheck", desc := "()I" } : Jvm.MethodName)) ∈ gW := gW_at 636 rfl rfl
set_option maxRecDepth 100000 in
theorem wm638 : (Jvm.Cond.instanceMethod ({ cls := "DeltaMakerModel", name := "nextCheck", desc := "()I" } : Jvm.MethodName)) ∈ gW := gW_at 638 rfl rfl
set_option maxRecDepth 100000 in
theorem wm640 : (Jvm.Cond.methodLink "DeltaMakerLaw" (55 : Nat) ({ cls := "DeltaMakerModel", name := "inPlace", desc := "()I" } : Jvm.MethodName)) ∈ gW := gW_at 640 rfl rfl
set_option maxRecDepth 100000 in
theorem wm641 : (Jvm.Cond.instanceMethod ({ cls := "DeltaMakerModel", name := "inPlace", desc := "()I" } : Jvm.MethodName)) ∈ gW := gW_at 641 rfl rfl
set_option maxRecDepth 100000 in
theorem wm642 : (Jvm.Cond.selects "DeltaMakerModel" ({ cls := "DeltaMakerModel", name := "inPlace", desc := "()I" } : Jvm.MethodName) ({ cls := "DeltaMakerModel", name := "inPlace", desc := "()I" } : Jvm.MethodName)) ∈ gW := gW_at 642 rfl rfl
set_option maxRecDepth 100000 in
theorem wm644 : (Jvm.Cond.methodLink "DeltaMakerModel" (137 : Nat) ({ cls := "DeltaMakerModel", name := "isFree", desc := "(I)Z" } : Jvm.MethodName)) ∈ gW := gW_at 644 rfl rfl
set_option maxRecDepth 100000 in
theorem wm646 : (Jvm.Cond.instanceMethod ({ cls := "DeltaMakerModel", name := "isFree", desc := "(I)Z" } : Jvm.MethodName)) ∈ gW := gW_at 646 rfl rfl
set_option maxRecDepth 100000 in
theorem wm648 : (Jvm.Cond.methodLink "DeltaMakerModel" (133 : Nat) ({ cls := "DeltaMakerModel", name := "meets", desc := "(IIII)Z" } : Jvm.MethodName)) ∈ gW := gW_at 648 rfl rfl
set_option maxRecDepth 100000 in
theorem wm649 : (Jvm.Cond.static ({ cls := "DeltaMakerModel", name := "meets", desc := "(IIII)Z" } : Jvm.MethodName)) ∈ gW := gW_at 649 rfl rfl
set_option maxRecDepth 100000 in
theorem wm651 : (Jvm.Cond.methodLink "DeltaMakerModel" (141 : Nat) ({ cls := "DeltaMakerModel", name := "shortest", desc := "()I" } : Jvm.MethodName)) ∈ gW := gW_at 651 rfl rfl
set_option maxRecDepth 100000 in
theorem wm653 : (Jvm.Cond.instanceMethod ({ cls := "DeltaMakerModel", name := "shortest", desc := "()I" } : Jvm.MethodName)) ∈ gW := gW_at 653 rfl rfl
set_option maxRecDepth 100000 in
theorem wm655 : (Jvm.Cond.methodLink "DeltaMakerModel" (144 : Nat) ({ cls := "DeltaMakerModel", name := "write", desc := "(I)V" } : Jvm.MethodName)) ∈ gW := gW_at 655 rfl rfl
set_option maxRecDepth 100000 in
theorem wm657 : (Jvm.Cond.instanceMethod ({ cls := "DeltaMakerModel", name := "write", desc := "(I)V" } : Jvm.MethodName)) ∈ gW := gW_at 657 rfl rfl
set_option maxRecDepth 100000 in
theorem wm659 : (Jvm.Cond.constantLong "DeltaMakerLaw" (13 : Nat) (4294967295 : Int64)) ∈ gW := gW_at 659 rfl rfl
