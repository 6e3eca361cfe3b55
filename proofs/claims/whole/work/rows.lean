section
-- ===== PART A: goes FIRST, ahead of the names: the tables' words, and 'selects' of the private methods out of them =====
/-- a private method of a class that the tables say can be made, by its rows of tables_1 -/
def lw_okq (q : MethodName × Nat) : Prop := (q.1.cls ≠ "java/lang/invoke/MethodHandle" ∧ q.1.cls ≠ "java/lang/invoke/VarHandle") ∧ Cond.instantiable q.1.cls q.2 ∈ tables_1 ∧ Cond.privateMethod q.1 ∈ tables_1 ∧ Cond.instanceMethod q.1 ∈ tables_1
theorem lw_p0 : lw_okq (⟨"DeltaMaker", "rowNamed", "(I)LDeltaMaker$Row;"⟩, 9) := ⟨⟨by decide +kernel, by decide +kernel⟩, List.mem_of_getElem? (i := 9) (by decide +kernel), List.mem_of_getElem? (i := 168) (by decide +kernel), List.mem_of_getElem? (i := 169) (by decide +kernel)⟩
theorem lw_p1 : lw_okq (⟨"DeltaMaker$Plan", "placeOfLongestRun", "(I)I"⟩, 6) := ⟨⟨by decide +kernel, by decide +kernel⟩, List.mem_of_getElem? (i := 34) (by decide +kernel), List.mem_of_getElem? (i := 204) (by decide +kernel), List.mem_of_getElem? (i := 205) (by decide +kernel)⟩
theorem lw_p2 : lw_okq (⟨"DeltaMaker$Plan", "append", "(III)V"⟩, 6) := ⟨⟨by decide +kernel, by decide +kernel⟩, List.mem_of_getElem? (i := 34) (by decide +kernel), List.mem_of_getElem? (i := 212) (by decide +kernel), List.mem_of_getElem? (i := 213) (by decide +kernel)⟩
theorem lw_p3 : lw_okq (⟨"DeltaMaker$Plan", "addByte", "(I)V"⟩, 6) := ⟨⟨by decide +kernel, by decide +kernel⟩, List.mem_of_getElem? (i := 34) (by decide +kernel), List.mem_of_getElem? (i := 216) (by decide +kernel), List.mem_of_getElem? (i := 217) (by decide +kernel)⟩
theorem lw_p4 : lw_okq (⟨"DeltaMaker$Applier", "readHead", "()I"⟩, 7) := ⟨⟨by decide +kernel, by decide +kernel⟩, List.mem_of_getElem? (i := 61) (by decide +kernel), List.mem_of_getElem? (i := 309) (by decide +kernel), List.mem_of_getElem? (i := 310) (by decide +kernel)⟩
theorem lw_p5 : lw_okq (⟨"DeltaMaker$Applier", "readVarint", "()I"⟩, 7) := ⟨⟨by decide +kernel, by decide +kernel⟩, List.mem_of_getElem? (i := 61) (by decide +kernel), List.mem_of_getElem? (i := 313) (by decide +kernel), List.mem_of_getElem? (i := 314) (by decide +kernel)⟩
theorem lw_p6 : lw_okq (⟨"DeltaMaker$Applier", "unread", "()I"⟩, 7) := ⟨⟨by decide +kernel, by decide +kernel⟩, List.mem_of_getElem? (i := 61) (by decide +kernel), List.mem_of_getElem? (i := 318) (by decide +kernel), List.mem_of_getElem? (i := 319) (by decide +kernel)⟩
theorem lw_p7 : lw_okq (⟨"DeltaMaker$Applier", "readWord", "()I"⟩, 7) := ⟨⟨by decide +kernel, by decide +kernel⟩, List.mem_of_getElem? (i := 61) (by decide +kernel), List.mem_of_getElem? (i := 323) (by decide +kernel), List.mem_of_getElem? (i := 324) (by decide +kernel)⟩
theorem lw_p8 : lw_okq (⟨"DeltaMaker$Applier", "doAll", "()I"⟩, 7) := ⟨⟨by decide +kernel, by decide +kernel⟩, List.mem_of_getElem? (i := 61) (by decide +kernel), List.mem_of_getElem? (i := 328) (by decide +kernel), List.mem_of_getElem? (i := 329) (by decide +kernel)⟩
theorem lw_p9 : lw_okq (⟨"DeltaMaker$Applier", "doNext", "()I"⟩, 7) := ⟨⟨by decide +kernel, by decide +kernel⟩, List.mem_of_getElem? (i := 61) (by decide +kernel), List.mem_of_getElem? (i := 332) (by decide +kernel), List.mem_of_getElem? (i := 333) (by decide +kernel)⟩
theorem lw_p10 : lw_okq (⟨"DeltaMaker$Applier", "doAdd", "(I)I"⟩, 7) := ⟨⟨by decide +kernel, by decide +kernel⟩, List.mem_of_getElem? (i := 61) (by decide +kernel), List.mem_of_getElem? (i := 336) (by decide +kernel), List.mem_of_getElem? (i := 337) (by decide +kernel)⟩
theorem lw_p11 : lw_okq (⟨"DeltaMaker$Applier", "doCopy", "(I)I"⟩, 7) := ⟨⟨by decide +kernel, by decide +kernel⟩, List.mem_of_getElem? (i := 61) (by decide +kernel), List.mem_of_getElem? (i := 341) (by decide +kernel), List.mem_of_getElem? (i := 342) (by decide +kernel)⟩
theorem lw_p12 : lw_okq (⟨"DeltaMaker$Applier", "judgeResult", "()I"⟩, 7) := ⟨⟨by decide +kernel, by decide +kernel⟩, List.mem_of_getElem? (i := 61) (by decide +kernel), List.mem_of_getElem? (i := 348) (by decide +kernel), List.mem_of_getElem? (i := 349) (by decide +kernel)⟩
theorem lw_p13 : lw_okq (⟨"DeltaMaker$Placer", "countBlockers", "()V"⟩, 7) := ⟨⟨by decide +kernel, by decide +kernel⟩, List.mem_of_getElem? (i := 89) (by decide +kernel), List.mem_of_getElem? (i := 376) (by decide +kernel), List.mem_of_getElem? (i := 377) (by decide +kernel)⟩
theorem lw_p14 : lw_okq (⟨"DeltaMaker$Placer", "changeBlockers", "(II)V"⟩, 7) := ⟨⟨by decide +kernel, by decide +kernel⟩, List.mem_of_getElem? (i := 89) (by decide +kernel), List.mem_of_getElem? (i := 382) (by decide +kernel), List.mem_of_getElem? (i := 383) (by decide +kernel)⟩
theorem lw_p15 : lw_okq (⟨"DeltaMaker$Placer", "nextFree", "()I"⟩, 7) := ⟨⟨by decide +kernel, by decide +kernel⟩, List.mem_of_getElem? (i := 89) (by decide +kernel), List.mem_of_getElem? (i := 390) (by decide +kernel), List.mem_of_getElem? (i := 391) (by decide +kernel)⟩
def lw_privs_1 : List (MethodName × Nat) := [(⟨"DeltaMaker", "rowNamed", "(I)LDeltaMaker$Row;"⟩, 9), (⟨"DeltaMaker$Plan", "placeOfLongestRun", "(I)I"⟩, 6), (⟨"DeltaMaker$Plan", "append", "(III)V"⟩, 6), (⟨"DeltaMaker$Plan", "addByte", "(I)V"⟩, 6), (⟨"DeltaMaker$Applier", "readHead", "()I"⟩, 7), (⟨"DeltaMaker$Applier", "readVarint", "()I"⟩, 7), (⟨"DeltaMaker$Applier", "unread", "()I"⟩, 7), (⟨"DeltaMaker$Applier", "readWord", "()I"⟩, 7), (⟨"DeltaMaker$Applier", "doAll", "()I"⟩, 7), (⟨"DeltaMaker$Applier", "doNext", "()I"⟩, 7), (⟨"DeltaMaker$Applier", "doAdd", "(I)I"⟩, 7), (⟨"DeltaMaker$Applier", "doCopy", "(I)I"⟩, 7), (⟨"DeltaMaker$Applier", "judgeResult", "()I"⟩, 7), (⟨"DeltaMaker$Placer", "countBlockers", "()V"⟩, 7), (⟨"DeltaMaker$Placer", "changeBlockers", "(II)V"⟩, 7), (⟨"DeltaMaker$Placer", "nextFree", "()I"⟩, 7)]
theorem lw_r1 : ∀ q ∈ lw_privs_1, lw_okq q := List.forall_mem_cons.mpr ⟨lw_p0, List.forall_mem_cons.mpr ⟨lw_p1, List.forall_mem_cons.mpr ⟨lw_p2, List.forall_mem_cons.mpr ⟨lw_p3, List.forall_mem_cons.mpr ⟨lw_p4, List.forall_mem_cons.mpr ⟨lw_p5, List.forall_mem_cons.mpr ⟨lw_p6, List.forall_mem_cons.mpr ⟨lw_p7, List.forall_mem_cons.mpr ⟨lw_p8, List.forall_mem_cons.mpr ⟨lw_p9, List.forall_mem_cons.mpr ⟨lw_p10, List.forall_mem_cons.mpr ⟨lw_p11, List.forall_mem_cons.mpr ⟨lw_p12, List.forall_mem_cons.mpr ⟨lw_p13, List.forall_mem_cons.mpr ⟨lw_p14, List.forall_mem_cons.mpr ⟨lw_p15, fun _ h => absurd h List.not_mem_nil⟩⟩⟩⟩⟩⟩⟩⟩⟩⟩⟩⟩⟩⟩⟩⟩
theorem lw_p16 : lw_okq (⟨"DeltaMaker$Placer", "carryOut", "(I)V"⟩, 7) := ⟨⟨by decide +kernel, by decide +kernel⟩, List.mem_of_getElem? (i := 89) (by decide +kernel), List.mem_of_getElem? (i := 394) (by decide +kernel), List.mem_of_getElem? (i := 395) (by decide +kernel)⟩
theorem lw_p17 : lw_okq (⟨"DeltaMaker$Placer", "wantsMemory", "(I)Z"⟩, 7) := ⟨⟨by decide +kernel, by decide +kernel⟩, List.mem_of_getElem? (i := 89) (by decide +kernel), List.mem_of_getElem? (i := 398) (by decide +kernel), List.mem_of_getElem? (i := 399) (by decide +kernel)⟩
theorem lw_p18 : lw_okq (⟨"DeltaMaker$Placer", "takeOutOfMemory", "(I)V"⟩, 7) := ⟨⟨by decide +kernel, by decide +kernel⟩, List.mem_of_getElem? (i := 89) (by decide +kernel), List.mem_of_getElem? (i := 404) (by decide +kernel), List.mem_of_getElem? (i := 405) (by decide +kernel)⟩
theorem lw_p19 : lw_okq (⟨"DeltaMaker$Placer", "move", "(LDeltaMaker$Row;ILDeltaMaker$Row;I)V"⟩, 7) := ⟨⟨by decide +kernel, by decide +kernel⟩, List.mem_of_getElem? (i := 89) (by decide +kernel), List.mem_of_getElem? (i := 409) (by decide +kernel), List.mem_of_getElem? (i := 410) (by decide +kernel)⟩
theorem lw_p20 : lw_okq (⟨"DeltaMaker$Placer", "fewestBytes", "()I"⟩, 7) := ⟨⟨by decide +kernel, by decide +kernel⟩, List.mem_of_getElem? (i := 89) (by decide +kernel), List.mem_of_getElem? (i := 420) (by decide +kernel), List.mem_of_getElem? (i := 421) (by decide +kernel)⟩
theorem lw_p21 : lw_okq (⟨"DeltaMaker$Placer", "putAside", "(I)I"⟩, 7) := ⟨⟨by decide +kernel, by decide +kernel⟩, List.mem_of_getElem? (i := 89) (by decide +kernel), List.mem_of_getElem? (i := 424) (by decide +kernel), List.mem_of_getElem? (i := 425) (by decide +kernel)⟩
theorem lw_p22 : lw_okq (⟨"DeltaMakerModel", "sizeOf", "(I)I"⟩, 26) := ⟨⟨by decide +kernel, by decide +kernel⟩, List.mem_of_getElem? (i := 433) (by decide +kernel), List.mem_of_getElem? (i := 531) (by decide +kernel), List.mem_of_getElem? (i := 532) (by decide +kernel)⟩
theorem lw_p23 : lw_okq (⟨"DeltaMakerModel", "byteOf", "(II)I"⟩, 26) := ⟨⟨by decide +kernel, by decide +kernel⟩, List.mem_of_getElem? (i := 433) (by decide +kernel), List.mem_of_getElem? (i := 535) (by decide +kernel), List.mem_of_getElem? (i := 536) (by decide +kernel)⟩
theorem lw_p24 : lw_okq (⟨"DeltaMakerModel", "checkOf", "(I)I"⟩, 26) := ⟨⟨by decide +kernel, by decide +kernel⟩, List.mem_of_getElem? (i := 433) (by decide +kernel), List.mem_of_getElem? (i := 547) (by decide +kernel), List.mem_of_getElem? (i := 548) (by decide +kernel)⟩
theorem lw_p25 : lw_okq (⟨"DeltaMakerModel", "findSteps", "()V"⟩, 26) := ⟨⟨by decide +kernel, by decide +kernel⟩, List.mem_of_getElem? (i := 433) (by decide +kernel), List.mem_of_getElem? (i := 556) (by decide +kernel), List.mem_of_getElem? (i := 557) (by decide +kernel)⟩
theorem lw_p26 : lw_okq (⟨"DeltaMakerModel", "runOf", "(II)I"⟩, 26) := ⟨⟨by decide +kernel, by decide +kernel⟩, List.mem_of_getElem? (i := 433) (by decide +kernel), List.mem_of_getElem? (i := 560) (by decide +kernel), List.mem_of_getElem? (i := 561) (by decide +kernel)⟩
theorem lw_p27 : lw_okq (⟨"DeltaMakerModel", "putNumber", "(I)V"⟩, 26) := ⟨⟨by decide +kernel, by decide +kernel⟩, List.mem_of_getElem? (i := 433) (by decide +kernel), List.mem_of_getElem? (i := 564) (by decide +kernel), List.mem_of_getElem? (i := 565) (by decide +kernel)⟩
theorem lw_p28 : lw_okq (⟨"DeltaMakerModel", "put", "(I)V"⟩, 26) := ⟨⟨by decide +kernel, by decide +kernel⟩, List.mem_of_getElem? (i := 433) (by decide +kernel), List.mem_of_getElem? (i := 568) (by decide +kernel), List.mem_of_getElem? (i := 569) (by decide +kernel)⟩
theorem lw_p29 : lw_okq (⟨"DeltaMakerModel", "putCheck", "(I)V"⟩, 26) := ⟨⟨by decide +kernel, by decide +kernel⟩, List.mem_of_getElem? (i := 433) (by decide +kernel), List.mem_of_getElem? (i := 572) (by decide +kernel), List.mem_of_getElem? (i := 573) (by decide +kernel)⟩
theorem lw_p30 : lw_okq (⟨"DeltaMakerModel", "applied", "()I"⟩, 26) := ⟨⟨by decide +kernel, by decide +kernel⟩, List.mem_of_getElem? (i := 433) (by decide +kernel), List.mem_of_getElem? (i := 588) (by decide +kernel), List.mem_of_getElem? (i := 589) (by decide +kernel)⟩
theorem lw_p31 : lw_okq (⟨"DeltaMakerModel", "nextNumber", "()I"⟩, 26) := ⟨⟨by decide +kernel, by decide +kernel⟩, List.mem_of_getElem? (i := 433) (by decide +kernel), List.mem_of_getElem? (i := 592) (by decide +kernel), List.mem_of_getElem? (i := 593) (by decide +kernel)⟩
def lw_privs_2 : List (MethodName × Nat) := [(⟨"DeltaMaker$Placer", "carryOut", "(I)V"⟩, 7), (⟨"DeltaMaker$Placer", "wantsMemory", "(I)Z"⟩, 7), (⟨"DeltaMaker$Placer", "takeOutOfMemory", "(I)V"⟩, 7), (⟨"DeltaMaker$Placer", "move", "(LDeltaMaker$Row;ILDeltaMaker$Row;I)V"⟩, 7), (⟨"DeltaMaker$Placer", "fewestBytes", "()I"⟩, 7), (⟨"DeltaMaker$Placer", "putAside", "(I)I"⟩, 7), (⟨"DeltaMakerModel", "sizeOf", "(I)I"⟩, 26), (⟨"DeltaMakerModel", "byteOf", "(II)I"⟩, 26), (⟨"DeltaMakerModel", "checkOf", "(I)I"⟩, 26), (⟨"DeltaMakerModel", "findSteps", "()V"⟩, 26), (⟨"DeltaMakerModel", "runOf", "(II)I"⟩, 26), (⟨"DeltaMakerModel", "putNumber", "(I)V"⟩, 26), (⟨"DeltaMakerModel", "put", "(I)V"⟩, 26), (⟨"DeltaMakerModel", "putCheck", "(I)V"⟩, 26), (⟨"DeltaMakerModel", "applied", "()I"⟩, 26), (⟨"DeltaMakerModel", "nextNumber", "()I"⟩, 26)]
theorem lw_r2 : ∀ q ∈ lw_privs_2, lw_okq q := List.forall_mem_cons.mpr ⟨lw_p16, List.forall_mem_cons.mpr ⟨lw_p17, List.forall_mem_cons.mpr ⟨lw_p18, List.forall_mem_cons.mpr ⟨lw_p19, List.forall_mem_cons.mpr ⟨lw_p20, List.forall_mem_cons.mpr ⟨lw_p21, List.forall_mem_cons.mpr ⟨lw_p22, List.forall_mem_cons.mpr ⟨lw_p23, List.forall_mem_cons.mpr ⟨lw_p24, List.forall_mem_cons.mpr ⟨lw_p25, List.forall_mem_cons.mpr ⟨lw_p26, List.forall_mem_cons.mpr ⟨lw_p27, List.forall_mem_cons.mpr ⟨lw_p28, List.forall_mem_cons.mpr ⟨lw_p29, List.forall_mem_cons.mpr ⟨lw_p30, List.forall_mem_cons.mpr ⟨lw_p31, fun _ h => absurd h List.not_mem_nil⟩⟩⟩⟩⟩⟩⟩⟩⟩⟩⟩⟩⟩⟩⟩⟩
theorem lw_p32 : lw_okq (⟨"DeltaMakerModel", "next", "()I"⟩, 26) := ⟨⟨by decide +kernel, by decide +kernel⟩, List.mem_of_getElem? (i := 433) (by decide +kernel), List.mem_of_getElem? (i := 596) (by decide +kernel), List.mem_of_getElem? (i := 597) (by decide +kernel)⟩
theorem lw_p33 : lw_okq (⟨"DeltaMakerModel", "nextCheck", "()I"⟩, 26) := ⟨⟨by decide +kernel, by decide +kernel⟩, List.mem_of_getElem? (i := 433) (by decide +kernel), List.mem_of_getElem? (i := 600) (by decide +kernel), List.mem_of_getElem? (i := 601) (by decide +kernel)⟩
theorem lw_p34 : lw_okq (⟨"DeltaMakerModel", "isFree", "(I)Z"⟩, 26) := ⟨⟨by decide +kernel, by decide +kernel⟩, List.mem_of_getElem? (i := 433) (by decide +kernel), List.mem_of_getElem? (i := 608) (by decide +kernel), List.mem_of_getElem? (i := 609) (by decide +kernel)⟩
theorem lw_p35 : lw_okq (⟨"DeltaMakerModel", "shortest", "()I"⟩, 26) := ⟨⟨by decide +kernel, by decide +kernel⟩, List.mem_of_getElem? (i := 433) (by decide +kernel), List.mem_of_getElem? (i := 615) (by decide +kernel), List.mem_of_getElem? (i := 616) (by decide +kernel)⟩
theorem lw_p36 : lw_okq (⟨"DeltaMakerModel", "write", "(I)V"⟩, 26) := ⟨⟨by decide +kernel, by decide +kernel⟩, List.mem_of_getElem? (i := 433) (by decide +kernel), List.mem_of_getElem? (i := 619) (by decide +kernel), List.mem_of_getElem? (i := 620) (by decide +kernel)⟩
def lw_privs_3 : List (MethodName × Nat) := [(⟨"DeltaMakerModel", "next", "()I"⟩, 26), (⟨"DeltaMakerModel", "nextCheck", "()I"⟩, 26), (⟨"DeltaMakerModel", "isFree", "(I)Z"⟩, 26), (⟨"DeltaMakerModel", "shortest", "()I"⟩, 26), (⟨"DeltaMakerModel", "write", "(I)V"⟩, 26)]
theorem lw_r3 : ∀ q ∈ lw_privs_3, lw_okq q := List.forall_mem_cons.mpr ⟨lw_p32, List.forall_mem_cons.mpr ⟨lw_p33, List.forall_mem_cons.mpr ⟨lw_p34, List.forall_mem_cons.mpr ⟨lw_p35, List.forall_mem_cons.mpr ⟨lw_p36, fun _ h => absurd h List.not_mem_nil⟩⟩⟩⟩⟩
def lw_privs : List (MethodName × Nat) := lw_privs_1 ++ (lw_privs_2 ++ (lw_privs_3))
def lw_tbl : List Cond := k2_sels lw_privs ++ tables_1
theorem lw_privs_ok : ∀ q ∈ lw_privs, lw_okq q := by
  show ∀ q ∈ lw_privs_1 ++ (lw_privs_2 ++ (lw_privs_3)), lw_okq q
  exact List.forall_mem_append.mpr ⟨lw_r1, List.forall_mem_append.mpr ⟨lw_r2, lw_r3⟩⟩

/-- the words that every method may use -/
def gW : List Cond := lw_tbl.filter goodWord
theorem gW_tbl : ∀ w ∈ gW, w ∈ lw_tbl := fun w h => (List.mem_filter.mp h).1
theorem gW_good {w : Cond} (h : w ∈ gW) : (w.onTables && w.keeps) = true ∨ ∃ ty, w = .arrayClass ty := good_of_word (List.mem_filter.mp h).2
theorem gW_at {w : Cond} (k : Nat) (h : lw_tbl[k]? = some w) (hg : goodWord w = true) : w ∈ gW := List.mem_filter.mpr ⟨List.mem_of_getElem? h, hg⟩
theorem km {c w : Cond} (h : w ∈ gW) : w ∈ c :: gW := List.mem_cons_of_mem _ h
theorem kgG {T : List Cond} (hT : ∀ w ∈ gW, w ∈ T) {c1 : Cond} (h5 : c1 ∈ gW) : GoodIn T (c1 :: gW) := fun w h => (List.mem_cons.mp h).elim (fun e => e ▸ ⟨hT _ h5, gW_good h5⟩) (fun h => ⟨hT _ h, gW_good h⟩)
theorem kgI {c0 c1 : Cond} (h5 : c1 ∈ gW) : GoodIn (c0 :: gW) (c1 :: gW) := kgG (fun w h => km h) h5
theorem kgVG {T : List Cond} (hT : ∀ w ∈ gW, w ∈ T) {c1 : Cond} {own C : String} {idx : Nat} {y : MethodName} (h1 : Cond.methodLink own idx y ∈ gW) (h2 : Cond.instanceMethod y ∈ gW) (h3 : Cond.selects C y y ∈ gW) (h4 : Cond.initialized C ∈ gW) (h5 : c1 ∈ gW) : GoodIn T (wsV own idx C y (c1 :: gW)) := by
  intro w hw
  unfold wsV at hw
  rcases List.mem_append.mp hw with h | h
  · simp only [List.mem_cons, List.not_mem_nil, or_false] at h
    rcases h with rfl | rfl | rfl | rfl
    · exact ⟨hT _ h1, gW_good h1⟩
    · exact ⟨hT _ h2, gW_good h2⟩
    · exact ⟨hT _ h3, gW_good h3⟩
    · exact ⟨hT _ h4, gW_good h4⟩
  · exact kgG hT h5 w h
theorem kgV {c0 c1 : Cond} {own C : String} {idx : Nat} {y : MethodName} (h1 : Cond.methodLink own idx y ∈ gW) (h2 : Cond.instanceMethod y ∈ gW) (h3 : Cond.selects C y y ∈ gW) (h4 : Cond.initialized C ∈ gW) (h5 : c1 ∈ gW) : GoodIn (c0 :: gW) (wsV own idx C y (c1 :: gW)) := kgVG (fun w h => km h) h1 h2 h3 h4 h5
theorem kgS {c0 c1 : Cond} {own : String} {idx : Nat} {y : MethodName} (h1 : Cond.methodLink own idx y ∈ gW) (h2 : Cond.static y ∈ gW) (h4 : Cond.initialized own ∈ gW) (h5 : c1 ∈ gW) : GoodIn (c0 :: gW) (wsS own idx y (c1 :: gW)) := by
  intro w hw
  unfold wsS at hw
  rcases List.mem_append.mp hw with h | h
  · simp only [List.mem_cons, List.not_mem_nil, or_false] at h
    rcases h with rfl | rfl | rfl
    · exact ⟨km h1, gW_good h1⟩
    · exact ⟨km h2, gW_good h2⟩
    · exact ⟨km h4, gW_good h4⟩
  · exact kgI h5 w h
abbrev kT (cI cZ : ClassId) : List (ClassId × FieldType) := [(cI, .int), (cZ, .boolean)]
def RX0 : String := "DeltaMaker$Applier"
def TX0 : u_T := fun k => match k with
  | 0 => ("DeltaMaker$Applier", "patch", "LDeltaMaker$Row;", true)
  | 1 => ("DeltaMaker$Applier", "first", "LDeltaMaker$Row;", true)
  | 2 => ("DeltaMaker$Applier", "output", "LDeltaMaker$Row;", true)
  | 3 => ("DeltaMaker$Applier", "at", "I", false)
  | 4 => ("DeltaMaker$Applier", "behind", "I", false)
  | 5 => ("DeltaMaker$Applier", "dueSize", "I", false)
  | _ => ("DeltaMaker$Applier", "dueCheck", "I", false)
def tyX0 : Nat → FieldType := fun k => match k with
  | 0 => .object "DeltaMaker$Row"
  | 1 => .object "DeltaMaker$Row"
  | 2 => .object "DeltaMaker$Row"
  | 3 => .int
  | 4 => .int
  | 5 => .int
  | _ => .int
theorem nmX0 : ∀ a, a < 7 → ∀ b, b < 7 → a ≠ b → (TX0 a).2.1 ≠ (TX0 b).2.1 := by decide +kernel
theorem tyX0_ok : ∀ k, k < 7 → parseFieldDescriptor (TX0 k).2.2.1 = some (tyX0 k) := by decide +kernel
theorem ikX0 : ∀ w ∈ u_ws RX0 TX0 7, w ∈ gW := by decide +kernel
def RX1 : String := "DeltaMaker$Placer"
def TX1 : u_T := fun k => match k with
  | 0 => ("DeltaMaker$Placer", "plan", "LDeltaMaker$Plan;", true)
  | 1 => ("DeltaMaker$Placer", "memory", "LDeltaMaker$Row;", true)
  | 2 => ("DeltaMaker$Placer", "hand", "LDeltaMaker$Row;", true)
  | 3 => ("DeltaMaker$Placer", "aside", "[Z", true)
  | 4 => ("DeltaMaker$Placer", "turns", "[I", true)
  | 5 => ("DeltaMaker$Placer", "blockers", "[I", true)
  | _ => ("DeltaMaker$Placer", "done", "I", false)
def tyX1 : Nat → FieldType := fun k => match k with
  | 0 => .object "DeltaMaker$Plan"
  | 1 => .object "DeltaMaker$Row"
  | 2 => .object "DeltaMaker$Row"
  | 3 => .array .boolean
  | 4 => .array .int
  | 5 => .array .int
  | _ => .int
theorem nmX1 : ∀ a, a < 7 → ∀ b, b < 7 → a ≠ b → (TX1 a).2.1 ≠ (TX1 b).2.1 := by decide +kernel
theorem tyX1_ok : ∀ k, k < 7 → parseFieldDescriptor (TX1 k).2.2.1 = some (tyX1 k) := by decide +kernel
theorem ikX1 : ∀ w ∈ u_ws RX1 TX1 7, w ∈ gW := by decide +kernel
def RX2 : String := "DeltaMaker$Plan"
def TX2 : u_T := fun k => match k with
  | 0 => ("DeltaMaker$Plan", "base", "LDeltaMaker$Row;", true)
  | 1 => ("DeltaMaker$Plan", "goal", "LDeltaMaker$Row;", true)
  | 2 => ("DeltaMaker$Plan", "places", "[I", true)
  | 3 => ("DeltaMaker$Plan", "lengths", "[I", true)
  | 4 => ("DeltaMaker$Plan", "sources", "[I", true)
  | _ => ("DeltaMaker$Plan", "count", "I", false)
def tyX2 : Nat → FieldType := fun k => match k with
  | 0 => .object "DeltaMaker$Row"
  | 1 => .object "DeltaMaker$Row"
  | 2 => .array .int
  | 3 => .array .int
  | 4 => .array .int
  | _ => .int
theorem nmX2 : ∀ a, a < 6 → ∀ b, b < 6 → a ≠ b → (TX2 a).2.1 ≠ (TX2 b).2.1 := by decide +kernel
theorem tyX2_ok : ∀ k, k < 6 → parseFieldDescriptor (TX2 k).2.2.1 = some (tyX2 k) := by decide +kernel
theorem ikX2 : ∀ w ∈ u_ws RX2 TX2 6, w ∈ gW := by decide +kernel
def RX3 : String := "DeltaMaker$Row"
def TX3 : u_T := fun k => match k with
  | 0 => ("DeltaMaker$Row", "cells", "[I", true)
  | _ => ("DeltaMaker$Row", "count", "I", false)
def tyX3 : Nat → FieldType := fun k => match k with
  | 0 => .array .int
  | _ => .int
theorem nmX3 : ∀ a, a < 2 → ∀ b, b < 2 → a ≠ b → (TX3 a).2.1 ≠ (TX3 b).2.1 := by decide +kernel
theorem tyX3_ok : ∀ k, k < 2 → parseFieldDescriptor (TX3 k).2.2.1 = some (tyX3 k) := by decide +kernel
theorem ikX3 : ∀ w ∈ u_ws RX3 TX3 2, w ∈ gW := by decide +kernel
def RX4 : String := "DeltaMaker"
def TX4 : u_T := fun k => match k with
  | 0 => ("DeltaMaker", "tape", "LDeltaMaker$Row;", true)
  | 1 => ("DeltaMaker", "first", "LDeltaMaker$Row;", true)
  | 2 => ("DeltaMaker", "second", "LDeltaMaker$Row;", true)
  | 3 => ("DeltaMaker", "patch", "LDeltaMaker$Row;", true)
  | 4 => ("DeltaMaker", "output", "LDeltaMaker$Row;", true)
  | 5 => ("DeltaMaker", "memory", "LDeltaMaker$Row;", true)
  | 6 => ("DeltaMaker", "plan", "LDeltaMaker$Plan;", true)
  | 7 => ("DeltaMaker", "applier", "LDeltaMaker$Applier;", true)
  | _ => ("DeltaMaker", "placer", "LDeltaMaker$Placer;", true)
def tyX4 : Nat → FieldType := fun k => match k with
  | 0 => .object "DeltaMaker$Row"
  | 1 => .object "DeltaMaker$Row"
  | 2 => .object "DeltaMaker$Row"
  | 3 => .object "DeltaMaker$Row"
  | 4 => .object "DeltaMaker$Row"
  | 5 => .object "DeltaMaker$Row"
  | 6 => .object "DeltaMaker$Plan"
  | 7 => .object "DeltaMaker$Applier"
  | _ => .object "DeltaMaker$Placer"
theorem nmX4 : ∀ a, a < 9 → ∀ b, b < 9 → a ≠ b → (TX4 a).2.1 ≠ (TX4 b).2.1 := by decide +kernel
theorem tyX4_ok : ∀ k, k < 9 → parseFieldDescriptor (TX4 k).2.2.1 = some (tyX4 k) := by decide +kernel
theorem ikX4 : ∀ w ∈ u_ws RX4 TX4 9, w ∈ gW := by decide +kernel
def RX5 : String := "DeltaMakerModel"
def TX5 : u_T := fun k => match k with
  | 0 => ("DeltaMakerModel", "code", "I", false)
  | 1 => ("DeltaMakerModel", "tape", "[I", true)
  | 2 => ("DeltaMakerModel", "first", "[I", true)
  | 3 => ("DeltaMakerModel", "second", "[I", true)
  | 4 => ("DeltaMakerModel", "patch", "[I", true)
  | 5 => ("DeltaMakerModel", "output", "[I", true)
  | 6 => ("DeltaMakerModel", "memory", "[I", true)
  | 7 => ("DeltaMakerModel", "aside", "[I", true)
  | 8 => ("DeltaMakerModel", "taped", "I", false)
  | 9 => ("DeltaMakerModel", "firstSize", "I", false)
  | 10 => ("DeltaMakerModel", "secondSize", "I", false)
  | 11 => ("DeltaMakerModel", "patchSize", "I", false)
  | 12 => ("DeltaMakerModel", "outputSize", "I", false)
  | 13 => ("DeltaMakerModel", "memorySize", "I", false)
  | 14 => ("DeltaMakerModel", "place", "[I", true)
  | 15 => ("DeltaMakerModel", "length", "[I", true)
  | 16 => ("DeltaMakerModel", "from", "[I", true)
  | 17 => ("DeltaMakerModel", "putAside", "[I", true)
  | 18 => ("DeltaMakerModel", "order", "[I", true)
  | 19 => ("DeltaMakerModel", "was", "[I", true)
  | 20 => ("DeltaMakerModel", "secondThen", "[I", true)
  | 21 => ("DeltaMakerModel", "steps", "I", false)
  | 22 => ("DeltaMakerModel", "wasSize", "I", false)
  | 23 => ("DeltaMakerModel", "madeSize", "I", false)
  | 24 => ("DeltaMakerModel", "at", "I", false)
  | _ => ("DeltaMakerModel", "lacks", "Z", false)
def tyX5 : Nat → FieldType := fun k => match k with
  | 0 => .int
  | 1 => .array .int
  | 2 => .array .int
  | 3 => .array .int
  | 4 => .array .int
  | 5 => .array .int
  | 6 => .array .int
  | 7 => .array .int
  | 8 => .int
  | 9 => .int
  | 10 => .int
  | 11 => .int
  | 12 => .int
  | 13 => .int
  | 14 => .array .int
  | 15 => .array .int
  | 16 => .array .int
  | 17 => .array .int
  | 18 => .array .int
  | 19 => .array .int
  | 20 => .array .int
  | 21 => .int
  | 22 => .int
  | 23 => .int
  | 24 => .int
  | _ => .boolean
theorem nmX5 : ∀ a, a < 26 → ∀ b, b < 26 → a ≠ b → (TX5 a).2.1 ≠ (TX5 b).2.1 := by decide +kernel
theorem tyX5_ok : ∀ k, k < 26 → parseFieldDescriptor (TX5 k).2.2.1 = some (tyX5 k) := by decide +kernel
theorem ikX5 : ∀ w ∈ u_ws RX5 TX5 26, w ∈ gW := by decide +kernel
def RL : String := "DeltaMakerLaw"
abbrev vwCl : List vw_C := [(RX0, TX0, 7), (RX1, TX1, 7), (RX2, TX2, 6), (RX3, TX3, 2), (RX4, TX4, 9), (RX5, TX5, 26)]
abbrev cX0_init : ByteArray := prog_2_method_1_code
def yX0_init : MethodName := ⟨RX0, "<init>", "(LDeltaMaker$Row;LDeltaMaker$Row;LDeltaMaker$Row;)V"⟩
abbrev wsX0_init : List Cond := .code yX0_init cX0_init 4 none :: gW
set_option maxRecDepth 100000 in
theorem wmcX0_init : Cond.code yX0_init cX0_init 4 none ∈ gW := gW_at 101 rfl rfl
abbrev cX0_run : ByteArray := prog_2_method_2_code
def yX0_run : MethodName := ⟨RX0, "run", "()I"⟩
abbrev wsX0_run : List Cond := .code yX0_run cX0_run 2 (some .int) :: gW
set_option maxRecDepth 100000 in
theorem wmcX0_run : Cond.code yX0_run cX0_run 2 (some .int) ∈ gW := gW_at 343 rfl rfl
abbrev cX0_readHead : ByteArray := prog_2_method_3_code
def yX0_readHead : MethodName := ⟨RX0, "readHead", "()I"⟩
abbrev wsX0_readHead : List Cond := .code yX0_readHead cX0_readHead 3 (some .int) :: gW
set_option maxRecDepth 100000 in
theorem wmcX0_readHead : Cond.code yX0_readHead cX0_readHead 3 (some .int) ∈ gW := gW_at 348 rfl rfl
abbrev cX0_doAll : ByteArray := prog_2_method_4_code
def yX0_doAll : MethodName := ⟨RX0, "doAll", "()I"⟩
abbrev wsX0_doAll : List Cond := .code yX0_doAll cX0_doAll 3 (some .int) :: gW
set_option maxRecDepth 100000 in
theorem wmcX0_doAll : Cond.code yX0_doAll cX0_doAll 3 (some .int) ∈ gW := gW_at 367 rfl rfl
abbrev cX0_doNext : ByteArray := prog_2_method_5_code
def yX0_doNext : MethodName := ⟨RX0, "doNext", "()I"⟩
abbrev wsX0_doNext : List Cond := .code yX0_doNext cX0_doNext 3 (some .int) :: gW
set_option maxRecDepth 100000 in
theorem wmcX0_doNext : Cond.code yX0_doNext cX0_doNext 3 (some .int) ∈ gW := gW_at 371 rfl rfl
abbrev cX0_doAdd : ByteArray := prog_2_method_6_code
def yX0_doAdd : MethodName := ⟨RX0, "doAdd", "(I)I"⟩
abbrev wsX0_doAdd : List Cond := .code yX0_doAdd cX0_doAdd 2 (some .int) :: gW
set_option maxRecDepth 100000 in
theorem wmcX0_doAdd : Cond.code yX0_doAdd cX0_doAdd 2 (some .int) ∈ gW := gW_at 375 rfl rfl
abbrev cX0_doCopy : ByteArray := prog_2_method_7_code
def yX0_doCopy : MethodName := ⟨RX0, "doCopy", "(I)I"⟩
abbrev wsX0_doCopy : List Cond := .code yX0_doCopy cX0_doCopy 4 (some .int) :: gW
set_option maxRecDepth 100000 in
theorem wmcX0_doCopy : Cond.code yX0_doCopy cX0_doCopy 4 (some .int) ∈ gW := gW_at 380 rfl rfl
abbrev cX0_judgeResult : ByteArray := prog_2_method_8_code
def yX0_judgeResult : MethodName := ⟨RX0, "judgeResult", "()I"⟩
abbrev wsX0_judgeResult : List Cond := .code yX0_judgeResult cX0_judgeResult 1 (some .int) :: gW
set_option maxRecDepth 100000 in
theorem wmcX0_judgeResult : Cond.code yX0_judgeResult cX0_judgeResult 1 (some .int) ∈ gW := gW_at 387 rfl rfl
abbrev cX0_unread : ByteArray := prog_2_method_9_code
def yX0_unread : MethodName := ⟨RX0, "unread", "()I"⟩
abbrev wsX0_unread : List Cond := .code yX0_unread cX0_unread 1 (some .int) :: gW
set_option maxRecDepth 100000 in
theorem wmcX0_unread : Cond.code yX0_unread cX0_unread 1 (some .int) ∈ gW := gW_at 357 rfl rfl
abbrev cX0_readVarint : ByteArray := prog_2_method_10_code
def yX0_readVarint : MethodName := ⟨RX0, "readVarint", "()I"⟩
abbrev wsX0_readVarint : List Cond := .code yX0_readVarint cX0_readVarint 4 (some .int) :: gW
set_option maxRecDepth 100000 in
theorem wmcX0_readVarint : Cond.code yX0_readVarint cX0_readVarint 4 (some .int) ∈ gW := gW_at 352 rfl rfl
abbrev cX0_readWord : ByteArray := prog_2_method_11_code
def yX0_readWord : MethodName := ⟨RX0, "readWord", "()I"⟩
abbrev wsX0_readWord : List Cond := .code yX0_readWord cX0_readWord 3 (some .int) :: gW
set_option maxRecDepth 100000 in
theorem wmcX0_readWord : Cond.code yX0_readWord cX0_readWord 3 (some .int) ∈ gW := gW_at 362 rfl rfl
abbrev cX0_withSign : ByteArray := prog_2_method_12_code
def yX0_withSign : MethodName := ⟨RX0, "withSign", "(I)I"⟩
abbrev wsX0_withSign : List Cond := .code yX0_withSign cX0_withSign 1 (some .int) :: gW
set_option maxRecDepth 100000 in
theorem wmcX0_withSign : Cond.code yX0_withSign cX0_withSign 1 (some .int) ∈ gW := gW_at 383 rfl rfl
abbrev cX1_init : ByteArray := prog_3_method_1_code
def yX1_init : MethodName := ⟨RX1, "<init>", "(LDeltaMaker$Plan;LDeltaMaker$Row;)V"⟩
abbrev wsX1_init : List Cond := .code yX1_init cX1_init 3 none :: gW
set_option maxRecDepth 100000 in
theorem wmcX1_init : Cond.code yX1_init cX1_init 3 none ∈ gW := gW_at 129 rfl rfl
abbrev cX1_wasPutAside : ByteArray := prog_3_method_2_code
def yX1_wasPutAside : MethodName := ⟨RX1, "wasPutAside", "(I)Z"⟩
abbrev wsX1_wasPutAside : List Cond := .code yX1_wasPutAside cX1_wasPutAside 2 (some .boolean) :: gW
set_option maxRecDepth 100000 in
theorem wmcX1_wasPutAside : Cond.code yX1_wasPutAside cX1_wasPutAside 2 (some .boolean) ∈ gW := gW_at 331 rfl rfl
abbrev cX1_turnOf : ByteArray := prog_3_method_3_code
def yX1_turnOf : MethodName := ⟨RX1, "turnOf", "(I)I"⟩
abbrev wsX1_turnOf : List Cond := .code yX1_turnOf cX1_turnOf 2 (some .int) :: gW
set_option maxRecDepth 100000 in
theorem wmcX1_turnOf : Cond.code yX1_turnOf cX1_turnOf 2 (some .int) ∈ gW := gW_at 335 rfl rfl
abbrev cX1_forget : ByteArray := prog_3_method_4_code
def yX1_forget : MethodName := ⟨RX1, "forget", "()V"⟩
abbrev wsX1_forget : List Cond := .code yX1_forget cX1_forget 2 none :: gW
set_option maxRecDepth 100000 in
theorem wmcX1_forget : Cond.code yX1_forget cX1_forget 2 none ∈ gW := gW_at 275 rfl rfl
abbrev cX1_run : ByteArray := prog_3_method_5_code
def yX1_run : MethodName := ⟨RX1, "run", "()I"⟩
abbrev wsX1_run : List Cond := .code yX1_run cX1_run 4 (some .int) :: gW
set_option maxRecDepth 100000 in
theorem wmcX1_run : Cond.code yX1_run cX1_run 4 (some .int) ∈ gW := gW_at 395 rfl rfl
abbrev cX1_countBlockers : ByteArray := prog_3_method_6_code
def yX1_countBlockers : MethodName := ⟨RX1, "countBlockers", "()V"⟩
abbrev wsX1_countBlockers : List Cond := .code yX1_countBlockers cX1_countBlockers 2 none :: gW
set_option maxRecDepth 100000 in
theorem wmcX1_countBlockers : Cond.code yX1_countBlockers cX1_countBlockers 2 none ∈ gW := gW_at 415 rfl rfl
abbrev cX1_changeBlockers : ByteArray := prog_3_method_7_code
def yX1_changeBlockers : MethodName := ⟨RX1, "changeBlockers", "(II)V"⟩
abbrev wsX1_changeBlockers : List Cond := .code yX1_changeBlockers cX1_changeBlockers 4 none :: gW
set_option maxRecDepth 100000 in
theorem wmcX1_changeBlockers : Cond.code yX1_changeBlockers cX1_changeBlockers 4 none ∈ gW := gW_at 421 rfl rfl
abbrev cX1_nextFree : ByteArray := prog_3_method_8_code
def yX1_nextFree : MethodName := ⟨RX1, "nextFree", "()I"⟩
abbrev wsX1_nextFree : List Cond := .code yX1_nextFree cX1_nextFree 2 (some .int) :: gW
set_option maxRecDepth 100000 in
theorem wmcX1_nextFree : Cond.code yX1_nextFree cX1_nextFree 2 (some .int) ∈ gW := gW_at 429 rfl rfl
abbrev cX1_wantsMemory : ByteArray := prog_3_method_9_code
def yX1_wantsMemory : MethodName := ⟨RX1, "wantsMemory", "(I)Z"⟩
abbrev wsX1_wantsMemory : List Cond := .code yX1_wantsMemory cX1_wantsMemory 2 (some .boolean) :: gW
set_option maxRecDepth 100000 in
theorem wmcX1_wantsMemory : Cond.code yX1_wantsMemory cX1_wantsMemory 2 (some .boolean) ∈ gW := gW_at 437 rfl rfl
abbrev cX1_fewestBytes : ByteArray := prog_3_method_10_code
def yX1_fewestBytes : MethodName := ⟨RX1, "fewestBytes", "()I"⟩
abbrev wsX1_fewestBytes : List Cond := .code yX1_fewestBytes cX1_fewestBytes 3 (some .int) :: gW
set_option maxRecDepth 100000 in
theorem wmcX1_fewestBytes : Cond.code yX1_fewestBytes cX1_fewestBytes 3 (some .int) ∈ gW := gW_at 459 rfl rfl
abbrev cX1_putAside : ByteArray := prog_3_method_11_code
def yX1_putAside : MethodName := ⟨RX1, "putAside", "(I)I"⟩
abbrev wsX1_putAside : List Cond := .code yX1_putAside cX1_putAside 2 (some .int) :: gW
set_option maxRecDepth 100000 in
theorem wmcX1_putAside : Cond.code yX1_putAside cX1_putAside 2 (some .int) ∈ gW := gW_at 463 rfl rfl
abbrev cX1_carryOut : ByteArray := prog_3_method_12_code
def yX1_carryOut : MethodName := ⟨RX1, "carryOut", "(I)V"⟩
abbrev wsX1_carryOut : List Cond := .code yX1_carryOut cX1_carryOut 2 none :: gW
set_option maxRecDepth 100000 in
theorem wmcX1_carryOut : Cond.code yX1_carryOut cX1_carryOut 2 none ∈ gW := gW_at 433 rfl rfl
abbrev cX1_takeOutOfMemory : ByteArray := prog_3_method_13_code
def yX1_takeOutOfMemory : MethodName := ⟨RX1, "takeOutOfMemory", "(I)V"⟩
abbrev wsX1_takeOutOfMemory : List Cond := .code yX1_takeOutOfMemory cX1_takeOutOfMemory 2 none :: gW
set_option maxRecDepth 100000 in
theorem wmcX1_takeOutOfMemory : Cond.code yX1_takeOutOfMemory cX1_takeOutOfMemory 2 none ∈ gW := gW_at 443 rfl rfl
abbrev cX1_move : ByteArray := prog_3_method_14_code
def yX1_move : MethodName := ⟨RX1, "move", "(LDeltaMaker$Row;ILDeltaMaker$Row;I)V"⟩
abbrev wsX1_move : List Cond := .code yX1_move cX1_move 8 none :: gW
set_option maxRecDepth 100000 in
theorem wmcX1_move : Cond.code yX1_move cX1_move 8 none ∈ gW := gW_at 448 rfl rfl
abbrev cX2_init : ByteArray := prog_4_method_1_code
def yX2_init : MethodName := ⟨RX2, "<init>", "()V"⟩
abbrev wsX2_init : List Cond := .code yX2_init cX2_init 1 none :: gW
set_option maxRecDepth 100000 in
theorem wmcX2_init : Cond.code yX2_init cX2_init 1 none ∈ gW := gW_at 74 rfl rfl
abbrev cX2_base : ByteArray := prog_4_method_2_code
def yX2_base : MethodName := ⟨RX2, "base", "()LDeltaMaker$Row;"⟩
abbrev wsX2_base : List Cond := .code yX2_base cX2_base 1 (some (.object "DeltaMaker$Row")) :: gW
set_option maxRecDepth 100000 in
theorem wmcX2_base : Cond.code yX2_base cX2_base 1 (some (.object "DeltaMaker$Row")) ∈ gW := gW_at 400 rfl rfl
abbrev cX2_goal : ByteArray := prog_4_method_3_code
def yX2_goal : MethodName := ⟨RX2, "goal", "()LDeltaMaker$Row;"⟩
abbrev wsX2_goal : List Cond := .code yX2_goal cX2_goal 1 (some (.object "DeltaMaker$Row")) :: gW
set_option maxRecDepth 100000 in
theorem wmcX2_goal : Cond.code yX2_goal cX2_goal 1 (some (.object "DeltaMaker$Row")) ∈ gW := gW_at 406 rfl rfl
abbrev cX2_count : ByteArray := prog_4_method_4_code
def yX2_count : MethodName := ⟨RX2, "count", "()I"⟩
abbrev wsX2_count : List Cond := .code yX2_count cX2_count 1 (some .int) :: gW
set_option maxRecDepth 100000 in
theorem wmcX2_count : Cond.code yX2_count cX2_count 1 (some .int) ∈ gW := gW_at 318 rfl rfl
abbrev cX2_has : ByteArray := prog_4_method_5_code
def yX2_has : MethodName := ⟨RX2, "has", "(I)Z"⟩
abbrev wsX2_has : List Cond := .code yX2_has cX2_has 2 (some .boolean) :: gW
set_option maxRecDepth 100000 in
theorem wmcX2_has : Cond.code yX2_has cX2_has 2 (some .boolean) ∈ gW := gW_at 259 rfl rfl
abbrev cX2_isCopy : ByteArray := prog_4_method_6_code
def yX2_isCopy : MethodName := ⟨RX2, "isCopy", "(I)Z"⟩
abbrev wsX2_isCopy : List Cond := .code yX2_isCopy cX2_isCopy 2 (some .boolean) :: gW
set_option maxRecDepth 100000 in
theorem wmcX2_isCopy : Cond.code yX2_isCopy cX2_isCopy 2 (some .boolean) ∈ gW := gW_at 263 rfl rfl
abbrev cX2_place : ByteArray := prog_4_method_7_code
def yX2_place : MethodName := ⟨RX2, "place", "(I)I"⟩
abbrev wsX2_place : List Cond := .code yX2_place cX2_place 2 (some .int) :: gW
set_option maxRecDepth 100000 in
theorem wmcX2_place : Cond.code yX2_place cX2_place 2 (some .int) ∈ gW := gW_at 300 rfl rfl
abbrev cX2_length : ByteArray := prog_4_method_8_code
def yX2_length : MethodName := ⟨RX2, "length", "(I)I"⟩
abbrev wsX2_length : List Cond := .code yX2_length cX2_length 2 (some .int) :: gW
set_option maxRecDepth 100000 in
theorem wmcX2_length : Cond.code yX2_length cX2_length 2 (some .int) ∈ gW := gW_at 271 rfl rfl
abbrev cX2_source : ByteArray := prog_4_method_9_code
def yX2_source : MethodName := ⟨RX2, "source", "(I)I"⟩
abbrev wsX2_source : List Cond := .code yX2_source cX2_source 2 (some .int) :: gW
set_option maxRecDepth 100000 in
theorem wmcX2_source : Cond.code yX2_source cX2_source 2 (some .int) ∈ gW := gW_at 267 rfl rfl
abbrev cX2_writesWhereTakes : ByteArray := prog_4_method_10_code
def yX2_writesWhereTakes : MethodName := ⟨RX2, "writesWhereTakes", "(II)Z"⟩
abbrev wsX2_writesWhereTakes : List Cond := .code yX2_writesWhereTakes cX2_writesWhereTakes 3 (some .boolean) :: gW
set_option maxRecDepth 100000 in
theorem wmcX2_writesWhereTakes : Cond.code yX2_writesWhereTakes cX2_writesWhereTakes 3 (some .boolean) ∈ gW := gW_at 425 rfl rfl
abbrev cX2_layOut : ByteArray := prog_4_method_11_code
def yX2_layOut : MethodName := ⟨RX2, "layOut", "(LDeltaMaker$Row;LDeltaMaker$Row;)V"⟩
abbrev wsX2_layOut : List Cond := .code yX2_layOut cX2_layOut 7 none :: gW
set_option maxRecDepth 100000 in
theorem wmcX2_layOut : Cond.code yX2_layOut cX2_layOut 7 none ∈ gW := gW_at 237 rfl rfl
abbrev cX2_placeOfLongestRun : ByteArray := prog_4_method_12_code
def yX2_placeOfLongestRun : MethodName := ⟨RX2, "placeOfLongestRun", "(I)I"⟩
abbrev wsX2_placeOfLongestRun : List Cond := .code yX2_placeOfLongestRun cX2_placeOfLongestRun 6 (some .int) :: gW
set_option maxRecDepth 100000 in
theorem wmcX2_placeOfLongestRun : Cond.code yX2_placeOfLongestRun cX2_placeOfLongestRun 6 (some .int) ∈ gW := gW_at 243 rfl rfl
abbrev cX2_addByte : ByteArray := prog_4_method_13_code
def yX2_addByte : MethodName := ⟨RX2, "addByte", "(I)V"⟩
abbrev wsX2_addByte : List Cond := .code yX2_addByte cX2_addByte 3 none :: gW
set_option maxRecDepth 100000 in
theorem wmcX2_addByte : Cond.code yX2_addByte cX2_addByte 3 none ∈ gW := gW_at 255 rfl rfl
abbrev cX2_append : ByteArray := prog_4_method_14_code
def yX2_append : MethodName := ⟨RX2, "append", "(III)V"⟩
abbrev wsX2_append : List Cond := .code yX2_append cX2_append 4 none :: gW
set_option maxRecDepth 100000 in
theorem wmcX2_append : Cond.code yX2_append cX2_append 4 none ∈ gW := gW_at 251 rfl rfl
abbrev cX2_writeTo : ByteArray := prog_4_method_15_code
def yX2_writeTo : MethodName := ⟨RX2, "writeTo", "(LDeltaMaker$Row;)V"⟩
abbrev wsX2_writeTo : List Cond := .code yX2_writeTo cX2_writeTo 4 none :: gW
set_option maxRecDepth 100000 in
theorem wmcX2_writeTo : Cond.code yX2_writeTo cX2_writeTo 4 none ∈ gW := gW_at 279 rfl rfl
abbrev cX2_withoutSign : ByteArray := prog_4_method_16_code
def yX2_withoutSign : MethodName := ⟨RX2, "withoutSign", "(I)I"⟩
abbrev wsX2_withoutSign : List Cond := .code yX2_withoutSign cX2_withoutSign 1 (some .int) :: gW
set_option maxRecDepth 100000 in
theorem wmcX2_withoutSign : Cond.code yX2_withoutSign cX2_withoutSign 1 (some .int) ∈ gW := gW_at 296 rfl rfl
abbrev cX3_init : ByteArray := prog_5_method_1_code
def yX3_init : MethodName := ⟨RX3, "<init>", "(I)V"⟩
abbrev wsX3_init : List Cond := .code yX3_init cX3_init 2 none :: gW
set_option maxRecDepth 100000 in
theorem wmcX3_init : Cond.code yX3_init cX3_init 2 none ∈ gW := gW_at 57 rfl rfl
abbrev cX3_most : ByteArray := prog_5_method_2_code
def yX3_most : MethodName := ⟨RX3, "most", "()I"⟩
abbrev wsX3_most : List Cond := .code yX3_most cX3_most 1 (some .int) :: gW
set_option maxRecDepth 100000 in
theorem wmcX3_most : Cond.code yX3_most cX3_most 1 (some .int) ∈ gW := gW_at 191 rfl rfl
abbrev cX3_count : ByteArray := prog_5_method_3_code
def yX3_count : MethodName := ⟨RX3, "count", "()I"⟩
abbrev wsX3_count : List Cond := .code yX3_count cX3_count 1 (some .int) :: gW
set_option maxRecDepth 100000 in
theorem wmcX3_count : Cond.code yX3_count cX3_count 1 (some .int) ∈ gW := gW_at 195 rfl rfl
abbrev cX3_at : ByteArray := prog_5_method_4_code
def yX3_at : MethodName := ⟨RX3, "at", "(I)I"⟩
abbrev wsX3_at : List Cond := .code yX3_at cX3_at 2 (some .int) :: gW
set_option maxRecDepth 100000 in
theorem wmcX3_at : Cond.code yX3_at cX3_at 2 (some .int) ∈ gW := gW_at 227 rfl rfl
abbrev cX3_put : ByteArray := prog_5_method_5_code
def yX3_put : MethodName := ⟨RX3, "put", "(II)V"⟩
abbrev wsX3_put : List Cond := .code yX3_put cX3_put 3 none :: gW
set_option maxRecDepth 100000 in
theorem wmcX3_put : Cond.code yX3_put cX3_put 3 none ∈ gW := gW_at 455 rfl rfl
abbrev cX3_clear : ByteArray := prog_5_method_6_code
def yX3_clear : MethodName := ⟨RX3, "clear", "()V"⟩
abbrev wsX3_clear : List Cond := .code yX3_clear cX3_clear 1 none :: gW
set_option maxRecDepth 100000 in
theorem wmcX3_clear : Cond.code yX3_clear cX3_clear 1 none ∈ gW := gW_at 215 rfl rfl
abbrev cX3_setCount : ByteArray := prog_5_method_7_code
def yX3_setCount : MethodName := ⟨RX3, "setCount", "(I)V"⟩
abbrev wsX3_setCount : List Cond := .code yX3_setCount cX3_setCount 2 none :: gW
set_option maxRecDepth 100000 in
theorem wmcX3_setCount : Cond.code yX3_setCount cX3_setCount 2 none ∈ gW := gW_at 411 rfl rfl
abbrev cX3_add : ByteArray := prog_5_method_8_code
def yX3_add : MethodName := ⟨RX3, "add", "(I)V"⟩
abbrev wsX3_add : List Cond := .code yX3_add cX3_add 2 none :: gW
set_option maxRecDepth 100000 in
theorem wmcX3_add : Cond.code yX3_add cX3_add 2 none ∈ gW := gW_at 199 rfl rfl
abbrev cX3_addFrom : ByteArray := prog_5_method_9_code
def yX3_addFrom : MethodName := ⟨RX3, "addFrom", "(LDeltaMaker$Row;II)V"⟩
abbrev wsX3_addFrom : List Cond := .code yX3_addFrom cX3_addFrom 6 none :: gW
set_option maxRecDepth 100000 in
theorem wmcX3_addFrom : Cond.code yX3_addFrom cX3_addFrom 6 none ∈ gW := gW_at 220 rfl rfl
abbrev cX3_become : ByteArray := prog_5_method_10_code
def yX3_become : MethodName := ⟨RX3, "become", "(LDeltaMaker$Row;)V"⟩
abbrev wsX3_become : List Cond := .code yX3_become cX3_become 2 none :: gW
set_option maxRecDepth 100000 in
theorem wmcX3_become : Cond.code yX3_become cX3_become 2 none ∈ gW := gW_at 211 rfl rfl
abbrev cX3_sameFrom : ByteArray := prog_5_method_11_code
def yX3_sameFrom : MethodName := ⟨RX3, "sameFrom", "(ILDeltaMaker$Row;I)I"⟩
abbrev wsX3_sameFrom : List Cond := .code yX3_sameFrom cX3_sameFrom 6 (some .int) :: gW
set_option maxRecDepth 100000 in
theorem wmcX3_sameFrom : Cond.code yX3_sameFrom cX3_sameFrom 6 (some .int) ∈ gW := gW_at 247 rfl rfl
abbrev cX3_addVarint : ByteArray := prog_5_method_12_code
def yX3_addVarint : MethodName := ⟨RX3, "addVarint", "(I)V"⟩
abbrev wsX3_addVarint : List Cond := .code yX3_addVarint cX3_addVarint 4 none :: gW
set_option maxRecDepth 100000 in
theorem wmcX3_addVarint : Cond.code yX3_addVarint cX3_addVarint 4 none ∈ gW := gW_at 284 rfl rfl
abbrev cX3_addWord : ByteArray := prog_5_method_13_code
def yX3_addWord : MethodName := ⟨RX3, "addWord", "(I)V"⟩
abbrev wsX3_addWord : List Cond := .code yX3_addWord cX3_addWord 3 none :: gW
set_option maxRecDepth 100000 in
theorem wmcX3_addWord : Cond.code yX3_addWord cX3_addWord 3 none ∈ gW := gW_at 293 rfl rfl
abbrev cX3_digest : ByteArray := prog_5_method_14_code
def yX3_digest : MethodName := ⟨RX3, "digest", "()I"⟩
abbrev wsX3_digest : List Cond := .code yX3_digest cX3_digest 4 (some .int) :: gW
set_option maxRecDepth 100000 in
theorem wmcX3_digest : Cond.code yX3_digest cX3_digest 4 (some .int) ∈ gW := gW_at 288 rfl rfl
abbrev cX4_init : ByteArray := prog_1_method_1_code
def yX4_init : MethodName := ⟨RX4, "<init>", "()V"⟩
abbrev wsX4_init : List Cond := .code yX4_init cX4_init 1 none :: gW
set_option maxRecDepth 100000 in
theorem wmcX4_init : Cond.code yX4_init cX4_init 1 none ∈ gW := gW_at 49 rfl rfl
abbrev cX4_feed : ByteArray := prog_1_method_2_code
def yX4_feed : MethodName := ⟨RX4, "feed", "(JI)Z"⟩
abbrev wsX4_feed : List Cond := .code yX4_feed cX4_feed 5 (some .boolean) :: gW
set_option maxRecDepth 100000 in
theorem wmcX4_feed : Cond.code yX4_feed cX4_feed 5 (some .boolean) ∈ gW := gW_at 187 rfl rfl
abbrev cX4_take : ByteArray := prog_1_method_3_code
def yX4_take : MethodName := ⟨RX4, "take", "(I)Z"⟩
abbrev wsX4_take : List Cond := .code yX4_take cX4_take 3 (some .boolean) :: gW
set_option maxRecDepth 100000 in
theorem wmcX4_take : Cond.code yX4_take cX4_take 3 (some .boolean) ∈ gW := gW_at 203 rfl rfl
abbrev cX4_make : ByteArray := prog_1_method_4_code
def yX4_make : MethodName := ⟨RX4, "make", "()I"⟩
abbrev wsX4_make : List Cond := .code yX4_make cX4_make 1 (some .int) :: gW
set_option maxRecDepth 100000 in
theorem wmcX4_make : Cond.code yX4_make cX4_make 1 (some .int) ∈ gW := gW_at 233 rfl rfl
abbrev cX4_byteAt : ByteArray := prog_1_method_5_code
def yX4_byteAt : MethodName := ⟨RX4, "byteAt", "(II)I"⟩
abbrev wsX4_byteAt : List Cond := .code yX4_byteAt cX4_byteAt 4 (some .int) :: gW
set_option maxRecDepth 100000 in
theorem wmcX4_byteAt : Cond.code yX4_byteAt cX4_byteAt 4 (some .int) ∈ gW := gW_at 305 rfl rfl
abbrev cX4_size : ByteArray := prog_1_method_6_code
def yX4_size : MethodName := ⟨RX4, "size", "(I)I"⟩
abbrev wsX4_size : List Cond := .code yX4_size cX4_size 3 (some .int) :: gW
set_option maxRecDepth 100000 in
theorem wmcX4_size : Cond.code yX4_size cX4_size 3 (some .int) ∈ gW := gW_at 310 rfl rfl
abbrev cX4_steps : ByteArray := prog_1_method_7_code
def yX4_steps : MethodName := ⟨RX4, "steps", "()I"⟩
abbrev wsX4_steps : List Cond := .code yX4_steps cX4_steps 1 (some .int) :: gW
set_option maxRecDepth 100000 in
theorem wmcX4_steps : Cond.code yX4_steps cX4_steps 1 (some .int) ∈ gW := gW_at 314 rfl rfl
abbrev cX4_step : ByteArray := prog_1_method_8_code
def yX4_step : MethodName := ⟨RX4, "step", "(II)I"⟩
abbrev wsX4_step : List Cond := .code yX4_step cX4_step 3 (some .int) :: gW
set_option maxRecDepth 100000 in
theorem wmcX4_step : Cond.code yX4_step cX4_step 3 (some .int) ∈ gW := gW_at 322 rfl rfl
abbrev cX4_apply : ByteArray := prog_1_method_9_code
def yX4_apply : MethodName := ⟨RX4, "apply", "()I"⟩
abbrev wsX4_apply : List Cond := .code yX4_apply cX4_apply 1 (some .int) :: gW
set_option maxRecDepth 100000 in
theorem wmcX4_apply : Cond.code yX4_apply cX4_apply 1 (some .int) ∈ gW := gW_at 339 rfl rfl
abbrev cX4_inPlace : ByteArray := prog_1_method_10_code
def yX4_inPlace : MethodName := ⟨RX4, "inPlace", "()I"⟩
abbrev wsX4_inPlace : List Cond := .code yX4_inPlace cX4_inPlace 1 (some .int) :: gW
set_option maxRecDepth 100000 in
theorem wmcX4_inPlace : Cond.code yX4_inPlace cX4_inPlace 1 (some .int) ∈ gW := gW_at 391 rfl rfl
abbrev cX4_check : ByteArray := prog_1_method_11_code
def yX4_check : MethodName := ⟨RX4, "check", "(I)I"⟩
abbrev wsX4_check : List Cond := .code yX4_check cX4_check 3 (some .int) :: gW
set_option maxRecDepth 100000 in
theorem wmcX4_check : Cond.code yX4_check cX4_check 3 (some .int) ∈ gW := gW_at 467 rfl rfl
abbrev cX4_rowNamed : ByteArray := prog_1_method_12_code
def yX4_rowNamed : MethodName := ⟨RX4, "rowNamed", "(I)LDeltaMaker$Row;"⟩
abbrev wsX4_rowNamed : List Cond := .code yX4_rowNamed cX4_rowNamed 2 (some (.object "DeltaMaker$Row")) :: gW
set_option maxRecDepth 100000 in
theorem wmcX4_rowNamed : Cond.code yX4_rowNamed cX4_rowNamed 2 (some (.object "DeltaMaker$Row")) ∈ gW := gW_at 207 rfl rfl
abbrev cX5_init : ByteArray := prog_7_method_1_code
def yX5_init : MethodName := ⟨RX5, "<init>", "()V"⟩
abbrev wsX5_init : List Cond := .code yX5_init cX5_init 1 none :: gW
set_option maxRecDepth 100000 in
theorem wmcX5_init : Cond.code yX5_init cX5_init 1 none ∈ gW := gW_at 473 rfl rfl
abbrev cX5_feed : ByteArray := prog_7_method_3_code
def yX5_feed : MethodName := ⟨RX5, "feed", "(JI)Z"⟩
abbrev wsX5_feed : List Cond := .code yX5_feed cX5_feed 5 (some .boolean) :: gW
set_option maxRecDepth 100000 in
theorem wmcX5_feed : Cond.code yX5_feed cX5_feed 5 (some .boolean) ∈ gW := gW_at 557 rfl rfl
abbrev cX5_take : ByteArray := prog_7_method_4_code
def yX5_take : MethodName := ⟨RX5, "take", "(I)Z"⟩
abbrev wsX5_take : List Cond := .code yX5_take cX5_take 3 (some .boolean) :: gW
set_option maxRecDepth 100000 in
theorem wmcX5_take : Cond.code yX5_take cX5_take 3 (some .boolean) ∈ gW := gW_at 562 rfl rfl
abbrev cX5_sizeOf : ByteArray := prog_7_method_5_code
def yX5_sizeOf : MethodName := ⟨RX5, "sizeOf", "(I)I"⟩
abbrev wsX5_sizeOf : List Cond := .code yX5_sizeOf cX5_sizeOf 2 (some .int) :: gW
set_option maxRecDepth 100000 in
theorem wmcX5_sizeOf : Cond.code yX5_sizeOf cX5_sizeOf 2 (some .int) ∈ gW := gW_at 570 rfl rfl
abbrev cX5_byteOf : ByteArray := prog_7_method_6_code
def yX5_byteOf : MethodName := ⟨RX5, "byteOf", "(II)I"⟩
abbrev wsX5_byteOf : List Cond := .code yX5_byteOf cX5_byteOf 3 (some .int) :: gW
set_option maxRecDepth 100000 in
theorem wmcX5_byteOf : Cond.code yX5_byteOf cX5_byteOf 3 (some .int) ∈ gW := gW_at 574 rfl rfl
abbrev cX5_byteAt : ByteArray := prog_7_method_7_code
def yX5_byteAt : MethodName := ⟨RX5, "byteAt", "(II)I"⟩
abbrev wsX5_byteAt : List Cond := .code yX5_byteAt cX5_byteAt 3 (some .int) :: gW
set_option maxRecDepth 100000 in
theorem wmcX5_byteAt : Cond.code yX5_byteAt cX5_byteAt 3 (some .int) ∈ gW := gW_at 566 rfl rfl
abbrev cX5_size : ByteArray := prog_7_method_8_code
def yX5_size : MethodName := ⟨RX5, "size", "(I)I"⟩
abbrev wsX5_size : List Cond := .code yX5_size cX5_size 2 (some .int) :: gW
set_option maxRecDepth 100000 in
theorem wmcX5_size : Cond.code yX5_size cX5_size 2 (some .int) ∈ gW := gW_at 578 rfl rfl
abbrev cX5_checkOf : ByteArray := prog_7_method_9_code
def yX5_checkOf : MethodName := ⟨RX5, "checkOf", "(I)I"⟩
abbrev wsX5_checkOf : List Cond := .code yX5_checkOf cX5_checkOf 5 (some .int) :: gW
set_option maxRecDepth 100000 in
theorem wmcX5_checkOf : Cond.code yX5_checkOf cX5_checkOf 5 (some .int) ∈ gW := gW_at 586 rfl rfl
abbrev cX5_check : ByteArray := prog_7_method_10_code
def yX5_check : MethodName := ⟨RX5, "check", "(I)I"⟩
abbrev wsX5_check : List Cond := .code yX5_check cX5_check 2 (some .int) :: gW
set_option maxRecDepth 100000 in
theorem wmcX5_check : Cond.code yX5_check cX5_check 2 (some .int) ∈ gW := gW_at 582 rfl rfl
abbrev cX5_runOf : ByteArray := prog_7_method_11_code
def yX5_runOf : MethodName := ⟨RX5, "runOf", "(II)I"⟩
abbrev wsX5_runOf : List Cond := .code yX5_runOf cX5_runOf 4 (some .int) :: gW
set_option maxRecDepth 100000 in
theorem wmcX5_runOf : Cond.code yX5_runOf cX5_runOf 4 (some .int) ∈ gW := gW_at 599 rfl rfl
abbrev cX5_findSteps : ByteArray := prog_7_method_12_code
def yX5_findSteps : MethodName := ⟨RX5, "findSteps", "()V"⟩
abbrev wsX5_findSteps : List Cond := .code yX5_findSteps cX5_findSteps 6 none :: gW
set_option maxRecDepth 100000 in
theorem wmcX5_findSteps : Cond.code yX5_findSteps cX5_findSteps 6 none ∈ gW := gW_at 595 rfl rfl
abbrev cX5_put : ByteArray := prog_7_method_13_code
def yX5_put : MethodName := ⟨RX5, "put", "(I)V"⟩
abbrev wsX5_put : List Cond := .code yX5_put cX5_put 2 none :: gW
set_option maxRecDepth 100000 in
theorem wmcX5_put : Cond.code yX5_put cX5_put 2 none ∈ gW := gW_at 607 rfl rfl
abbrev cX5_putNumber : ByteArray := prog_7_method_14_code
def yX5_putNumber : MethodName := ⟨RX5, "putNumber", "(I)V"⟩
abbrev wsX5_putNumber : List Cond := .code yX5_putNumber cX5_putNumber 3 none :: gW
set_option maxRecDepth 100000 in
theorem wmcX5_putNumber : Cond.code yX5_putNumber cX5_putNumber 3 none ∈ gW := gW_at 603 rfl rfl
abbrev cX5_putCheck : ByteArray := prog_7_method_15_code
def yX5_putCheck : MethodName := ⟨RX5, "putCheck", "(I)V"⟩
abbrev wsX5_putCheck : List Cond := .code yX5_putCheck cX5_putCheck 3 none :: gW
set_option maxRecDepth 100000 in
theorem wmcX5_putCheck : Cond.code yX5_putCheck cX5_putCheck 3 none ∈ gW := gW_at 611 rfl rfl
abbrev cX5_make : ByteArray := prog_7_method_16_code
def yX5_make : MethodName := ⟨RX5, "make", "()I"⟩
abbrev wsX5_make : List Cond := .code yX5_make cX5_make 5 (some .int) :: gW
set_option maxRecDepth 100000 in
theorem wmcX5_make : Cond.code yX5_make cX5_make 5 (some .int) ∈ gW := gW_at 591 rfl rfl
abbrev cX5_steps : ByteArray := prog_7_method_17_code
def yX5_steps : MethodName := ⟨RX5, "steps", "()I"⟩
abbrev wsX5_steps : List Cond := .code yX5_steps cX5_steps 1 (some .int) :: gW
set_option maxRecDepth 100000 in
theorem wmcX5_steps : Cond.code yX5_steps cX5_steps 1 (some .int) ∈ gW := gW_at 615 rfl rfl
abbrev cX5_step : ByteArray := prog_7_method_18_code
def yX5_step : MethodName := ⟨RX5, "step", "(II)I"⟩
abbrev wsX5_step : List Cond := .code yX5_step cX5_step 3 (some .int) :: gW
set_option maxRecDepth 100000 in
theorem wmcX5_step : Cond.code yX5_step cX5_step 3 (some .int) ∈ gW := gW_at 619 rfl rfl
abbrev cX5_next : ByteArray := prog_7_method_19_code
def yX5_next : MethodName := ⟨RX5, "next", "()I"⟩
abbrev wsX5_next : List Cond := .code yX5_next cX5_next 1 (some .int) :: gW
set_option maxRecDepth 100000 in
theorem wmcX5_next : Cond.code yX5_next cX5_next 1 (some .int) ∈ gW := gW_at 635 rfl rfl
abbrev cX5_nextNumber : ByteArray := prog_7_method_20_code
def yX5_nextNumber : MethodName := ⟨RX5, "nextNumber", "()I"⟩
abbrev wsX5_nextNumber : List Cond := .code yX5_nextNumber cX5_nextNumber 4 (some .int) :: gW
set_option maxRecDepth 100000 in
theorem wmcX5_nextNumber : Cond.code yX5_nextNumber cX5_nextNumber 4 (some .int) ∈ gW := gW_at 631 rfl rfl
abbrev cX5_nextCheck : ByteArray := prog_7_method_21_code
def yX5_nextCheck : MethodName := ⟨RX5, "nextCheck", "()I"⟩
abbrev wsX5_nextCheck : List Cond := .code yX5_nextCheck cX5_nextCheck 3 (some .int) :: gW
set_option maxRecDepth 100000 in
theorem wmcX5_nextCheck : Cond.code yX5_nextCheck cX5_nextCheck 3 (some .int) ∈ gW := gW_at 639 rfl rfl
abbrev cX5_applied : ByteArray := prog_7_method_22_code
def yX5_applied : MethodName := ⟨RX5, "applied", "()I"⟩
abbrev wsX5_applied : List Cond := .code yX5_applied cX5_applied 10 (some .int) :: gW
set_option maxRecDepth 100000 in
theorem wmcX5_applied : Cond.code yX5_applied cX5_applied 10 (some .int) ∈ gW := gW_at 627 rfl rfl
abbrev cX5_apply : ByteArray := prog_7_method_23_code
def yX5_apply : MethodName := ⟨RX5, "apply", "()I"⟩
abbrev wsX5_apply : List Cond := .code yX5_apply cX5_apply 2 (some .int) :: gW
set_option maxRecDepth 100000 in
theorem wmcX5_apply : Cond.code yX5_apply cX5_apply 2 (some .int) ∈ gW := gW_at 623 rfl rfl
abbrev cX5_meets : ByteArray := prog_7_method_24_code
def yX5_meets : MethodName := ⟨RX5, "meets", "(IIII)Z"⟩
abbrev wsX5_meets : List Cond := .code yX5_meets cX5_meets 4 (some .boolean) :: gW
set_option maxRecDepth 100000 in
theorem wmcX5_meets : Cond.code yX5_meets cX5_meets 4 (some .boolean) ∈ gW := gW_at 650 rfl rfl
abbrev cX5_isFree : ByteArray := prog_7_method_25_code
def yX5_isFree : MethodName := ⟨RX5, "isFree", "(I)Z"⟩
abbrev wsX5_isFree : List Cond := .code yX5_isFree cX5_isFree 4 (some .boolean) :: gW
set_option maxRecDepth 100000 in
theorem wmcX5_isFree : Cond.code yX5_isFree cX5_isFree 4 (some .boolean) ∈ gW := gW_at 647 rfl rfl
abbrev cX5_shortest : ByteArray := prog_7_method_26_code
def yX5_shortest : MethodName := ⟨RX5, "shortest", "()I"⟩
abbrev wsX5_shortest : List Cond := .code yX5_shortest cX5_shortest 3 (some .int) :: gW
set_option maxRecDepth 100000 in
theorem wmcX5_shortest : Cond.code yX5_shortest cX5_shortest 3 (some .int) ∈ gW := gW_at 654 rfl rfl
abbrev cX5_inPlace : ByteArray := prog_7_method_27_code
def yX5_inPlace : MethodName := ⟨RX5, "inPlace", "()I"⟩
abbrev wsX5_inPlace : List Cond := .code yX5_inPlace cX5_inPlace 6 (some .int) :: gW
set_option maxRecDepth 100000 in
theorem wmcX5_inPlace : Cond.code yX5_inPlace cX5_inPlace 6 (some .int) ∈ gW := gW_at 643 rfl rfl
abbrev cX5_write : ByteArray := prog_7_method_28_code
def yX5_write : MethodName := ⟨RX5, "write", "(I)V"⟩
abbrev wsX5_write : List Cond := .code yX5_write cX5_write 3 none :: gW
set_option maxRecDepth 100000 in
theorem wmcX5_write : Cond.code yX5_write cX5_write 3 none ∈ gW := gW_at 658 rfl rfl
set_option maxRecDepth 100000 in
theorem wm0 : Cond.selects "DeltaMaker" ⟨"DeltaMaker", "rowNamed", "(I)LDeltaMaker$Row;"⟩ ⟨"DeltaMaker", "rowNamed", "(I)LDeltaMaker$Row;"⟩ ∈ gW := gW_at 0 rfl rfl
set_option maxRecDepth 100000 in
theorem wm1 : Cond.selects "DeltaMaker$Plan" ⟨"DeltaMaker$Plan", "placeOfLongestRun", "(I)I"⟩ ⟨"DeltaMaker$Plan", "placeOfLongestRun", "(I)I"⟩ ∈ gW := gW_at 1 rfl rfl
set_option maxRecDepth 100000 in
theorem wm2 : Cond.selects "DeltaMaker$Plan" ⟨"DeltaMaker$Plan", "append", "(III)V"⟩ ⟨"DeltaMaker$Plan", "append", "(III)V"⟩ ∈ gW := gW_at 2 rfl rfl
set_option maxRecDepth 100000 in
theorem wm3 : Cond.selects "DeltaMaker$Plan" ⟨"DeltaMaker$Plan", "addByte", "(I)V"⟩ ⟨"DeltaMaker$Plan", "addByte", "(I)V"⟩ ∈ gW := gW_at 3 rfl rfl
set_option maxRecDepth 100000 in
theorem wm4 : Cond.selects "DeltaMaker$Applier" ⟨"DeltaMaker$Applier", "readHead", "()I"⟩ ⟨"DeltaMaker$Applier", "readHead", "()I"⟩ ∈ gW := gW_at 4 rfl rfl
set_option maxRecDepth 100000 in
theorem wm5 : Cond.selects "DeltaMaker$Applier" ⟨"DeltaMaker$Applier", "readVarint", "()I"⟩ ⟨"DeltaMaker$Applier", "readVarint", "()I"⟩ ∈ gW := gW_at 5 rfl rfl
set_option maxRecDepth 100000 in
theorem wm6 : Cond.selects "DeltaMaker$Applier" ⟨"DeltaMaker$Applier", "unread", "()I"⟩ ⟨"DeltaMaker$Applier", "unread", "()I"⟩ ∈ gW := gW_at 6 rfl rfl
set_option maxRecDepth 100000 in
theorem wm7 : Cond.selects "DeltaMaker$Applier" ⟨"DeltaMaker$Applier", "readWord", "()I"⟩ ⟨"DeltaMaker$Applier", "readWord", "()I"⟩ ∈ gW := gW_at 7 rfl rfl
set_option maxRecDepth 100000 in
theorem wm8 : Cond.selects "DeltaMaker$Applier" ⟨"DeltaMaker$Applier", "doAll", "()I"⟩ ⟨"DeltaMaker$Applier", "doAll", "()I"⟩ ∈ gW := gW_at 8 rfl rfl
set_option maxRecDepth 100000 in
theorem wm9 : Cond.selects "DeltaMaker$Applier" ⟨"DeltaMaker$Applier", "doNext", "()I"⟩ ⟨"DeltaMaker$Applier", "doNext", "()I"⟩ ∈ gW := gW_at 9 rfl rfl
set_option maxRecDepth 100000 in
theorem wm10 : Cond.selects "DeltaMaker$Applier" ⟨"DeltaMaker$Applier", "doAdd", "(I)I"⟩ ⟨"DeltaMaker$Applier", "doAdd", "(I)I"⟩ ∈ gW := gW_at 10 rfl rfl
set_option maxRecDepth 100000 in
theorem wm11 : Cond.selects "DeltaMaker$Applier" ⟨"DeltaMaker$Applier", "doCopy", "(I)I"⟩ ⟨"DeltaMaker$Applier", "doCopy", "(I)I"⟩ ∈ gW := gW_at 11 rfl rfl
set_option maxRecDepth 100000 in
theorem wm12 : Cond.selects "DeltaMaker$Applier" ⟨"DeltaMaker$Applier", "judgeResult", "()I"⟩ ⟨"DeltaMaker$Applier", "judgeResult", "()I"⟩ ∈ gW := gW_at 12 rfl rfl
set_option maxRecDepth 100000 in
theorem wm13 : Cond.selects "DeltaMaker$Placer" ⟨"DeltaMaker$Placer", "countBlockers", "()V"⟩ ⟨"DeltaMaker$Placer", "countBlockers", "()V"⟩ ∈ gW := gW_at 13 rfl rfl
set_option maxRecDepth 100000 in
theorem wm14 : Cond.selects "DeltaMaker$Placer" ⟨"DeltaMaker$Placer", "changeBlockers", "(II)V"⟩ ⟨"DeltaMaker$Placer", "changeBlockers", "(II)V"⟩ ∈ gW := gW_at 14 rfl rfl
set_option maxRecDepth 100000 in
theorem wm15 : Cond.selects "DeltaMaker$Placer" ⟨"DeltaMaker$Placer", "nextFree", "()I"⟩ ⟨"DeltaMaker$Placer", "nextFree", "()I"⟩ ∈ gW := gW_at 15 rfl rfl
set_option maxRecDepth 100000 in
theorem wm16 : Cond.selects "DeltaMaker$Placer" ⟨"DeltaMaker$Placer", "carryOut", "(I)V"⟩ ⟨"DeltaMaker$Placer", "carryOut", "(I)V"⟩ ∈ gW := gW_at 16 rfl rfl
set_option maxRecDepth 100000 in
theorem wm17 : Cond.selects "DeltaMaker$Placer" ⟨"DeltaMaker$Placer", "wantsMemory", "(I)Z"⟩ ⟨"DeltaMaker$Placer", "wantsMemory", "(I)Z"⟩ ∈ gW := gW_at 17 rfl rfl
set_option maxRecDepth 100000 in
theorem wm18 : Cond.selects "DeltaMaker$Placer" ⟨"DeltaMaker$Placer", "takeOutOfMemory", "(I)V"⟩ ⟨"DeltaMaker$Placer", "takeOutOfMemory", "(I)V"⟩ ∈ gW := gW_at 18 rfl rfl
set_option maxRecDepth 100000 in
theorem wm19 : Cond.selects "DeltaMaker$Placer" ⟨"DeltaMaker$Placer", "move", "(LDeltaMaker$Row;ILDeltaMaker$Row;I)V"⟩ ⟨"DeltaMaker$Placer", "move", "(LDeltaMaker$Row;ILDeltaMaker$Row;I)V"⟩ ∈ gW := gW_at 19 rfl rfl
set_option maxRecDepth 100000 in
theorem wm20 : Cond.selects "DeltaMaker$Placer" ⟨"DeltaMaker$Placer", "fewestBytes", "()I"⟩ ⟨"DeltaMaker$Placer", "fewestBytes", "()I"⟩ ∈ gW := gW_at 20 rfl rfl
set_option maxRecDepth 100000 in
theorem wm21 : Cond.selects "DeltaMaker$Placer" ⟨"DeltaMaker$Placer", "putAside", "(I)I"⟩ ⟨"DeltaMaker$Placer", "putAside", "(I)I"⟩ ∈ gW := gW_at 21 rfl rfl
set_option maxRecDepth 100000 in
theorem wm22 : Cond.selects "DeltaMakerModel" ⟨"DeltaMakerModel", "sizeOf", "(I)I"⟩ ⟨"DeltaMakerModel", "sizeOf", "(I)I"⟩ ∈ gW := gW_at 22 rfl rfl
set_option maxRecDepth 100000 in
theorem wm23 : Cond.selects "DeltaMakerModel" ⟨"DeltaMakerModel", "byteOf", "(II)I"⟩ ⟨"DeltaMakerModel", "byteOf", "(II)I"⟩ ∈ gW := gW_at 23 rfl rfl
set_option maxRecDepth 100000 in
theorem wm24 : Cond.selects "DeltaMakerModel" ⟨"DeltaMakerModel", "checkOf", "(I)I"⟩ ⟨"DeltaMakerModel", "checkOf", "(I)I"⟩ ∈ gW := gW_at 24 rfl rfl
set_option maxRecDepth 100000 in
theorem wm25 : Cond.selects "DeltaMakerModel" ⟨"DeltaMakerModel", "findSteps", "()V"⟩ ⟨"DeltaMakerModel", "findSteps", "()V"⟩ ∈ gW := gW_at 25 rfl rfl
set_option maxRecDepth 100000 in
theorem wm26 : Cond.selects "DeltaMakerModel" ⟨"DeltaMakerModel", "runOf", "(II)I"⟩ ⟨"DeltaMakerModel", "runOf", "(II)I"⟩ ∈ gW := gW_at 26 rfl rfl
set_option maxRecDepth 100000 in
theorem wm27 : Cond.selects "DeltaMakerModel" ⟨"DeltaMakerModel", "putNumber", "(I)V"⟩ ⟨"DeltaMakerModel", "putNumber", "(I)V"⟩ ∈ gW := gW_at 27 rfl rfl
set_option maxRecDepth 100000 in
theorem wm28 : Cond.selects "DeltaMakerModel" ⟨"DeltaMakerModel", "put", "(I)V"⟩ ⟨"DeltaMakerModel", "put", "(I)V"⟩ ∈ gW := gW_at 28 rfl rfl
set_option maxRecDepth 100000 in
theorem wm29 : Cond.selects "DeltaMakerModel" ⟨"DeltaMakerModel", "putCheck", "(I)V"⟩ ⟨"DeltaMakerModel", "putCheck", "(I)V"⟩ ∈ gW := gW_at 29 rfl rfl
set_option maxRecDepth 100000 in
theorem wm30 : Cond.selects "DeltaMakerModel" ⟨"DeltaMakerModel", "applied", "()I"⟩ ⟨"DeltaMakerModel", "applied", "()I"⟩ ∈ gW := gW_at 30 rfl rfl
set_option maxRecDepth 100000 in
theorem wm31 : Cond.selects "DeltaMakerModel" ⟨"DeltaMakerModel", "nextNumber", "()I"⟩ ⟨"DeltaMakerModel", "nextNumber", "()I"⟩ ∈ gW := gW_at 31 rfl rfl
set_option maxRecDepth 100000 in
theorem wm32 : Cond.selects "DeltaMakerModel" ⟨"DeltaMakerModel", "next", "()I"⟩ ⟨"DeltaMakerModel", "next", "()I"⟩ ∈ gW := gW_at 32 rfl rfl
set_option maxRecDepth 100000 in
theorem wm33 : Cond.selects "DeltaMakerModel" ⟨"DeltaMakerModel", "nextCheck", "()I"⟩ ⟨"DeltaMakerModel", "nextCheck", "()I"⟩ ∈ gW := gW_at 33 rfl rfl
set_option maxRecDepth 100000 in
theorem wm34 : Cond.selects "DeltaMakerModel" ⟨"DeltaMakerModel", "isFree", "(I)Z"⟩ ⟨"DeltaMakerModel", "isFree", "(I)Z"⟩ ∈ gW := gW_at 34 rfl rfl
set_option maxRecDepth 100000 in
theorem wm35 : Cond.selects "DeltaMakerModel" ⟨"DeltaMakerModel", "shortest", "()I"⟩ ⟨"DeltaMakerModel", "shortest", "()I"⟩ ∈ gW := gW_at 35 rfl rfl
set_option maxRecDepth 100000 in
theorem wm36 : Cond.selects "DeltaMakerModel" ⟨"DeltaMakerModel", "write", "(I)V"⟩ ⟨"DeltaMakerModel", "write", "(I)V"⟩ ∈ gW := gW_at 36 rfl rfl
set_option maxRecDepth 100000 in
theorem wm37 : (Jvm.Cond.initialized "DeltaMakerLaw") ∈ gW := gW_at 37 rfl rfl
set_option maxRecDepth 100000 in
theorem wm38 : (Jvm.Cond.initialized "DeltaMaker") ∈ gW := gW_at 38 rfl rfl
set_option maxRecDepth 100000 in
theorem wm39 : (Jvm.Cond.initialized "DeltaMaker$Row") ∈ gW := gW_at 39 rfl rfl
set_option maxRecDepth 100000 in
theorem wm40 : (Jvm.Cond.initialized "java/lang/Math") ∈ gW := gW_at 40 rfl rfl
set_option maxRecDepth 100000 in
theorem wm41 : (Jvm.Cond.initialized "DeltaMaker$Plan") ∈ gW := gW_at 41 rfl rfl
set_option maxRecDepth 100000 in
theorem wm42 : (Jvm.Cond.initialized "DeltaMaker$Applier") ∈ gW := gW_at 42 rfl rfl
set_option maxRecDepth 100000 in
theorem wm43 : (Jvm.Cond.initialized "DeltaMaker$Placer") ∈ gW := gW_at 43 rfl rfl
set_option maxRecDepth 100000 in
theorem wm44 : (Jvm.Cond.initialized "DeltaMakerModel") ∈ gW := gW_at 44 rfl rfl
set_option maxRecDepth 100000 in
theorem wm45 : (Jvm.Cond.classLink "DeltaMakerLaw" (7 : Nat) "DeltaMaker") ∈ gW := gW_at 45 rfl rfl
set_option maxRecDepth 100000 in
theorem wm46 : (Jvm.Cond.instantiable "DeltaMaker" (9 : Nat)) ∈ gW := gW_at 46 rfl rfl
set_option maxRecDepth 100000 in
theorem wm47 : (Jvm.Cond.methodLink "DeltaMakerLaw" (9 : Nat) ({ cls := "DeltaMaker", name := "<init>", desc := "()V" } : Jvm.MethodName)) ∈ gW := gW_at 47 rfl rfl
set_option maxRecDepth 100000 in
theorem wm48 : (Jvm.Cond.instanceMethod ({ cls := "DeltaMaker", name := "<init>", desc := "()V" } : Jvm.MethodName)) ∈ gW := gW_at 48 rfl rfl
set_option maxRecDepth 100000 in
theorem wm50 : (Jvm.Cond.methodLink "DeltaMaker" (3 : Nat) ({ cls := "java/lang/Object", name := "<init>", desc := "()V" } : Jvm.MethodName)) ∈ gW := gW_at 50 rfl rfl
set_option maxRecDepth 100000 in
theorem wm51 : (Jvm.Cond.instanceMethod ({ cls := "java/lang/Object", name := "<init>", desc := "()V" } : Jvm.MethodName)) ∈ gW := gW_at 51 rfl rfl
set_option maxRecDepth 100000 in
theorem wm52 : (Jvm.Cond.code ({ cls := "java/lang/Object", name := "<init>", desc := "()V" } : Jvm.MethodName) object_method_1_code (1 : Nat) (Option.none : Option Jvm.ClassFile.FieldType)) ∈ gW := gW_at 52 rfl rfl
set_option maxRecDepth 100000 in
theorem wm53 : (Jvm.Cond.classLink "DeltaMaker" (9 : Nat) "DeltaMaker$Row") ∈ gW := gW_at 53 rfl rfl
set_option maxRecDepth 100000 in
theorem wm54 : (Jvm.Cond.instantiable "DeltaMaker$Row" (2 : Nat)) ∈ gW := gW_at 54 rfl rfl
set_option maxRecDepth 100000 in
theorem wm55 : (Jvm.Cond.methodLink "DeltaMaker" (11 : Nat) ({ cls := "DeltaMaker$Row", name := "<init>", desc := "(I)V" } : Jvm.MethodName)) ∈ gW := gW_at 55 rfl rfl
set_option maxRecDepth 100000 in
theorem wm56 : (Jvm.Cond.instanceMethod ({ cls := "DeltaMaker$Row", name := "<init>", desc := "(I)V" } : Jvm.MethodName)) ∈ gW := gW_at 56 rfl rfl
set_option maxRecDepth 100000 in
theorem wm58 : (Jvm.Cond.methodLink "DeltaMaker$Row" (3 : Nat) ({ cls := "java/lang/Object", name := "<init>", desc := "()V" } : Jvm.MethodName)) ∈ gW := gW_at 58 rfl rfl
set_option maxRecDepth 100000 in
theorem wm59 : (Jvm.Cond.methodLink "DeltaMaker$Row" (9 : Nat) ({ cls := "java/lang/Math", name := "max", desc := "(II)I" } : Jvm.MethodName)) ∈ gW := gW_at 59 rfl rfl
set_option maxRecDepth 100000 in
theorem wm60 : (Jvm.Cond.static ({ cls := "java/lang/Math", name := "max", desc := "(II)I" } : Jvm.MethodName)) ∈ gW := gW_at 60 rfl rfl
set_option maxRecDepth 100000 in
theorem wm61 : (Jvm.Cond.code ({ cls := "java/lang/Math", name := "max", desc := "(II)I" } : Jvm.MethodName) prog_8_method_65_code (2 : Nat) (Option.some Jvm.ClassFile.FieldType.int)) ∈ gW := gW_at 61 rfl rfl
set_option maxRecDepth 100000 in
theorem wm62 : (Jvm.Cond.fieldLink "DeltaMaker$Row" (15 : Nat) "DeltaMaker$Row" "cells" "[I") ∈ gW := gW_at 62 rfl rfl
set_option maxRecDepth 100000 in
theorem wm63 : (Jvm.Cond.fieldLink "DeltaMaker$Row" (21 : Nat) "DeltaMaker$Row" "count" "I") ∈ gW := gW_at 63 rfl rfl
set_option maxRecDepth 100000 in
theorem wm69 : (Jvm.Cond.arrayClass Jvm.ClassFile.FieldType.int) ∈ gW := gW_at 69 rfl rfl
set_option maxRecDepth 100000 in
theorem wm70 : (Jvm.Cond.classLink "DeltaMaker" (33 : Nat) "DeltaMaker$Plan") ∈ gW := gW_at 70 rfl rfl
set_option maxRecDepth 100000 in
theorem wm71 : (Jvm.Cond.instantiable "DeltaMaker$Plan" (6 : Nat)) ∈ gW := gW_at 71 rfl rfl
set_option maxRecDepth 100000 in
theorem wm72 : (Jvm.Cond.methodLink "DeltaMaker" (35 : Nat) ({ cls := "DeltaMaker$Plan", name := "<init>", desc := "()V" } : Jvm.MethodName)) ∈ gW := gW_at 72 rfl rfl
set_option maxRecDepth 100000 in
theorem wm73 : (Jvm.Cond.instanceMethod ({ cls := "DeltaMaker$Plan", name := "<init>", desc := "()V" } : Jvm.MethodName)) ∈ gW := gW_at 73 rfl rfl
set_option maxRecDepth 100000 in
theorem wm75 : (Jvm.Cond.methodLink "DeltaMaker$Plan" (3 : Nat) ({ cls := "java/lang/Object", name := "<init>", desc := "()V" } : Jvm.MethodName)) ∈ gW := gW_at 75 rfl rfl
set_option maxRecDepth 100000 in
theorem wm76 : (Jvm.Cond.classLink "DeltaMaker$Plan" (9 : Nat) "DeltaMaker$Row") ∈ gW := gW_at 76 rfl rfl
set_option maxRecDepth 100000 in
theorem wm77 : (Jvm.Cond.methodLink "DeltaMaker$Plan" (11 : Nat) ({ cls := "DeltaMaker$Row", name := "<init>", desc := "(I)V" } : Jvm.MethodName)) ∈ gW := gW_at 77 rfl rfl
set_option maxRecDepth 100000 in
theorem wm78 : (Jvm.Cond.fieldLink "DeltaMaker$Plan" (14 : Nat) "DeltaMaker$Plan" "base" "LDeltaMaker$Row;") ∈ gW := gW_at 78 rfl rfl
set_option maxRecDepth 100000 in
theorem wm79 : (Jvm.Cond.fieldLink "DeltaMaker$Plan" (20 : Nat) "DeltaMaker$Plan" "goal" "LDeltaMaker$Row;") ∈ gW := gW_at 79 rfl rfl
set_option maxRecDepth 100000 in
theorem wm80 : (Jvm.Cond.fieldLink "DeltaMaker$Plan" (23 : Nat) "DeltaMaker$Plan" "places" "[I") ∈ gW := gW_at 80 rfl rfl
set_option maxRecDepth 100000 in
theorem wm81 : (Jvm.Cond.fieldLink "DeltaMaker$Plan" (27 : Nat) "DeltaMaker$Plan" "lengths" "[I") ∈ gW := gW_at 81 rfl rfl
set_option maxRecDepth 100000 in
theorem wm82 : (Jvm.Cond.fieldLink "DeltaMaker$Plan" (30 : Nat) "DeltaMaker$Plan" "sources" "[I") ∈ gW := gW_at 82 rfl rfl
set_option maxRecDepth 100000 in
theorem wm83 : (Jvm.Cond.fieldLink "DeltaMaker$Plan" (33 : Nat) "DeltaMaker$Plan" "count" "I") ∈ gW := gW_at 83 rfl rfl
set_option maxRecDepth 100000 in
theorem wm97 : (Jvm.Cond.classLink "DeltaMaker" (40 : Nat) "DeltaMaker$Applier") ∈ gW := gW_at 97 rfl rfl
set_option maxRecDepth 100000 in
theorem wm98 : (Jvm.Cond.instantiable "DeltaMaker$Applier" (7 : Nat)) ∈ gW := gW_at 98 rfl rfl
set_option maxRecDepth 100000 in
theorem wm99 : (Jvm.Cond.methodLink "DeltaMaker" (42 : Nat) ({ cls := "DeltaMaker$Applier", name := "<init>", desc := "(LDeltaMaker$Row;LDeltaMaker$Row;LDeltaMaker$Row;)V" } : Jvm.MethodName)) ∈ gW := gW_at 99 rfl rfl
set_option maxRecDepth 100000 in
theorem wm100 : (Jvm.Cond.instanceMethod ({ cls := "DeltaMaker$Applier", name := "<init>", desc := "(LDeltaMaker$Row;LDeltaMaker$Row;LDeltaMaker$Row;)V" } : Jvm.MethodName)) ∈ gW := gW_at 100 rfl rfl
set_option maxRecDepth 100000 in
theorem wm102 : (Jvm.Cond.methodLink "DeltaMaker$Applier" (3 : Nat) ({ cls := "java/lang/Object", name := "<init>", desc := "()V" } : Jvm.MethodName)) ∈ gW := gW_at 102 rfl rfl
set_option maxRecDepth 100000 in
theorem wm103 : (Jvm.Cond.fieldLink "DeltaMaker$Applier" (9 : Nat) "DeltaMaker$Applier" "patch" "LDeltaMaker$Row;") ∈ gW := gW_at 103 rfl rfl
set_option maxRecDepth 100000 in
theorem wm104 : (Jvm.Cond.fieldLink "DeltaMaker$Applier" (15 : Nat) "DeltaMaker$Applier" "first" "LDeltaMaker$Row;") ∈ gW := gW_at 104 rfl rfl
set_option maxRecDepth 100000 in
theorem wm105 : (Jvm.Cond.fieldLink "DeltaMaker$Applier" (18 : Nat) "DeltaMaker$Applier" "output" "LDeltaMaker$Row;") ∈ gW := gW_at 105 rfl rfl
set_option maxRecDepth 100000 in
theorem wm106 : (Jvm.Cond.fieldLink "DeltaMaker$Applier" (21 : Nat) "DeltaMaker$Applier" "at" "I") ∈ gW := gW_at 106 rfl rfl
set_option maxRecDepth 100000 in
theorem wm107 : (Jvm.Cond.fieldLink "DeltaMaker$Applier" (25 : Nat) "DeltaMaker$Applier" "behind" "I") ∈ gW := gW_at 107 rfl rfl
set_option maxRecDepth 100000 in
theorem wm108 : (Jvm.Cond.fieldLink "DeltaMaker$Applier" (28 : Nat) "DeltaMaker$Applier" "dueSize" "I") ∈ gW := gW_at 108 rfl rfl
set_option maxRecDepth 100000 in
theorem wm109 : (Jvm.Cond.fieldLink "DeltaMaker$Applier" (31 : Nat) "DeltaMaker$Applier" "dueCheck" "I") ∈ gW := gW_at 109 rfl rfl
set_option maxRecDepth 100000 in
theorem wm125 : (Jvm.Cond.classLink "DeltaMaker" (49 : Nat) "DeltaMaker$Placer") ∈ gW := gW_at 125 rfl rfl
set_option maxRecDepth 100000 in
theorem wm126 : (Jvm.Cond.instantiable "DeltaMaker$Placer" (7 : Nat)) ∈ gW := gW_at 126 rfl rfl
set_option maxRecDepth 100000 in
theorem wm127 : (Jvm.Cond.methodLink "DeltaMaker" (51 : Nat) ({ cls := "DeltaMaker$Placer", name := "<init>", desc := "(LDeltaMaker$Plan;LDeltaMaker$Row;)V" } : Jvm.MethodName)) ∈ gW := gW_at 127 rfl rfl
set_option maxRecDepth 100000 in
theorem wm128 : (Jvm.Cond.instanceMethod ({ cls := "DeltaMaker$Placer", name := "<init>", desc := "(LDeltaMaker$Plan;LDeltaMaker$Row;)V" } : Jvm.MethodName)) ∈ gW := gW_at 128 rfl rfl
set_option maxRecDepth 100000 in
theorem wm130 : (Jvm.Cond.methodLink "DeltaMaker$Placer" (3 : Nat) ({ cls := "java/lang/Object", name := "<init>", desc := "()V" } : Jvm.MethodName)) ∈ gW := gW_at 130 rfl rfl
set_option maxRecDepth 100000 in
theorem wm131 : (Jvm.Cond.classLink "DeltaMaker$Placer" (19 : Nat) "DeltaMaker$Row") ∈ gW := gW_at 131 rfl rfl
set_option maxRecDepth 100000 in
theorem wm132 : (Jvm.Cond.methodLink "DeltaMaker$Placer" (21 : Nat) ({ cls := "DeltaMaker$Row", name := "<init>", desc := "(I)V" } : Jvm.MethodName)) ∈ gW := gW_at 132 rfl rfl
set_option maxRecDepth 100000 in
theorem wm133 : (Jvm.Cond.fieldLink "DeltaMaker$Placer" (9 : Nat) "DeltaMaker$Placer" "plan" "LDeltaMaker$Plan;") ∈ gW := gW_at 133 rfl rfl
set_option maxRecDepth 100000 in
theorem wm134 : (Jvm.Cond.fieldLink "DeltaMaker$Placer" (15 : Nat) "DeltaMaker$Placer" "memory" "LDeltaMaker$Row;") ∈ gW := gW_at 134 rfl rfl
set_option maxRecDepth 100000 in
theorem wm135 : (Jvm.Cond.fieldLink "DeltaMaker$Placer" (24 : Nat) "DeltaMaker$Placer" "hand" "LDeltaMaker$Row;") ∈ gW := gW_at 135 rfl rfl
set_option maxRecDepth 100000 in
theorem wm136 : (Jvm.Cond.fieldLink "DeltaMaker$Placer" (27 : Nat) "DeltaMaker$Placer" "aside" "[Z") ∈ gW := gW_at 136 rfl rfl
set_option maxRecDepth 100000 in
theorem wm137 : (Jvm.Cond.fieldLink "DeltaMaker$Placer" (31 : Nat) "DeltaMaker$Placer" "turns" "[I") ∈ gW := gW_at 137 rfl rfl
set_option maxRecDepth 100000 in
theorem wm138 : (Jvm.Cond.fieldLink "DeltaMaker$Placer" (35 : Nat) "DeltaMaker$Placer" "blockers" "[I") ∈ gW := gW_at 138 rfl rfl
set_option maxRecDepth 100000 in
theorem wm139 : (Jvm.Cond.fieldLink "DeltaMaker$Placer" (38 : Nat) "DeltaMaker$Placer" "done" "I") ∈ gW := gW_at 139 rfl rfl
set_option maxRecDepth 100000 in
theorem wm155 : (Jvm.Cond.arrayClass Jvm.ClassFile.FieldType.boolean) ∈ gW := gW_at 155 rfl rfl
set_option maxRecDepth 100000 in
theorem wm156 : (Jvm.Cond.fieldLink "DeltaMaker" (14 : Nat) "DeltaMaker" "tape" "LDeltaMaker$Row;") ∈ gW := gW_at 156 rfl rfl
set_option maxRecDepth 100000 in
theorem wm157 : (Jvm.Cond.fieldLink "DeltaMaker" (18 : Nat) "DeltaMaker" "first" "LDeltaMaker$Row;") ∈ gW := gW_at 157 rfl rfl
set_option maxRecDepth 100000 in
theorem wm158 : (Jvm.Cond.fieldLink "DeltaMaker" (21 : Nat) "DeltaMaker" "second" "LDeltaMaker$Row;") ∈ gW := gW_at 158 rfl rfl
set_option maxRecDepth 100000 in
theorem wm159 : (Jvm.Cond.fieldLink "DeltaMaker" (24 : Nat) "DeltaMaker" "patch" "LDeltaMaker$Row;") ∈ gW := gW_at 159 rfl rfl
set_option maxRecDepth 100000 in
theorem wm160 : (Jvm.Cond.fieldLink "DeltaMaker" (27 : Nat) "DeltaMaker" "output" "LDeltaMaker$Row;") ∈ gW := gW_at 160 rfl rfl
set_option maxRecDepth 100000 in
theorem wm161 : (Jvm.Cond.fieldLink "DeltaMaker" (30 : Nat) "DeltaMaker" "memory" "LDeltaMaker$Row;") ∈ gW := gW_at 161 rfl rfl
set_option maxRecDepth 100000 in
theorem wm162 : (Jvm.Cond.fieldLink "DeltaMaker" (36 : Nat) "DeltaMaker" "plan" "LDeltaMaker$Plan;") ∈ gW := gW_at 162 rfl rfl
set_option maxRecDepth 100000 in
theorem wm163 : (Jvm.Cond.fieldLink "DeltaMaker" (45 : Nat) "DeltaMaker" "applier" "LDeltaMaker$Applier;") ∈ gW := gW_at 163 rfl rfl
set_option maxRecDepth 100000 in
theorem wm164 : (Jvm.Cond.fieldLink "DeltaMaker" (54 : Nat) "DeltaMaker" "placer" "LDeltaMaker$Placer;") ∈ gW := gW_at 164 rfl rfl
set_option maxRecDepth 100000 in
theorem wm184 : (Jvm.Cond.methodLink "DeltaMakerLaw" (15 : Nat) ({ cls := "DeltaMaker", name := "feed", desc := "(JI)Z" } : Jvm.MethodName)) ∈ gW := gW_at 184 rfl rfl
set_option maxRecDepth 100000 in
theorem wm185 : (Jvm.Cond.instanceMethod ({ cls := "DeltaMaker", name := "feed", desc := "(JI)Z" } : Jvm.MethodName)) ∈ gW := gW_at 185 rfl rfl
set_option maxRecDepth 100000 in
theorem wm186 : (Jvm.Cond.selects "DeltaMaker" ({ cls := "DeltaMaker", name := "feed", desc := "(JI)Z" } : Jvm.MethodName) ({ cls := "DeltaMaker", name := "feed", desc := "(JI)Z" } : Jvm.MethodName)) ∈ gW := gW_at 186 rfl rfl
set_option maxRecDepth 100000 in
theorem wm188 : (Jvm.Cond.methodLink "DeltaMaker" (58 : Nat) ({ cls := "DeltaMaker$Row", name := "most", desc := "()I" } : Jvm.MethodName)) ∈ gW := gW_at 188 rfl rfl
set_option maxRecDepth 100000 in
theorem wm189 : (Jvm.Cond.instanceMethod ({ cls := "DeltaMaker$Row", name := "most", desc := "()I" } : Jvm.MethodName)) ∈ gW := gW_at 189 rfl rfl
set_option maxRecDepth 100000 in
theorem wm190 : (Jvm.Cond.selects "DeltaMaker$Row" ({ cls := "DeltaMaker$Row", name := "most", desc := "()I" } : Jvm.MethodName) ({ cls := "DeltaMaker$Row", name := "most", desc := "()I" } : Jvm.MethodName)) ∈ gW := gW_at 190 rfl rfl
set_option maxRecDepth 100000 in
theorem wm192 : (Jvm.Cond.methodLink "DeltaMaker" (62 : Nat) ({ cls := "DeltaMaker$Row", name := "count", desc := "()I" } : Jvm.MethodName)) ∈ gW := gW_at 192 rfl rfl
set_option maxRecDepth 100000 in
theorem wm193 : (Jvm.Cond.instanceMethod ({ cls := "DeltaMaker$Row", name := "count", desc := "()I" } : Jvm.MethodName)) ∈ gW := gW_at 193 rfl rfl
set_option maxRecDepth 100000 in
theorem wm194 : (Jvm.Cond.selects "DeltaMaker$Row" ({ cls := "DeltaMaker$Row", name := "count", desc := "()I" } : Jvm.MethodName) ({ cls := "DeltaMaker$Row", name := "count", desc := "()I" } : Jvm.MethodName)) ∈ gW := gW_at 194 rfl rfl
set_option maxRecDepth 100000 in
theorem wm196 : (Jvm.Cond.methodLink "DeltaMaker" (65 : Nat) ({ cls := "DeltaMaker$Row", name := "add", desc := "(I)V" } : Jvm.MethodName)) ∈ gW := gW_at 196 rfl rfl
set_option maxRecDepth 100000 in
theorem wm197 : (Jvm.Cond.instanceMethod ({ cls := "DeltaMaker$Row", name := "add", desc := "(I)V" } : Jvm.MethodName)) ∈ gW := gW_at 197 rfl rfl
set_option maxRecDepth 100000 in
theorem wm198 : (Jvm.Cond.selects "DeltaMaker$Row" ({ cls := "DeltaMaker$Row", name := "add", desc := "(I)V" } : Jvm.MethodName) ({ cls := "DeltaMaker$Row", name := "add", desc := "(I)V" } : Jvm.MethodName)) ∈ gW := gW_at 198 rfl rfl
set_option maxRecDepth 100000 in
theorem wm200 : (Jvm.Cond.methodLink "DeltaMakerLaw" (20 : Nat) ({ cls := "DeltaMaker", name := "take", desc := "(I)Z" } : Jvm.MethodName)) ∈ gW := gW_at 200 rfl rfl
set_option maxRecDepth 100000 in
theorem wm201 : (Jvm.Cond.instanceMethod ({ cls := "DeltaMaker", name := "take", desc := "(I)Z" } : Jvm.MethodName)) ∈ gW := gW_at 201 rfl rfl
set_option maxRecDepth 100000 in
theorem wm202 : (Jvm.Cond.selects "DeltaMaker" ({ cls := "DeltaMaker", name := "take", desc := "(I)Z" } : Jvm.MethodName) ({ cls := "DeltaMaker", name := "take", desc := "(I)Z" } : Jvm.MethodName)) ∈ gW := gW_at 202 rfl rfl
set_option maxRecDepth 100000 in
theorem wm204 : (Jvm.Cond.methodLink "DeltaMaker" (68 : Nat) ({ cls := "DeltaMaker", name := "rowNamed", desc := "(I)LDeltaMaker$Row;" } : Jvm.MethodName)) ∈ gW := gW_at 204 rfl rfl
set_option maxRecDepth 100000 in
theorem wm206 : (Jvm.Cond.instanceMethod ({ cls := "DeltaMaker", name := "rowNamed", desc := "(I)LDeltaMaker$Row;" } : Jvm.MethodName)) ∈ gW := gW_at 206 rfl rfl
set_option maxRecDepth 100000 in
theorem wm208 : (Jvm.Cond.methodLink "DeltaMaker" (72 : Nat) ({ cls := "DeltaMaker$Row", name := "become", desc := "(LDeltaMaker$Row;)V" } : Jvm.MethodName)) ∈ gW := gW_at 208 rfl rfl
set_option maxRecDepth 100000 in
theorem wm209 : (Jvm.Cond.instanceMethod ({ cls := "DeltaMaker$Row", name := "become", desc := "(LDeltaMaker$Row;)V" } : Jvm.MethodName)) ∈ gW := gW_at 209 rfl rfl
set_option maxRecDepth 100000 in
theorem wm210 : (Jvm.Cond.selects "DeltaMaker$Row" ({ cls := "DeltaMaker$Row", name := "become", desc := "(LDeltaMaker$Row;)V" } : Jvm.MethodName) ({ cls := "DeltaMaker$Row", name := "become", desc := "(LDeltaMaker$Row;)V" } : Jvm.MethodName)) ∈ gW := gW_at 210 rfl rfl
set_option maxRecDepth 100000 in
theorem wm212 : (Jvm.Cond.methodLink "DeltaMaker$Row" (39 : Nat) ({ cls := "DeltaMaker$Row", name := "clear", desc := "()V" } : Jvm.MethodName)) ∈ gW := gW_at 212 rfl rfl
set_option maxRecDepth 100000 in
theorem wm213 : (Jvm.Cond.instanceMethod ({ cls := "DeltaMaker$Row", name := "clear", desc := "()V" } : Jvm.MethodName)) ∈ gW := gW_at 213 rfl rfl
set_option maxRecDepth 100000 in
theorem wm214 : (Jvm.Cond.selects "DeltaMaker$Row" ({ cls := "DeltaMaker$Row", name := "clear", desc := "()V" } : Jvm.MethodName) ({ cls := "DeltaMaker$Row", name := "clear", desc := "()V" } : Jvm.MethodName)) ∈ gW := gW_at 214 rfl rfl
set_option maxRecDepth 100000 in
theorem wm216 : (Jvm.Cond.methodLink "DeltaMaker$Row" (28 : Nat) ({ cls := "DeltaMaker$Row", name := "count", desc := "()I" } : Jvm.MethodName)) ∈ gW := gW_at 216 rfl rfl
set_option maxRecDepth 100000 in
theorem wm217 : (Jvm.Cond.methodLink "DeltaMaker$Row" (42 : Nat) ({ cls := "DeltaMaker$Row", name := "addFrom", desc := "(LDeltaMaker$Row;II)V" } : Jvm.MethodName)) ∈ gW := gW_at 217 rfl rfl
set_option maxRecDepth 100000 in
theorem wm218 : (Jvm.Cond.instanceMethod ({ cls := "DeltaMaker$Row", name := "addFrom", desc := "(LDeltaMaker$Row;II)V" } : Jvm.MethodName)) ∈ gW := gW_at 218 rfl rfl
set_option maxRecDepth 100000 in
theorem wm219 : (Jvm.Cond.selects "DeltaMaker$Row" ({ cls := "DeltaMaker$Row", name := "addFrom", desc := "(LDeltaMaker$Row;II)V" } : Jvm.MethodName) ({ cls := "DeltaMaker$Row", name := "addFrom", desc := "(LDeltaMaker$Row;II)V" } : Jvm.MethodName)) ∈ gW := gW_at 219 rfl rfl
set_option maxRecDepth 100000 in
theorem wm221 : (Jvm.Cond.methodLink "DeltaMaker$Row" (25 : Nat) ({ cls := "java/lang/Math", name := "min", desc := "(II)I" } : Jvm.MethodName)) ∈ gW := gW_at 221 rfl rfl
set_option maxRecDepth 100000 in
theorem wm222 : (Jvm.Cond.static ({ cls := "java/lang/Math", name := "min", desc := "(II)I" } : Jvm.MethodName)) ∈ gW := gW_at 222 rfl rfl
set_option maxRecDepth 100000 in
theorem wm223 : (Jvm.Cond.code ({ cls := "java/lang/Math", name := "min", desc := "(II)I" } : Jvm.MethodName) prog_8_method_69_code (2 : Nat) (Option.some Jvm.ClassFile.FieldType.int)) ∈ gW := gW_at 223 rfl rfl
set_option maxRecDepth 100000 in
theorem wm224 : (Jvm.Cond.methodLink "DeltaMaker$Row" (31 : Nat) ({ cls := "DeltaMaker$Row", name := "at", desc := "(I)I" } : Jvm.MethodName)) ∈ gW := gW_at 224 rfl rfl
set_option maxRecDepth 100000 in
theorem wm225 : (Jvm.Cond.instanceMethod ({ cls := "DeltaMaker$Row", name := "at", desc := "(I)I" } : Jvm.MethodName)) ∈ gW := gW_at 225 rfl rfl
set_option maxRecDepth 100000 in
theorem wm226 : (Jvm.Cond.selects "DeltaMaker$Row" ({ cls := "DeltaMaker$Row", name := "at", desc := "(I)I" } : Jvm.MethodName) ({ cls := "DeltaMaker$Row", name := "at", desc := "(I)I" } : Jvm.MethodName)) ∈ gW := gW_at 226 rfl rfl
set_option maxRecDepth 100000 in
theorem wm228 : (Jvm.Cond.methodLink "DeltaMaker$Row" (35 : Nat) ({ cls := "DeltaMaker$Row", name := "add", desc := "(I)V" } : Jvm.MethodName)) ∈ gW := gW_at 228 rfl rfl
set_option maxRecDepth 100000 in
theorem wm229 : (Jvm.Cond.methodLink "DeltaMaker" (76 : Nat) ({ cls := "DeltaMaker$Row", name := "clear", desc := "()V" } : Jvm.MethodName)) ∈ gW := gW_at 229 rfl rfl
set_option maxRecDepth 100000 in
theorem wm230 : (Jvm.Cond.methodLink "DeltaMakerLaw" (25 : Nat) ({ cls := "DeltaMaker", name := "make", desc := "()I" } : Jvm.MethodName)) ∈ gW := gW_at 230 rfl rfl
set_option maxRecDepth 100000 in
theorem wm231 : (Jvm.Cond.instanceMethod ({ cls := "DeltaMaker", name := "make", desc := "()I" } : Jvm.MethodName)) ∈ gW := gW_at 231 rfl rfl
set_option maxRecDepth 100000 in
theorem wm232 : (Jvm.Cond.selects "DeltaMaker" ({ cls := "DeltaMaker", name := "make", desc := "()I" } : Jvm.MethodName) ({ cls := "DeltaMaker", name := "make", desc := "()I" } : Jvm.MethodName)) ∈ gW := gW_at 232 rfl rfl
set_option maxRecDepth 100000 in
theorem wm234 : (Jvm.Cond.methodLink "DeltaMaker" (79 : Nat) ({ cls := "DeltaMaker$Plan", name := "layOut", desc := "(LDeltaMaker$Row;LDeltaMaker$Row;)V" } : Jvm.MethodName)) ∈ gW := gW_at 234 rfl rfl
set_option maxRecDepth 100000 in
theorem wm235 : (Jvm.Cond.instanceMethod ({ cls := "DeltaMaker$Plan", name := "layOut", desc := "(LDeltaMaker$Row;LDeltaMaker$Row;)V" } : Jvm.MethodName)) ∈ gW := gW_at 235 rfl rfl
set_option maxRecDepth 100000 in
theorem wm236 : (Jvm.Cond.selects "DeltaMaker$Plan" ({ cls := "DeltaMaker$Plan", name := "layOut", desc := "(LDeltaMaker$Row;LDeltaMaker$Row;)V" } : Jvm.MethodName) ({ cls := "DeltaMaker$Plan", name := "layOut", desc := "(LDeltaMaker$Row;LDeltaMaker$Row;)V" } : Jvm.MethodName)) ∈ gW := gW_at 236 rfl rfl
set_option maxRecDepth 100000 in
theorem wm238 : (Jvm.Cond.methodLink "DeltaMaker$Plan" (45 : Nat) ({ cls := "DeltaMaker$Row", name := "become", desc := "(LDeltaMaker$Row;)V" } : Jvm.MethodName)) ∈ gW := gW_at 238 rfl rfl
set_option maxRecDepth 100000 in
theorem wm239 : (Jvm.Cond.methodLink "DeltaMaker$Plan" (49 : Nat) ({ cls := "DeltaMaker$Row", name := "count", desc := "()I" } : Jvm.MethodName)) ∈ gW := gW_at 239 rfl rfl
set_option maxRecDepth 100000 in
theorem wm240 : (Jvm.Cond.methodLink "DeltaMaker$Plan" (52 : Nat) ({ cls := "DeltaMaker$Plan", name := "placeOfLongestRun", desc := "(I)I" } : Jvm.MethodName)) ∈ gW := gW_at 240 rfl rfl
set_option maxRecDepth 100000 in
theorem wm242 : (Jvm.Cond.instanceMethod ({ cls := "DeltaMaker$Plan", name := "placeOfLongestRun", desc := "(I)I" } : Jvm.MethodName)) ∈ gW := gW_at 242 rfl rfl
set_option maxRecDepth 100000 in
theorem wm244 : (Jvm.Cond.methodLink "DeltaMaker$Plan" (55 : Nat) ({ cls := "DeltaMaker$Row", name := "sameFrom", desc := "(ILDeltaMaker$Row;I)I" } : Jvm.MethodName)) ∈ gW := gW_at 244 rfl rfl
set_option maxRecDepth 100000 in
theorem wm245 : (Jvm.Cond.instanceMethod ({ cls := "DeltaMaker$Row", name := "sameFrom", desc := "(ILDeltaMaker$Row;I)I" } : Jvm.MethodName)) ∈ gW := gW_at 245 rfl rfl
set_option maxRecDepth 100000 in
theorem wm246 : (Jvm.Cond.selects "DeltaMaker$Row" ({ cls := "DeltaMaker$Row", name := "sameFrom", desc := "(ILDeltaMaker$Row;I)I" } : Jvm.MethodName) ({ cls := "DeltaMaker$Row", name := "sameFrom", desc := "(ILDeltaMaker$Row;I)I" } : Jvm.MethodName)) ∈ gW := gW_at 246 rfl rfl
set_option maxRecDepth 100000 in
theorem wm248 : (Jvm.Cond.methodLink "DeltaMaker$Plan" (59 : Nat) ({ cls := "DeltaMaker$Plan", name := "append", desc := "(III)V" } : Jvm.MethodName)) ∈ gW := gW_at 248 rfl rfl
set_option maxRecDepth 100000 in
theorem wm250 : (Jvm.Cond.instanceMethod ({ cls := "DeltaMaker$Plan", name := "append", desc := "(III)V" } : Jvm.MethodName)) ∈ gW := gW_at 250 rfl rfl
set_option maxRecDepth 100000 in
theorem wm252 : (Jvm.Cond.methodLink "DeltaMaker$Plan" (63 : Nat) ({ cls := "DeltaMaker$Plan", name := "addByte", desc := "(I)V" } : Jvm.MethodName)) ∈ gW := gW_at 252 rfl rfl
set_option maxRecDepth 100000 in
theorem wm254 : (Jvm.Cond.instanceMethod ({ cls := "DeltaMaker$Plan", name := "addByte", desc := "(I)V" } : Jvm.MethodName)) ∈ gW := gW_at 254 rfl rfl
set_option maxRecDepth 100000 in
theorem wm256 : (Jvm.Cond.methodLink "DeltaMaker$Plan" (41 : Nat) ({ cls := "DeltaMaker$Plan", name := "has", desc := "(I)Z" } : Jvm.MethodName)) ∈ gW := gW_at 256 rfl rfl
set_option maxRecDepth 100000 in
theorem wm257 : (Jvm.Cond.instanceMethod ({ cls := "DeltaMaker$Plan", name := "has", desc := "(I)Z" } : Jvm.MethodName)) ∈ gW := gW_at 257 rfl rfl
set_option maxRecDepth 100000 in
theorem wm258 : (Jvm.Cond.selects "DeltaMaker$Plan" ({ cls := "DeltaMaker$Plan", name := "has", desc := "(I)Z" } : Jvm.MethodName) ({ cls := "DeltaMaker$Plan", name := "has", desc := "(I)Z" } : Jvm.MethodName)) ∈ gW := gW_at 258 rfl rfl
set_option maxRecDepth 100000 in
theorem wm260 : (Jvm.Cond.methodLink "DeltaMaker$Plan" (66 : Nat) ({ cls := "DeltaMaker$Plan", name := "isCopy", desc := "(I)Z" } : Jvm.MethodName)) ∈ gW := gW_at 260 rfl rfl
set_option maxRecDepth 100000 in
theorem wm261 : (Jvm.Cond.instanceMethod ({ cls := "DeltaMaker$Plan", name := "isCopy", desc := "(I)Z" } : Jvm.MethodName)) ∈ gW := gW_at 261 rfl rfl
set_option maxRecDepth 100000 in
theorem wm262 : (Jvm.Cond.selects "DeltaMaker$Plan" ({ cls := "DeltaMaker$Plan", name := "isCopy", desc := "(I)Z" } : Jvm.MethodName) ({ cls := "DeltaMaker$Plan", name := "isCopy", desc := "(I)Z" } : Jvm.MethodName)) ∈ gW := gW_at 262 rfl rfl
set_option maxRecDepth 100000 in
theorem wm264 : (Jvm.Cond.methodLink "DeltaMaker$Plan" (37 : Nat) ({ cls := "DeltaMaker$Plan", name := "source", desc := "(I)I" } : Jvm.MethodName)) ∈ gW := gW_at 264 rfl rfl
set_option maxRecDepth 100000 in
theorem wm265 : (Jvm.Cond.instanceMethod ({ cls := "DeltaMaker$Plan", name := "source", desc := "(I)I" } : Jvm.MethodName)) ∈ gW := gW_at 265 rfl rfl
set_option maxRecDepth 100000 in
theorem wm266 : (Jvm.Cond.selects "DeltaMaker$Plan" ({ cls := "DeltaMaker$Plan", name := "source", desc := "(I)I" } : Jvm.MethodName) ({ cls := "DeltaMaker$Plan", name := "source", desc := "(I)I" } : Jvm.MethodName)) ∈ gW := gW_at 266 rfl rfl
set_option maxRecDepth 100000 in
theorem wm268 : (Jvm.Cond.methodLink "DeltaMaker$Plan" (69 : Nat) ({ cls := "DeltaMaker$Plan", name := "length", desc := "(I)I" } : Jvm.MethodName)) ∈ gW := gW_at 268 rfl rfl
set_option maxRecDepth 100000 in
theorem wm269 : (Jvm.Cond.instanceMethod ({ cls := "DeltaMaker$Plan", name := "length", desc := "(I)I" } : Jvm.MethodName)) ∈ gW := gW_at 269 rfl rfl
set_option maxRecDepth 100000 in
theorem wm270 : (Jvm.Cond.selects "DeltaMaker$Plan" ({ cls := "DeltaMaker$Plan", name := "length", desc := "(I)I" } : Jvm.MethodName) ({ cls := "DeltaMaker$Plan", name := "length", desc := "(I)I" } : Jvm.MethodName)) ∈ gW := gW_at 270 rfl rfl
set_option maxRecDepth 100000 in
theorem wm272 : (Jvm.Cond.methodLink "DeltaMaker" (83 : Nat) ({ cls := "DeltaMaker$Placer", name := "forget", desc := "()V" } : Jvm.MethodName)) ∈ gW := gW_at 272 rfl rfl
set_option maxRecDepth 100000 in
theorem wm273 : (Jvm.Cond.instanceMethod ({ cls := "DeltaMaker$Placer", name := "forget", desc := "()V" } : Jvm.MethodName)) ∈ gW := gW_at 273 rfl rfl
set_option maxRecDepth 100000 in
theorem wm274 : (Jvm.Cond.selects "DeltaMaker$Placer" ({ cls := "DeltaMaker$Placer", name := "forget", desc := "()V" } : Jvm.MethodName) ({ cls := "DeltaMaker$Placer", name := "forget", desc := "()V" } : Jvm.MethodName)) ∈ gW := gW_at 274 rfl rfl
set_option maxRecDepth 100000 in
theorem wm276 : (Jvm.Cond.methodLink "DeltaMaker" (86 : Nat) ({ cls := "DeltaMaker$Plan", name := "writeTo", desc := "(LDeltaMaker$Row;)V" } : Jvm.MethodName)) ∈ gW := gW_at 276 rfl rfl
set_option maxRecDepth 100000 in
theorem wm277 : (Jvm.Cond.instanceMethod ({ cls := "DeltaMaker$Plan", name := "writeTo", desc := "(LDeltaMaker$Row;)V" } : Jvm.MethodName)) ∈ gW := gW_at 277 rfl rfl
set_option maxRecDepth 100000 in
theorem wm278 : (Jvm.Cond.selects "DeltaMaker$Plan" ({ cls := "DeltaMaker$Plan", name := "writeTo", desc := "(LDeltaMaker$Row;)V" } : Jvm.MethodName) ({ cls := "DeltaMaker$Plan", name := "writeTo", desc := "(LDeltaMaker$Row;)V" } : Jvm.MethodName)) ∈ gW := gW_at 278 rfl rfl
set_option maxRecDepth 100000 in
theorem wm280 : (Jvm.Cond.methodLink "DeltaMaker$Plan" (72 : Nat) ({ cls := "DeltaMaker$Row", name := "clear", desc := "()V" } : Jvm.MethodName)) ∈ gW := gW_at 280 rfl rfl
set_option maxRecDepth 100000 in
theorem wm281 : (Jvm.Cond.methodLink "DeltaMaker$Plan" (75 : Nat) ({ cls := "DeltaMaker$Row", name := "addVarint", desc := "(I)V" } : Jvm.MethodName)) ∈ gW := gW_at 281 rfl rfl
set_option maxRecDepth 100000 in
theorem wm282 : (Jvm.Cond.instanceMethod ({ cls := "DeltaMaker$Row", name := "addVarint", desc := "(I)V" } : Jvm.MethodName)) ∈ gW := gW_at 282 rfl rfl
set_option maxRecDepth 100000 in
theorem wm283 : (Jvm.Cond.selects "DeltaMaker$Row" ({ cls := "DeltaMaker$Row", name := "addVarint", desc := "(I)V" } : Jvm.MethodName) ({ cls := "DeltaMaker$Row", name := "addVarint", desc := "(I)V" } : Jvm.MethodName)) ∈ gW := gW_at 283 rfl rfl
set_option maxRecDepth 100000 in
theorem wm285 : (Jvm.Cond.methodLink "DeltaMaker$Plan" (78 : Nat) ({ cls := "DeltaMaker$Row", name := "digest", desc := "()I" } : Jvm.MethodName)) ∈ gW := gW_at 285 rfl rfl
set_option maxRecDepth 100000 in
theorem wm286 : (Jvm.Cond.instanceMethod ({ cls := "DeltaMaker$Row", name := "digest", desc := "()I" } : Jvm.MethodName)) ∈ gW := gW_at 286 rfl rfl
set_option maxRecDepth 100000 in
theorem wm287 : (Jvm.Cond.selects "DeltaMaker$Row" ({ cls := "DeltaMaker$Row", name := "digest", desc := "()I" } : Jvm.MethodName) ({ cls := "DeltaMaker$Row", name := "digest", desc := "()I" } : Jvm.MethodName)) ∈ gW := gW_at 287 rfl rfl
set_option maxRecDepth 100000 in
theorem wm289 : (Jvm.Cond.constant "DeltaMaker$Row" (46 : Nat) (-2048144777 : Int32)) ∈ gW := gW_at 289 rfl rfl
set_option maxRecDepth 100000 in
theorem wm290 : (Jvm.Cond.methodLink "DeltaMaker$Plan" (81 : Nat) ({ cls := "DeltaMaker$Row", name := "addWord", desc := "(I)V" } : Jvm.MethodName)) ∈ gW := gW_at 290 rfl rfl
set_option maxRecDepth 100000 in
theorem wm291 : (Jvm.Cond.instanceMethod ({ cls := "DeltaMaker$Row", name := "addWord", desc := "(I)V" } : Jvm.MethodName)) ∈ gW := gW_at 291 rfl rfl
set_option maxRecDepth 100000 in
theorem wm292 : (Jvm.Cond.selects "DeltaMaker$Row" ({ cls := "DeltaMaker$Row", name := "addWord", desc := "(I)V" } : Jvm.MethodName) ({ cls := "DeltaMaker$Row", name := "addWord", desc := "(I)V" } : Jvm.MethodName)) ∈ gW := gW_at 292 rfl rfl
set_option maxRecDepth 100000 in
theorem wm294 : (Jvm.Cond.methodLink "DeltaMaker$Plan" (84 : Nat) ({ cls := "DeltaMaker$Plan", name := "withoutSign", desc := "(I)I" } : Jvm.MethodName)) ∈ gW := gW_at 294 rfl rfl
set_option maxRecDepth 100000 in
theorem wm295 : (Jvm.Cond.static ({ cls := "DeltaMaker$Plan", name := "withoutSign", desc := "(I)I" } : Jvm.MethodName)) ∈ gW := gW_at 295 rfl rfl
set_option maxRecDepth 100000 in
theorem wm297 : (Jvm.Cond.methodLink "DeltaMaker$Plan" (87 : Nat) ({ cls := "DeltaMaker$Plan", name := "place", desc := "(I)I" } : Jvm.MethodName)) ∈ gW := gW_at 297 rfl rfl
set_option maxRecDepth 100000 in
theorem wm298 : (Jvm.Cond.instanceMethod ({ cls := "DeltaMaker$Plan", name := "place", desc := "(I)I" } : Jvm.MethodName)) ∈ gW := gW_at 298 rfl rfl
set_option maxRecDepth 100000 in
theorem wm299 : (Jvm.Cond.selects "DeltaMaker$Plan" ({ cls := "DeltaMaker$Plan", name := "place", desc := "(I)I" } : Jvm.MethodName) ({ cls := "DeltaMaker$Plan", name := "place", desc := "(I)I" } : Jvm.MethodName)) ∈ gW := gW_at 299 rfl rfl
set_option maxRecDepth 100000 in
theorem wm301 : (Jvm.Cond.methodLink "DeltaMaker$Plan" (90 : Nat) ({ cls := "DeltaMaker$Row", name := "addFrom", desc := "(LDeltaMaker$Row;II)V" } : Jvm.MethodName)) ∈ gW := gW_at 301 rfl rfl
set_option maxRecDepth 100000 in
theorem wm302 : (Jvm.Cond.methodLink "DeltaMakerLaw" (30 : Nat) ({ cls := "DeltaMaker", name := "byteAt", desc := "(II)I" } : Jvm.MethodName)) ∈ gW := gW_at 302 rfl rfl
set_option maxRecDepth 100000 in
theorem wm303 : (Jvm.Cond.instanceMethod ({ cls := "DeltaMaker", name := "byteAt", desc := "(II)I" } : Jvm.MethodName)) ∈ gW := gW_at 303 rfl rfl
set_option maxRecDepth 100000 in
theorem wm304 : (Jvm.Cond.selects "DeltaMaker" ({ cls := "DeltaMaker", name := "byteAt", desc := "(II)I" } : Jvm.MethodName) ({ cls := "DeltaMaker", name := "byteAt", desc := "(II)I" } : Jvm.MethodName)) ∈ gW := gW_at 304 rfl rfl
set_option maxRecDepth 100000 in
theorem wm306 : (Jvm.Cond.methodLink "DeltaMaker" (89 : Nat) ({ cls := "DeltaMaker$Row", name := "at", desc := "(I)I" } : Jvm.MethodName)) ∈ gW := gW_at 306 rfl rfl
set_option maxRecDepth 100000 in
theorem wm307 : (Jvm.Cond.methodLink "DeltaMakerLaw" (35 : Nat) ({ cls := "DeltaMaker", name := "size", desc := "(I)I" } : Jvm.MethodName)) ∈ gW := gW_at 307 rfl rfl
set_option maxRecDepth 100000 in
theorem wm308 : (Jvm.Cond.instanceMethod ({ cls := "DeltaMaker", name := "size", desc := "(I)I" } : Jvm.MethodName)) ∈ gW := gW_at 308 rfl rfl
set_option maxRecDepth 100000 in
theorem wm309 : (Jvm.Cond.selects "DeltaMaker" ({ cls := "DeltaMaker", name := "size", desc := "(I)I" } : Jvm.MethodName) ({ cls := "DeltaMaker", name := "size", desc := "(I)I" } : Jvm.MethodName)) ∈ gW := gW_at 309 rfl rfl
set_option maxRecDepth 100000 in
theorem wm311 : (Jvm.Cond.methodLink "DeltaMakerLaw" (40 : Nat) ({ cls := "DeltaMaker", name := "steps", desc := "()I" } : Jvm.MethodName)) ∈ gW := gW_at 311 rfl rfl
set_option maxRecDepth 100000 in
theorem wm312 : (Jvm.Cond.instanceMethod ({ cls := "DeltaMaker", name := "steps", desc := "()I" } : Jvm.MethodName)) ∈ gW := gW_at 312 rfl rfl
set_option maxRecDepth 100000 in
theorem wm313 : (Jvm.Cond.selects "DeltaMaker" ({ cls := "DeltaMaker", name := "steps", desc := "()I" } : Jvm.MethodName) ({ cls := "DeltaMaker", name := "steps", desc := "()I" } : Jvm.MethodName)) ∈ gW := gW_at 313 rfl rfl
set_option maxRecDepth 100000 in
theorem wm315 : (Jvm.Cond.methodLink "DeltaMaker" (93 : Nat) ({ cls := "DeltaMaker$Plan", name := "count", desc := "()I" } : Jvm.MethodName)) ∈ gW := gW_at 315 rfl rfl
set_option maxRecDepth 100000 in
theorem wm316 : (Jvm.Cond.instanceMethod ({ cls := "DeltaMaker$Plan", name := "count", desc := "()I" } : Jvm.MethodName)) ∈ gW := gW_at 316 rfl rfl
set_option maxRecDepth 100000 in
theorem wm317 : (Jvm.Cond.selects "DeltaMaker$Plan" ({ cls := "DeltaMaker$Plan", name := "count", desc := "()I" } : Jvm.MethodName) ({ cls := "DeltaMaker$Plan", name := "count", desc := "()I" } : Jvm.MethodName)) ∈ gW := gW_at 317 rfl rfl
set_option maxRecDepth 100000 in
theorem wm319 : (Jvm.Cond.methodLink "DeltaMakerLaw" (44 : Nat) ({ cls := "DeltaMaker", name := "step", desc := "(II)I" } : Jvm.MethodName)) ∈ gW := gW_at 319 rfl rfl
set_option maxRecDepth 100000 in
theorem wm320 : (Jvm.Cond.instanceMethod ({ cls := "DeltaMaker", name := "step", desc := "(II)I" } : Jvm.MethodName)) ∈ gW := gW_at 320 rfl rfl
set_option maxRecDepth 100000 in
theorem wm321 : (Jvm.Cond.selects "DeltaMaker" ({ cls := "DeltaMaker", name := "step", desc := "(II)I" } : Jvm.MethodName) ({ cls := "DeltaMaker", name := "step", desc := "(II)I" } : Jvm.MethodName)) ∈ gW := gW_at 321 rfl rfl
set_option maxRecDepth 100000 in
theorem wm323 : (Jvm.Cond.methodLink "DeltaMaker" (94 : Nat) ({ cls := "DeltaMaker$Plan", name := "has", desc := "(I)Z" } : Jvm.MethodName)) ∈ gW := gW_at 323 rfl rfl
set_option maxRecDepth 100000 in
theorem wm324 : (Jvm.Cond.methodLink "DeltaMaker" (98 : Nat) ({ cls := "DeltaMaker$Plan", name := "isCopy", desc := "(I)Z" } : Jvm.MethodName)) ∈ gW := gW_at 324 rfl rfl
set_option maxRecDepth 100000 in
theorem wm325 : (Jvm.Cond.methodLink "DeltaMaker" (101 : Nat) ({ cls := "DeltaMaker$Plan", name := "place", desc := "(I)I" } : Jvm.MethodName)) ∈ gW := gW_at 325 rfl rfl
set_option maxRecDepth 100000 in
theorem wm326 : (Jvm.Cond.methodLink "DeltaMaker" (104 : Nat) ({ cls := "DeltaMaker$Plan", name := "length", desc := "(I)I" } : Jvm.MethodName)) ∈ gW := gW_at 326 rfl rfl
set_option maxRecDepth 100000 in
theorem wm327 : (Jvm.Cond.methodLink "DeltaMaker" (107 : Nat) ({ cls := "DeltaMaker$Plan", name := "source", desc := "(I)I" } : Jvm.MethodName)) ∈ gW := gW_at 327 rfl rfl
set_option maxRecDepth 100000 in
theorem wm328 : (Jvm.Cond.methodLink "DeltaMaker" (110 : Nat) ({ cls := "DeltaMaker$Placer", name := "wasPutAside", desc := "(I)Z" } : Jvm.MethodName)) ∈ gW := gW_at 328 rfl rfl
set_option maxRecDepth 100000 in
theorem wm329 : (Jvm.Cond.instanceMethod ({ cls := "DeltaMaker$Placer", name := "wasPutAside", desc := "(I)Z" } : Jvm.MethodName)) ∈ gW := gW_at 329 rfl rfl
set_option maxRecDepth 100000 in
theorem wm330 : (Jvm.Cond.selects "DeltaMaker$Placer" ({ cls := "DeltaMaker$Placer", name := "wasPutAside", desc := "(I)Z" } : Jvm.MethodName) ({ cls := "DeltaMaker$Placer", name := "wasPutAside", desc := "(I)Z" } : Jvm.MethodName)) ∈ gW := gW_at 330 rfl rfl
set_option maxRecDepth 100000 in
theorem wm332 : (Jvm.Cond.methodLink "DeltaMaker" (113 : Nat) ({ cls := "DeltaMaker$Placer", name := "turnOf", desc := "(I)I" } : Jvm.MethodName)) ∈ gW := gW_at 332 rfl rfl
set_option maxRecDepth 100000 in
theorem wm333 : (Jvm.Cond.instanceMethod ({ cls := "DeltaMaker$Placer", name := "turnOf", desc := "(I)I" } : Jvm.MethodName)) ∈ gW := gW_at 333 rfl rfl
set_option maxRecDepth 100000 in
theorem wm334 : (Jvm.Cond.selects "DeltaMaker$Placer" ({ cls := "DeltaMaker$Placer", name := "turnOf", desc := "(I)I" } : Jvm.MethodName) ({ cls := "DeltaMaker$Placer", name := "turnOf", desc := "(I)I" } : Jvm.MethodName)) ∈ gW := gW_at 334 rfl rfl
set_option maxRecDepth 100000 in
theorem wm336 : (Jvm.Cond.methodLink "DeltaMakerLaw" (48 : Nat) ({ cls := "DeltaMaker", name := "apply", desc := "()I" } : Jvm.MethodName)) ∈ gW := gW_at 336 rfl rfl
set_option maxRecDepth 100000 in
theorem wm337 : (Jvm.Cond.instanceMethod ({ cls := "DeltaMaker", name := "apply", desc := "()I" } : Jvm.MethodName)) ∈ gW := gW_at 337 rfl rfl
set_option maxRecDepth 100000 in
theorem wm338 : (Jvm.Cond.selects "DeltaMaker" ({ cls := "DeltaMaker", name := "apply", desc := "()I" } : Jvm.MethodName) ({ cls := "DeltaMaker", name := "apply", desc := "()I" } : Jvm.MethodName)) ∈ gW := gW_at 338 rfl rfl
set_option maxRecDepth 100000 in
theorem wm340 : (Jvm.Cond.methodLink "DeltaMaker" (116 : Nat) ({ cls := "DeltaMaker$Applier", name := "run", desc := "()I" } : Jvm.MethodName)) ∈ gW := gW_at 340 rfl rfl
set_option maxRecDepth 100000 in
theorem wm341 : (Jvm.Cond.instanceMethod ({ cls := "DeltaMaker$Applier", name := "run", desc := "()I" } : Jvm.MethodName)) ∈ gW := gW_at 341 rfl rfl
set_option maxRecDepth 100000 in
theorem wm342 : (Jvm.Cond.selects "DeltaMaker$Applier" ({ cls := "DeltaMaker$Applier", name := "run", desc := "()I" } : Jvm.MethodName) ({ cls := "DeltaMaker$Applier", name := "run", desc := "()I" } : Jvm.MethodName)) ∈ gW := gW_at 342 rfl rfl
set_option maxRecDepth 100000 in
theorem wm344 : (Jvm.Cond.methodLink "DeltaMaker$Applier" (34 : Nat) ({ cls := "DeltaMaker$Row", name := "clear", desc := "()V" } : Jvm.MethodName)) ∈ gW := gW_at 344 rfl rfl
set_option maxRecDepth 100000 in
theorem wm345 : (Jvm.Cond.methodLink "DeltaMaker$Applier" (39 : Nat) ({ cls := "DeltaMaker$Applier", name := "readHead", desc := "()I" } : Jvm.MethodName)) ∈ gW := gW_at 345 rfl rfl
set_option maxRecDepth 100000 in
theorem wm347 : (Jvm.Cond.instanceMethod ({ cls := "DeltaMaker$Applier", name := "readHead", desc := "()I" } : Jvm.MethodName)) ∈ gW := gW_at 347 rfl rfl
set_option maxRecDepth 100000 in
theorem wm349 : (Jvm.Cond.methodLink "DeltaMaker$Applier" (52 : Nat) ({ cls := "DeltaMaker$Applier", name := "readVarint", desc := "()I" } : Jvm.MethodName)) ∈ gW := gW_at 349 rfl rfl
set_option maxRecDepth 100000 in
theorem wm351 : (Jvm.Cond.instanceMethod ({ cls := "DeltaMaker$Applier", name := "readVarint", desc := "()I" } : Jvm.MethodName)) ∈ gW := gW_at 351 rfl rfl
set_option maxRecDepth 100000 in
theorem wm353 : (Jvm.Cond.methodLink "DeltaMaker$Applier" (81 : Nat) ({ cls := "DeltaMaker$Row", name := "at", desc := "(I)I" } : Jvm.MethodName)) ∈ gW := gW_at 353 rfl rfl
set_option maxRecDepth 100000 in
theorem wm354 : (Jvm.Cond.methodLink "DeltaMaker$Applier" (55 : Nat) ({ cls := "DeltaMaker$Applier", name := "unread", desc := "()I" } : Jvm.MethodName)) ∈ gW := gW_at 354 rfl rfl
set_option maxRecDepth 100000 in
theorem wm356 : (Jvm.Cond.instanceMethod ({ cls := "DeltaMaker$Applier", name := "unread", desc := "()I" } : Jvm.MethodName)) ∈ gW := gW_at 356 rfl rfl
set_option maxRecDepth 100000 in
theorem wm358 : (Jvm.Cond.methodLink "DeltaMaker$Applier" (49 : Nat) ({ cls := "DeltaMaker$Row", name := "count", desc := "()I" } : Jvm.MethodName)) ∈ gW := gW_at 358 rfl rfl
set_option maxRecDepth 100000 in
theorem wm359 : (Jvm.Cond.methodLink "DeltaMaker$Applier" (58 : Nat) ({ cls := "DeltaMaker$Applier", name := "readWord", desc := "()I" } : Jvm.MethodName)) ∈ gW := gW_at 359 rfl rfl
set_option maxRecDepth 100000 in
theorem wm361 : (Jvm.Cond.instanceMethod ({ cls := "DeltaMaker$Applier", name := "readWord", desc := "()I" } : Jvm.MethodName)) ∈ gW := gW_at 361 rfl rfl
set_option maxRecDepth 100000 in
theorem wm363 : (Jvm.Cond.methodLink "DeltaMaker$Applier" (61 : Nat) ({ cls := "DeltaMaker$Row", name := "digest", desc := "()I" } : Jvm.MethodName)) ∈ gW := gW_at 363 rfl rfl
set_option maxRecDepth 100000 in
theorem wm364 : (Jvm.Cond.methodLink "DeltaMaker$Applier" (43 : Nat) ({ cls := "DeltaMaker$Applier", name := "doAll", desc := "()I" } : Jvm.MethodName)) ∈ gW := gW_at 364 rfl rfl
set_option maxRecDepth 100000 in
theorem wm366 : (Jvm.Cond.instanceMethod ({ cls := "DeltaMaker$Applier", name := "doAll", desc := "()I" } : Jvm.MethodName)) ∈ gW := gW_at 366 rfl rfl
set_option maxRecDepth 100000 in
theorem wm368 : (Jvm.Cond.methodLink "DeltaMaker$Applier" (64 : Nat) ({ cls := "DeltaMaker$Applier", name := "doNext", desc := "()I" } : Jvm.MethodName)) ∈ gW := gW_at 368 rfl rfl
set_option maxRecDepth 100000 in
theorem wm370 : (Jvm.Cond.instanceMethod ({ cls := "DeltaMaker$Applier", name := "doNext", desc := "()I" } : Jvm.MethodName)) ∈ gW := gW_at 370 rfl rfl
set_option maxRecDepth 100000 in
theorem wm372 : (Jvm.Cond.methodLink "DeltaMaker$Applier" (67 : Nat) ({ cls := "DeltaMaker$Applier", name := "doAdd", desc := "(I)I" } : Jvm.MethodName)) ∈ gW := gW_at 372 rfl rfl
set_option maxRecDepth 100000 in
theorem wm374 : (Jvm.Cond.instanceMethod ({ cls := "DeltaMaker$Applier", name := "doAdd", desc := "(I)I" } : Jvm.MethodName)) ∈ gW := gW_at 374 rfl rfl
set_option maxRecDepth 100000 in
theorem wm376 : (Jvm.Cond.methodLink "DeltaMaker$Applier" (74 : Nat) ({ cls := "DeltaMaker$Row", name := "addFrom", desc := "(LDeltaMaker$Row;II)V" } : Jvm.MethodName)) ∈ gW := gW_at 376 rfl rfl
set_option maxRecDepth 100000 in
theorem wm377 : (Jvm.Cond.methodLink "DeltaMaker$Applier" (71 : Nat) ({ cls := "DeltaMaker$Applier", name := "doCopy", desc := "(I)I" } : Jvm.MethodName)) ∈ gW := gW_at 377 rfl rfl
set_option maxRecDepth 100000 in
theorem wm379 : (Jvm.Cond.instanceMethod ({ cls := "DeltaMaker$Applier", name := "doCopy", desc := "(I)I" } : Jvm.MethodName)) ∈ gW := gW_at 379 rfl rfl
set_option maxRecDepth 100000 in
theorem wm381 : (Jvm.Cond.methodLink "DeltaMaker$Applier" (78 : Nat) ({ cls := "DeltaMaker$Applier", name := "withSign", desc := "(I)I" } : Jvm.MethodName)) ∈ gW := gW_at 381 rfl rfl
set_option maxRecDepth 100000 in
theorem wm382 : (Jvm.Cond.static ({ cls := "DeltaMaker$Applier", name := "withSign", desc := "(I)I" } : Jvm.MethodName)) ∈ gW := gW_at 382 rfl rfl
set_option maxRecDepth 100000 in
theorem wm384 : (Jvm.Cond.methodLink "DeltaMaker$Applier" (46 : Nat) ({ cls := "DeltaMaker$Applier", name := "judgeResult", desc := "()I" } : Jvm.MethodName)) ∈ gW := gW_at 384 rfl rfl
set_option maxRecDepth 100000 in
theorem wm386 : (Jvm.Cond.instanceMethod ({ cls := "DeltaMaker$Applier", name := "judgeResult", desc := "()I" } : Jvm.MethodName)) ∈ gW := gW_at 386 rfl rfl
set_option maxRecDepth 100000 in
theorem wm388 : (Jvm.Cond.methodLink "DeltaMakerLaw" (52 : Nat) ({ cls := "DeltaMaker", name := "inPlace", desc := "()I" } : Jvm.MethodName)) ∈ gW := gW_at 388 rfl rfl
set_option maxRecDepth 100000 in
theorem wm389 : (Jvm.Cond.instanceMethod ({ cls := "DeltaMaker", name := "inPlace", desc := "()I" } : Jvm.MethodName)) ∈ gW := gW_at 389 rfl rfl
set_option maxRecDepth 100000 in
theorem wm390 : (Jvm.Cond.selects "DeltaMaker" ({ cls := "DeltaMaker", name := "inPlace", desc := "()I" } : Jvm.MethodName) ({ cls := "DeltaMaker", name := "inPlace", desc := "()I" } : Jvm.MethodName)) ∈ gW := gW_at 390 rfl rfl
set_option maxRecDepth 100000 in
theorem wm392 : (Jvm.Cond.methodLink "DeltaMaker" (119 : Nat) ({ cls := "DeltaMaker$Placer", name := "run", desc := "()I" } : Jvm.MethodName)) ∈ gW := gW_at 392 rfl rfl
set_option maxRecDepth 100000 in
theorem wm393 : (Jvm.Cond.instanceMethod ({ cls := "DeltaMaker$Placer", name := "run", desc := "()I" } : Jvm.MethodName)) ∈ gW := gW_at 393 rfl rfl
set_option maxRecDepth 100000 in
theorem wm394 : (Jvm.Cond.selects "DeltaMaker$Placer" ({ cls := "DeltaMaker$Placer", name := "run", desc := "()I" } : Jvm.MethodName) ({ cls := "DeltaMaker$Placer", name := "run", desc := "()I" } : Jvm.MethodName)) ∈ gW := gW_at 394 rfl rfl
set_option maxRecDepth 100000 in
theorem wm396 : (Jvm.Cond.methodLink "DeltaMaker$Placer" (42 : Nat) ({ cls := "DeltaMaker$Placer", name := "forget", desc := "()V" } : Jvm.MethodName)) ∈ gW := gW_at 396 rfl rfl
set_option maxRecDepth 100000 in
theorem wm397 : (Jvm.Cond.methodLink "DeltaMaker$Placer" (45 : Nat) ({ cls := "DeltaMaker$Plan", name := "base", desc := "()LDeltaMaker$Row;" } : Jvm.MethodName)) ∈ gW := gW_at 397 rfl rfl
set_option maxRecDepth 100000 in
theorem wm398 : (Jvm.Cond.instanceMethod ({ cls := "DeltaMaker$Plan", name := "base", desc := "()LDeltaMaker$Row;" } : Jvm.MethodName)) ∈ gW := gW_at 398 rfl rfl
set_option maxRecDepth 100000 in
theorem wm399 : (Jvm.Cond.selects "DeltaMaker$Plan" ({ cls := "DeltaMaker$Plan", name := "base", desc := "()LDeltaMaker$Row;" } : Jvm.MethodName) ({ cls := "DeltaMaker$Plan", name := "base", desc := "()LDeltaMaker$Row;" } : Jvm.MethodName)) ∈ gW := gW_at 399 rfl rfl
set_option maxRecDepth 100000 in
theorem wm401 : (Jvm.Cond.methodLink "DeltaMaker$Placer" (51 : Nat) ({ cls := "DeltaMaker$Row", name := "become", desc := "(LDeltaMaker$Row;)V" } : Jvm.MethodName)) ∈ gW := gW_at 401 rfl rfl
set_option maxRecDepth 100000 in
theorem wm402 : (Jvm.Cond.methodLink "DeltaMaker$Placer" (55 : Nat) ({ cls := "DeltaMaker$Row", name := "count", desc := "()I" } : Jvm.MethodName)) ∈ gW := gW_at 402 rfl rfl
set_option maxRecDepth 100000 in
theorem wm403 : (Jvm.Cond.methodLink "DeltaMaker$Placer" (59 : Nat) ({ cls := "DeltaMaker$Plan", name := "goal", desc := "()LDeltaMaker$Row;" } : Jvm.MethodName)) ∈ gW := gW_at 403 rfl rfl
set_option maxRecDepth 100000 in
theorem wm404 : (Jvm.Cond.instanceMethod ({ cls := "DeltaMaker$Plan", name := "goal", desc := "()LDeltaMaker$Row;" } : Jvm.MethodName)) ∈ gW := gW_at 404 rfl rfl
set_option maxRecDepth 100000 in
theorem wm405 : (Jvm.Cond.selects "DeltaMaker$Plan" ({ cls := "DeltaMaker$Plan", name := "goal", desc := "()LDeltaMaker$Row;" } : Jvm.MethodName) ({ cls := "DeltaMaker$Plan", name := "goal", desc := "()LDeltaMaker$Row;" } : Jvm.MethodName)) ∈ gW := gW_at 405 rfl rfl
set_option maxRecDepth 100000 in
theorem wm407 : (Jvm.Cond.methodLink "DeltaMaker$Placer" (62 : Nat) ({ cls := "java/lang/Math", name := "max", desc := "(II)I" } : Jvm.MethodName)) ∈ gW := gW_at 407 rfl rfl
set_option maxRecDepth 100000 in
theorem wm408 : (Jvm.Cond.methodLink "DeltaMaker$Placer" (68 : Nat) ({ cls := "DeltaMaker$Row", name := "setCount", desc := "(I)V" } : Jvm.MethodName)) ∈ gW := gW_at 408 rfl rfl
set_option maxRecDepth 100000 in
theorem wm409 : (Jvm.Cond.instanceMethod ({ cls := "DeltaMaker$Row", name := "setCount", desc := "(I)V" } : Jvm.MethodName)) ∈ gW := gW_at 409 rfl rfl
set_option maxRecDepth 100000 in
theorem wm410 : (Jvm.Cond.selects "DeltaMaker$Row" ({ cls := "DeltaMaker$Row", name := "setCount", desc := "(I)V" } : Jvm.MethodName) ({ cls := "DeltaMaker$Row", name := "setCount", desc := "(I)V" } : Jvm.MethodName)) ∈ gW := gW_at 410 rfl rfl
set_option maxRecDepth 100000 in
theorem wm412 : (Jvm.Cond.methodLink "DeltaMaker$Placer" (71 : Nat) ({ cls := "DeltaMaker$Placer", name := "countBlockers", desc := "()V" } : Jvm.MethodName)) ∈ gW := gW_at 412 rfl rfl
set_option maxRecDepth 100000 in
theorem wm414 : (Jvm.Cond.instanceMethod ({ cls := "DeltaMaker$Placer", name := "countBlockers", desc := "()V" } : Jvm.MethodName)) ∈ gW := gW_at 414 rfl rfl
set_option maxRecDepth 100000 in
theorem wm416 : (Jvm.Cond.methodLink "DeltaMaker$Placer" (74 : Nat) ({ cls := "DeltaMaker$Plan", name := "count", desc := "()I" } : Jvm.MethodName)) ∈ gW := gW_at 416 rfl rfl
set_option maxRecDepth 100000 in
theorem wm417 : (Jvm.Cond.methodLink "DeltaMaker$Placer" (88 : Nat) ({ cls := "DeltaMaker$Plan", name := "isCopy", desc := "(I)Z" } : Jvm.MethodName)) ∈ gW := gW_at 417 rfl rfl
set_option maxRecDepth 100000 in
theorem wm418 : (Jvm.Cond.methodLink "DeltaMaker$Placer" (92 : Nat) ({ cls := "DeltaMaker$Placer", name := "changeBlockers", desc := "(II)V" } : Jvm.MethodName)) ∈ gW := gW_at 418 rfl rfl
set_option maxRecDepth 100000 in
theorem wm420 : (Jvm.Cond.instanceMethod ({ cls := "DeltaMaker$Placer", name := "changeBlockers", desc := "(II)V" } : Jvm.MethodName)) ∈ gW := gW_at 420 rfl rfl
set_option maxRecDepth 100000 in
theorem wm422 : (Jvm.Cond.methodLink "DeltaMaker$Placer" (96 : Nat) ({ cls := "DeltaMaker$Plan", name := "writesWhereTakes", desc := "(II)Z" } : Jvm.MethodName)) ∈ gW := gW_at 422 rfl rfl
set_option maxRecDepth 100000 in
theorem wm423 : (Jvm.Cond.instanceMethod ({ cls := "DeltaMaker$Plan", name := "writesWhereTakes", desc := "(II)Z" } : Jvm.MethodName)) ∈ gW := gW_at 423 rfl rfl
set_option maxRecDepth 100000 in
theorem wm424 : (Jvm.Cond.selects "DeltaMaker$Plan" ({ cls := "DeltaMaker$Plan", name := "writesWhereTakes", desc := "(II)Z" } : Jvm.MethodName) ({ cls := "DeltaMaker$Plan", name := "writesWhereTakes", desc := "(II)Z" } : Jvm.MethodName)) ∈ gW := gW_at 424 rfl rfl
set_option maxRecDepth 100000 in
theorem wm426 : (Jvm.Cond.methodLink "DeltaMaker$Placer" (75 : Nat) ({ cls := "DeltaMaker$Placer", name := "nextFree", desc := "()I" } : Jvm.MethodName)) ∈ gW := gW_at 426 rfl rfl
set_option maxRecDepth 100000 in
theorem wm428 : (Jvm.Cond.instanceMethod ({ cls := "DeltaMaker$Placer", name := "nextFree", desc := "()I" } : Jvm.MethodName)) ∈ gW := gW_at 428 rfl rfl
set_option maxRecDepth 100000 in
theorem wm430 : (Jvm.Cond.methodLink "DeltaMaker$Placer" (78 : Nat) ({ cls := "DeltaMaker$Placer", name := "carryOut", desc := "(I)V" } : Jvm.MethodName)) ∈ gW := gW_at 430 rfl rfl
set_option maxRecDepth 100000 in
theorem wm432 : (Jvm.Cond.instanceMethod ({ cls := "DeltaMaker$Placer", name := "carryOut", desc := "(I)V" } : Jvm.MethodName)) ∈ gW := gW_at 432 rfl rfl
set_option maxRecDepth 100000 in
theorem wm434 : (Jvm.Cond.methodLink "DeltaMaker$Placer" (106 : Nat) ({ cls := "DeltaMaker$Placer", name := "wantsMemory", desc := "(I)Z" } : Jvm.MethodName)) ∈ gW := gW_at 434 rfl rfl
set_option maxRecDepth 100000 in
theorem wm436 : (Jvm.Cond.instanceMethod ({ cls := "DeltaMaker$Placer", name := "wantsMemory", desc := "(I)Z" } : Jvm.MethodName)) ∈ gW := gW_at 436 rfl rfl
set_option maxRecDepth 100000 in
theorem wm438 : (Jvm.Cond.methodLink "DeltaMaker$Placer" (100 : Nat) ({ cls := "DeltaMaker$Placer", name := "turnOf", desc := "(I)I" } : Jvm.MethodName)) ∈ gW := gW_at 438 rfl rfl
set_option maxRecDepth 100000 in
theorem wm439 : (Jvm.Cond.methodLink "DeltaMaker$Placer" (103 : Nat) ({ cls := "DeltaMaker$Placer", name := "wasPutAside", desc := "(I)Z" } : Jvm.MethodName)) ∈ gW := gW_at 439 rfl rfl
set_option maxRecDepth 100000 in
theorem wm440 : (Jvm.Cond.methodLink "DeltaMaker$Placer" (112 : Nat) ({ cls := "DeltaMaker$Placer", name := "takeOutOfMemory", desc := "(I)V" } : Jvm.MethodName)) ∈ gW := gW_at 440 rfl rfl
set_option maxRecDepth 100000 in
theorem wm442 : (Jvm.Cond.instanceMethod ({ cls := "DeltaMaker$Placer", name := "takeOutOfMemory", desc := "(I)V" } : Jvm.MethodName)) ∈ gW := gW_at 442 rfl rfl
set_option maxRecDepth 100000 in
theorem wm444 : (Jvm.Cond.methodLink "DeltaMaker$Placer" (122 : Nat) ({ cls := "DeltaMaker$Plan", name := "source", desc := "(I)I" } : Jvm.MethodName)) ∈ gW := gW_at 444 rfl rfl
set_option maxRecDepth 100000 in
theorem wm445 : (Jvm.Cond.methodLink "DeltaMaker$Placer" (118 : Nat) ({ cls := "DeltaMaker$Placer", name := "move", desc := "(LDeltaMaker$Row;ILDeltaMaker$Row;I)V" } : Jvm.MethodName)) ∈ gW := gW_at 445 rfl rfl
set_option maxRecDepth 100000 in
theorem wm447 : (Jvm.Cond.instanceMethod ({ cls := "DeltaMaker$Placer", name := "move", desc := "(LDeltaMaker$Row;ILDeltaMaker$Row;I)V" } : Jvm.MethodName)) ∈ gW := gW_at 447 rfl rfl
set_option maxRecDepth 100000 in
theorem wm449 : (Jvm.Cond.methodLink "DeltaMaker$Placer" (115 : Nat) ({ cls := "DeltaMaker$Plan", name := "place", desc := "(I)I" } : Jvm.MethodName)) ∈ gW := gW_at 449 rfl rfl
set_option maxRecDepth 100000 in
theorem wm450 : (Jvm.Cond.methodLink "DeltaMaker$Placer" (109 : Nat) ({ cls := "DeltaMaker$Plan", name := "length", desc := "(I)I" } : Jvm.MethodName)) ∈ gW := gW_at 450 rfl rfl
set_option maxRecDepth 100000 in
theorem wm451 : (Jvm.Cond.methodLink "DeltaMaker$Placer" (125 : Nat) ({ cls := "DeltaMaker$Row", name := "at", desc := "(I)I" } : Jvm.MethodName)) ∈ gW := gW_at 451 rfl rfl
set_option maxRecDepth 100000 in
theorem wm452 : (Jvm.Cond.methodLink "DeltaMaker$Placer" (128 : Nat) ({ cls := "DeltaMaker$Row", name := "put", desc := "(II)V" } : Jvm.MethodName)) ∈ gW := gW_at 452 rfl rfl
set_option maxRecDepth 100000 in
theorem wm453 : (Jvm.Cond.instanceMethod ({ cls := "DeltaMaker$Row", name := "put", desc := "(II)V" } : Jvm.MethodName)) ∈ gW := gW_at 453 rfl rfl
set_option maxRecDepth 100000 in
theorem wm454 : (Jvm.Cond.selects "DeltaMaker$Row" ({ cls := "DeltaMaker$Row", name := "put", desc := "(II)V" } : Jvm.MethodName) ({ cls := "DeltaMaker$Row", name := "put", desc := "(II)V" } : Jvm.MethodName)) ∈ gW := gW_at 454 rfl rfl
set_option maxRecDepth 100000 in
theorem wm456 : (Jvm.Cond.methodLink "DeltaMaker$Placer" (81 : Nat) ({ cls := "DeltaMaker$Placer", name := "fewestBytes", desc := "()I" } : Jvm.MethodName)) ∈ gW := gW_at 456 rfl rfl
set_option maxRecDepth 100000 in
theorem wm458 : (Jvm.Cond.instanceMethod ({ cls := "DeltaMaker$Placer", name := "fewestBytes", desc := "()I" } : Jvm.MethodName)) ∈ gW := gW_at 458 rfl rfl
set_option maxRecDepth 100000 in
theorem wm460 : (Jvm.Cond.methodLink "DeltaMaker$Placer" (84 : Nat) ({ cls := "DeltaMaker$Placer", name := "putAside", desc := "(I)I" } : Jvm.MethodName)) ∈ gW := gW_at 460 rfl rfl
set_option maxRecDepth 100000 in
theorem wm462 : (Jvm.Cond.instanceMethod ({ cls := "DeltaMaker$Placer", name := "putAside", desc := "(I)I" } : Jvm.MethodName)) ∈ gW := gW_at 462 rfl rfl
set_option maxRecDepth 100000 in
theorem wm464 : (Jvm.Cond.methodLink "DeltaMakerLaw" (56 : Nat) ({ cls := "DeltaMaker", name := "check", desc := "(I)I" } : Jvm.MethodName)) ∈ gW := gW_at 464 rfl rfl
set_option maxRecDepth 100000 in
theorem wm465 : (Jvm.Cond.instanceMethod ({ cls := "DeltaMaker", name := "check", desc := "(I)I" } : Jvm.MethodName)) ∈ gW := gW_at 465 rfl rfl
set_option maxRecDepth 100000 in
theorem wm466 : (Jvm.Cond.selects "DeltaMaker" ({ cls := "DeltaMaker", name := "check", desc := "(I)I" } : Jvm.MethodName) ({ cls := "DeltaMaker", name := "check", desc := "(I)I" } : Jvm.MethodName)) ∈ gW := gW_at 466 rfl rfl
set_option maxRecDepth 100000 in
theorem wm468 : (Jvm.Cond.methodLink "DeltaMaker" (120 : Nat) ({ cls := "DeltaMaker$Row", name := "digest", desc := "()I" } : Jvm.MethodName)) ∈ gW := gW_at 468 rfl rfl
set_option maxRecDepth 100000 in
theorem wm469 : (Jvm.Cond.classLink "DeltaMakerLaw" (10 : Nat) "DeltaMakerModel") ∈ gW := gW_at 469 rfl rfl
set_option maxRecDepth 100000 in
theorem wm470 : (Jvm.Cond.instantiable "DeltaMakerModel" (26 : Nat)) ∈ gW := gW_at 470 rfl rfl
set_option maxRecDepth 100000 in
theorem wm471 : (Jvm.Cond.methodLink "DeltaMakerLaw" (12 : Nat) ({ cls := "DeltaMakerModel", name := "<init>", desc := "()V" } : Jvm.MethodName)) ∈ gW := gW_at 471 rfl rfl
set_option maxRecDepth 100000 in
theorem wm472 : (Jvm.Cond.instanceMethod ({ cls := "DeltaMakerModel", name := "<init>", desc := "()V" } : Jvm.MethodName)) ∈ gW := gW_at 472 rfl rfl
set_option maxRecDepth 100000 in
theorem wm474 : (Jvm.Cond.methodLink "DeltaMakerModel" (1 : Nat) ({ cls := "java/lang/Object", name := "<init>", desc := "()V" } : Jvm.MethodName)) ∈ gW := gW_at 474 rfl rfl
set_option maxRecDepth 100000 in
theorem wm475 : (Jvm.Cond.fieldLink "DeltaMakerModel" (52 : Nat) "DeltaMakerModel" "code" "I") ∈ gW := gW_at 475 rfl rfl
set_option maxRecDepth 100000 in
theorem wm476 : (Jvm.Cond.fieldLink "DeltaMakerModel" (7 : Nat) "DeltaMakerModel" "tape" "[I") ∈ gW := gW_at 476 rfl rfl
set_option maxRecDepth 100000 in
theorem wm477 : (Jvm.Cond.fieldLink "DeltaMakerModel" (13 : Nat) "DeltaMakerModel" "first" "[I") ∈ gW := gW_at 477 rfl rfl
set_option maxRecDepth 100000 in
theorem wm478 : (Jvm.Cond.fieldLink "DeltaMakerModel" (16 : Nat) "DeltaMakerModel" "second" "[I") ∈ gW := gW_at 478 rfl rfl
set_option maxRecDepth 100000 in
theorem wm479 : (Jvm.Cond.fieldLink "DeltaMakerModel" (19 : Nat) "DeltaMakerModel" "patch" "[I") ∈ gW := gW_at 479 rfl rfl
set_option maxRecDepth 100000 in
theorem wm480 : (Jvm.Cond.fieldLink "DeltaMakerModel" (22 : Nat) "DeltaMakerModel" "output" "[I") ∈ gW := gW_at 480 rfl rfl
set_option maxRecDepth 100000 in
theorem wm481 : (Jvm.Cond.fieldLink "DeltaMakerModel" (25 : Nat) "DeltaMakerModel" "memory" "[I") ∈ gW := gW_at 481 rfl rfl
set_option maxRecDepth 100000 in
theorem wm482 : (Jvm.Cond.fieldLink "DeltaMakerModel" (28 : Nat) "DeltaMakerModel" "aside" "[I") ∈ gW := gW_at 482 rfl rfl
set_option maxRecDepth 100000 in
theorem wm483 : (Jvm.Cond.fieldLink "DeltaMakerModel" (56 : Nat) "DeltaMakerModel" "taped" "I") ∈ gW := gW_at 483 rfl rfl
set_option maxRecDepth 100000 in
theorem wm484 : (Jvm.Cond.fieldLink "DeltaMakerModel" (61 : Nat) "DeltaMakerModel" "firstSize" "I") ∈ gW := gW_at 484 rfl rfl
set_option maxRecDepth 100000 in
theorem wm485 : (Jvm.Cond.fieldLink "DeltaMakerModel" (64 : Nat) "DeltaMakerModel" "secondSize" "I") ∈ gW := gW_at 485 rfl rfl
set_option maxRecDepth 100000 in
theorem wm486 : (Jvm.Cond.fieldLink "DeltaMakerModel" (67 : Nat) "DeltaMakerModel" "patchSize" "I") ∈ gW := gW_at 486 rfl rfl
set_option maxRecDepth 100000 in
theorem wm487 : (Jvm.Cond.fieldLink "DeltaMakerModel" (70 : Nat) "DeltaMakerModel" "outputSize" "I") ∈ gW := gW_at 487 rfl rfl
set_option maxRecDepth 100000 in
theorem wm488 : (Jvm.Cond.fieldLink "DeltaMakerModel" (73 : Nat) "DeltaMakerModel" "memorySize" "I") ∈ gW := gW_at 488 rfl rfl
set_option maxRecDepth 100000 in
theorem wm489 : (Jvm.Cond.fieldLink "DeltaMakerModel" (31 : Nat) "DeltaMakerModel" "place" "[I") ∈ gW := gW_at 489 rfl rfl
set_option maxRecDepth 100000 in
theorem wm490 : (Jvm.Cond.fieldLink "DeltaMakerModel" (34 : Nat) "DeltaMakerModel" "length" "[I") ∈ gW := gW_at 490 rfl rfl
set_option maxRecDepth 100000 in
theorem wm491 : (Jvm.Cond.fieldLink "DeltaMakerModel" (37 : Nat) "DeltaMakerModel" "from" "[I") ∈ gW := gW_at 491 rfl rfl
set_option maxRecDepth 100000 in
theorem wm492 : (Jvm.Cond.fieldLink "DeltaMakerModel" (40 : Nat) "DeltaMakerModel" "putAside" "[I") ∈ gW := gW_at 492 rfl rfl
set_option maxRecDepth 100000 in
theorem wm493 : (Jvm.Cond.fieldLink "DeltaMakerModel" (43 : Nat) "DeltaMakerModel" "order" "[I") ∈ gW := gW_at 493 rfl rfl
set_option maxRecDepth 100000 in
theorem wm494 : (Jvm.Cond.fieldLink "DeltaMakerModel" (46 : Nat) "DeltaMakerModel" "was" "[I") ∈ gW := gW_at 494 rfl rfl
set_option maxRecDepth 100000 in
theorem wm495 : (Jvm.Cond.fieldLink "DeltaMakerModel" (49 : Nat) "DeltaMakerModel" "secondThen" "[I") ∈ gW := gW_at 495 rfl rfl
set_option maxRecDepth 100000 in
theorem wm496 : (Jvm.Cond.fieldLink "DeltaMakerModel" (88 : Nat) "DeltaMakerModel" "steps" "I") ∈ gW := gW_at 496 rfl rfl
set_option maxRecDepth 100000 in
theorem wm497 : (Jvm.Cond.fieldLink "DeltaMakerModel" (101 : Nat) "DeltaMakerModel" "wasSize" "I") ∈ gW := gW_at 497 rfl rfl
set_option maxRecDepth 100000 in
theorem wm498 : (Jvm.Cond.fieldLink "DeltaMakerModel" (104 : Nat) "DeltaMakerModel" "madeSize" "I") ∈ gW := gW_at 498 rfl rfl
set_option maxRecDepth 100000 in
theorem wm499 : (Jvm.Cond.fieldLink "DeltaMakerModel" (113 : Nat) "DeltaMakerModel" "at" "I") ∈ gW := gW_at 499 rfl rfl
set_option maxRecDepth 100000 in
theorem wm500 : (Jvm.Cond.fieldLink "DeltaMakerModel" (116 : Nat) "DeltaMakerModel" "lacks" "Z") ∈ gW := gW_at 500 rfl rfl
set_option maxRecDepth 100000 in
theorem wm554 : (Jvm.Cond.methodLink "DeltaMakerLaw" (19 : Nat) ({ cls := "DeltaMakerModel", name := "feed", desc := "(JI)Z" } : Jvm.MethodName)) ∈ gW := gW_at 554 rfl rfl
set_option maxRecDepth 100000 in
theorem wm555 : (Jvm.Cond.instanceMethod ({ cls := "DeltaMakerModel", name := "feed", desc := "(JI)Z" } : Jvm.MethodName)) ∈ gW := gW_at 555 rfl rfl
set_option maxRecDepth 100000 in
theorem wm556 : (Jvm.Cond.selects "DeltaMakerModel" ({ cls := "DeltaMakerModel", name := "feed", desc := "(JI)Z" } : Jvm.MethodName) ({ cls := "DeltaMakerModel", name := "feed", desc := "(JI)Z" } : Jvm.MethodName)) ∈ gW := gW_at 556 rfl rfl
set_option maxRecDepth 100000 in
theorem wm558 : (Jvm.Cond.constantLong "DeltaMakerModel" (59 : Nat) (255 : Int64)) ∈ gW := gW_at 558 rfl rfl
set_option maxRecDepth 100000 in
theorem wm559 : (Jvm.Cond.methodLink "DeltaMakerLaw" (24 : Nat) ({ cls := "DeltaMakerModel", name := "take", desc := "(I)Z" } : Jvm.MethodName)) ∈ gW := gW_at 559 rfl rfl
set_option maxRecDepth 100000 in
theorem wm560 : (Jvm.Cond.instanceMethod ({ cls := "DeltaMakerModel", name := "take", desc := "(I)Z" } : Jvm.MethodName)) ∈ gW := gW_at 560 rfl rfl
set_option maxRecDepth 100000 in
theorem wm561 : (Jvm.Cond.selects "DeltaMakerModel" ({ cls := "DeltaMakerModel", name := "take", desc := "(I)Z" } : Jvm.MethodName) ({ cls := "DeltaMakerModel", name := "take", desc := "(I)Z" } : Jvm.MethodName)) ∈ gW := gW_at 561 rfl rfl
set_option maxRecDepth 100000 in
theorem wm563 : (Jvm.Cond.methodLink "DeltaMakerLaw" (34 : Nat) ({ cls := "DeltaMakerModel", name := "byteAt", desc := "(II)I" } : Jvm.MethodName)) ∈ gW := gW_at 563 rfl rfl
set_option maxRecDepth 100000 in
theorem wm564 : (Jvm.Cond.instanceMethod ({ cls := "DeltaMakerModel", name := "byteAt", desc := "(II)I" } : Jvm.MethodName)) ∈ gW := gW_at 564 rfl rfl
set_option maxRecDepth 100000 in
theorem wm565 : (Jvm.Cond.selects "DeltaMakerModel" ({ cls := "DeltaMakerModel", name := "byteAt", desc := "(II)I" } : Jvm.MethodName) ({ cls := "DeltaMakerModel", name := "byteAt", desc := "(II)I" } : Jvm.MethodName)) ∈ gW := gW_at 565 rfl rfl
set_option maxRecDepth 100000 in
theorem wm567 : (Jvm.Cond.methodLink "DeltaMakerModel" (76 : Nat) ({ cls := "DeltaMakerModel", name := "sizeOf", desc := "(I)I" } : Jvm.MethodName)) ∈ gW := gW_at 567 rfl rfl
set_option maxRecDepth 100000 in
theorem wm569 : (Jvm.Cond.instanceMethod ({ cls := "DeltaMakerModel", name := "sizeOf", desc := "(I)I" } : Jvm.MethodName)) ∈ gW := gW_at 569 rfl rfl
set_option maxRecDepth 100000 in
theorem wm571 : (Jvm.Cond.methodLink "DeltaMakerModel" (80 : Nat) ({ cls := "DeltaMakerModel", name := "byteOf", desc := "(II)I" } : Jvm.MethodName)) ∈ gW := gW_at 571 rfl rfl
set_option maxRecDepth 100000 in
theorem wm573 : (Jvm.Cond.instanceMethod ({ cls := "DeltaMakerModel", name := "byteOf", desc := "(II)I" } : Jvm.MethodName)) ∈ gW := gW_at 573 rfl rfl
set_option maxRecDepth 100000 in
theorem wm575 : (Jvm.Cond.methodLink "DeltaMakerLaw" (39 : Nat) ({ cls := "DeltaMakerModel", name := "size", desc := "(I)I" } : Jvm.MethodName)) ∈ gW := gW_at 575 rfl rfl
set_option maxRecDepth 100000 in
theorem wm576 : (Jvm.Cond.instanceMethod ({ cls := "DeltaMakerModel", name := "size", desc := "(I)I" } : Jvm.MethodName)) ∈ gW := gW_at 576 rfl rfl
set_option maxRecDepth 100000 in
theorem wm577 : (Jvm.Cond.selects "DeltaMakerModel" ({ cls := "DeltaMakerModel", name := "size", desc := "(I)I" } : Jvm.MethodName) ({ cls := "DeltaMakerModel", name := "size", desc := "(I)I" } : Jvm.MethodName)) ∈ gW := gW_at 577 rfl rfl
set_option maxRecDepth 100000 in
theorem wm579 : (Jvm.Cond.methodLink "DeltaMakerLaw" (59 : Nat) ({ cls := "DeltaMakerModel", name := "check", desc := "(I)I" } : Jvm.MethodName)) ∈ gW := gW_at 579 rfl rfl
set_option maxRecDepth 100000 in
theorem wm580 : (Jvm.Cond.instanceMethod ({ cls := "DeltaMakerModel", name := "check", desc := "(I)I" } : Jvm.MethodName)) ∈ gW := gW_at 580 rfl rfl
set_option maxRecDepth 100000 in
theorem wm581 : (Jvm.Cond.selects "DeltaMakerModel" ({ cls := "DeltaMakerModel", name := "check", desc := "(I)I" } : Jvm.MethodName) ({ cls := "DeltaMakerModel", name := "check", desc := "(I)I" } : Jvm.MethodName)) ∈ gW := gW_at 581 rfl rfl
set_option maxRecDepth 100000 in
theorem wm583 : (Jvm.Cond.methodLink "DeltaMakerModel" (85 : Nat) ({ cls := "DeltaMakerModel", name := "checkOf", desc := "(I)I" } : Jvm.MethodName)) ∈ gW := gW_at 583 rfl rfl
set_option maxRecDepth 100000 in
theorem wm585 : (Jvm.Cond.instanceMethod ({ cls := "DeltaMakerModel", name := "checkOf", desc := "(I)I" } : Jvm.MethodName)) ∈ gW := gW_at 585 rfl rfl
set_option maxRecDepth 100000 in
theorem wm587 : (Jvm.Cond.constant "DeltaMakerModel" (84 : Nat) (-2048144777 : Int32)) ∈ gW := gW_at 587 rfl rfl
set_option maxRecDepth 100000 in
theorem wm588 : (Jvm.Cond.methodLink "DeltaMakerLaw" (29 : Nat) ({ cls := "DeltaMakerModel", name := "make", desc := "()I" } : Jvm.MethodName)) ∈ gW := gW_at 588 rfl rfl
set_option maxRecDepth 100000 in
theorem wm589 : (Jvm.Cond.instanceMethod ({ cls := "DeltaMakerModel", name := "make", desc := "()I" } : Jvm.MethodName)) ∈ gW := gW_at 589 rfl rfl
set_option maxRecDepth 100000 in
theorem wm590 : (Jvm.Cond.selects "DeltaMakerModel" ({ cls := "DeltaMakerModel", name := "make", desc := "()I" } : Jvm.MethodName) ({ cls := "DeltaMakerModel", name := "make", desc := "()I" } : Jvm.MethodName)) ∈ gW := gW_at 590 rfl rfl
set_option maxRecDepth 100000 in
theorem wm592 : (Jvm.Cond.methodLink "DeltaMakerModel" (98 : Nat) ({ cls := "DeltaMakerModel", name := "findSteps", desc := "()V" } : Jvm.MethodName)) ∈ gW := gW_at 592 rfl rfl
set_option maxRecDepth 100000 in
theorem wm594 : (Jvm.Cond.instanceMethod ({ cls := "DeltaMakerModel", name := "findSteps", desc := "()V" } : Jvm.MethodName)) ∈ gW := gW_at 594 rfl rfl
set_option maxRecDepth 100000 in
theorem wm596 : (Jvm.Cond.methodLink "DeltaMakerModel" (91 : Nat) ({ cls := "DeltaMakerModel", name := "runOf", desc := "(II)I" } : Jvm.MethodName)) ∈ gW := gW_at 596 rfl rfl
set_option maxRecDepth 100000 in
theorem wm598 : (Jvm.Cond.instanceMethod ({ cls := "DeltaMakerModel", name := "runOf", desc := "(II)I" } : Jvm.MethodName)) ∈ gW := gW_at 598 rfl rfl
set_option maxRecDepth 100000 in
theorem wm600 : (Jvm.Cond.methodLink "DeltaMakerModel" (107 : Nat) ({ cls := "DeltaMakerModel", name := "putNumber", desc := "(I)V" } : Jvm.MethodName)) ∈ gW := gW_at 600 rfl rfl
set_option maxRecDepth 100000 in
theorem wm602 : (Jvm.Cond.instanceMethod ({ cls := "DeltaMakerModel", name := "putNumber", desc := "(I)V" } : Jvm.MethodName)) ∈ gW := gW_at 602 rfl rfl
set_option maxRecDepth 100000 in
theorem wm604 : (Jvm.Cond.methodLink "DeltaMakerModel" (94 : Nat) ({ cls := "DeltaMakerModel", name := "put", desc := "(I)V" } : Jvm.MethodName)) ∈ gW := gW_at 604 rfl rfl
set_option maxRecDepth 100000 in
theorem wm606 : (Jvm.Cond.instanceMethod ({ cls := "DeltaMakerModel", name := "put", desc := "(I)V" } : Jvm.MethodName)) ∈ gW := gW_at 606 rfl rfl
set_option maxRecDepth 100000 in
theorem wm608 : (Jvm.Cond.methodLink "DeltaMakerModel" (110 : Nat) ({ cls := "DeltaMakerModel", name := "putCheck", desc := "(I)V" } : Jvm.MethodName)) ∈ gW := gW_at 608 rfl rfl
set_option maxRecDepth 100000 in
theorem wm610 : (Jvm.Cond.instanceMethod ({ cls := "DeltaMakerModel", name := "putCheck", desc := "(I)V" } : Jvm.MethodName)) ∈ gW := gW_at 610 rfl rfl
set_option maxRecDepth 100000 in
theorem wm612 : (Jvm.Cond.methodLink "DeltaMakerLaw" (43 : Nat) ({ cls := "DeltaMakerModel", name := "steps", desc := "()I" } : Jvm.MethodName)) ∈ gW := gW_at 612 rfl rfl
set_option maxRecDepth 100000 in
theorem wm613 : (Jvm.Cond.instanceMethod ({ cls := "DeltaMakerModel", name := "steps", desc := "()I" } : Jvm.MethodName)) ∈ gW := gW_at 613 rfl rfl
set_option maxRecDepth 100000 in
theorem wm614 : (Jvm.Cond.selects "DeltaMakerModel" ({ cls := "DeltaMakerModel", name := "steps", desc := "()I" } : Jvm.MethodName) ({ cls := "DeltaMakerModel", name := "steps", desc := "()I" } : Jvm.MethodName)) ∈ gW := gW_at 614 rfl rfl
set_option maxRecDepth 100000 in
theorem wm616 : (Jvm.Cond.methodLink "DeltaMakerLaw" (47 : Nat) ({ cls := "DeltaMakerModel", name := "step", desc := "(II)I" } : Jvm.MethodName)) ∈ gW := gW_at 616 rfl rfl
set_option maxRecDepth 100000 in
theorem wm617 : (Jvm.Cond.instanceMethod ({ cls := "DeltaMakerModel", name := "step", desc := "(II)I" } : Jvm.MethodName)) ∈ gW := gW_at 617 rfl rfl
set_option maxRecDepth 100000 in
theorem wm618 : (Jvm.Cond.selects "DeltaMakerModel" ({ cls := "DeltaMakerModel", name := "step", desc := "(II)I" } : Jvm.MethodName) ({ cls := "DeltaMakerModel", name := "step", desc := "(II)I" } : Jvm.MethodName)) ∈ gW := gW_at 618 rfl rfl
set_option maxRecDepth 100000 in
theorem wm620 : (Jvm.Cond.methodLink "DeltaMakerLaw" (51 : Nat) ({ cls := "DeltaMakerModel", name := "apply", desc := "()I" } : Jvm.MethodName)) ∈ gW := gW_at 620 rfl rfl
set_option maxRecDepth 100000 in
theorem wm621 : (Jvm.Cond.instanceMethod ({ cls := "DeltaMakerModel", name := "apply", desc := "()I" } : Jvm.MethodName)) ∈ gW := gW_at 621 rfl rfl
set_option maxRecDepth 100000 in
theorem wm622 : (Jvm.Cond.selects "DeltaMakerModel" ({ cls := "DeltaMakerModel", name := "apply", desc := "()I" } : Jvm.MethodName) ({ cls := "DeltaMakerModel", name := "apply", desc := "()I" } : Jvm.MethodName)) ∈ gW := gW_at 622 rfl rfl
set_option maxRecDepth 100000 in
theorem wm624 : (Jvm.Cond.methodLink "DeltaMakerModel" (130 : Nat) ({ cls := "DeltaMakerModel", name := "applied", desc := "()I" } : Jvm.MethodName)) ∈ gW := gW_at 624 rfl rfl
set_option maxRecDepth 100000 in
theorem wm626 : (Jvm.Cond.instanceMethod ({ cls := "DeltaMakerModel", name := "applied", desc := "()I" } : Jvm.MethodName)) ∈ gW := gW_at 626 rfl rfl
set_option maxRecDepth 100000 in
theorem wm628 : (Jvm.Cond.methodLink "DeltaMakerModel" (124 : Nat) ({ cls := "DeltaMakerModel", name := "nextNumber", desc := "()I" } : Jvm.MethodName)) ∈ gW := gW_at 628 rfl rfl
set_option maxRecDepth 100000 in
theorem wm630 : (Jvm.Cond.instanceMethod ({ cls := "DeltaMakerModel", name := "nextNumber", desc := "()I" } : Jvm.MethodName)) ∈ gW := gW_at 630 rfl rfl
set_option maxRecDepth 100000 in
theorem wm632 : (Jvm.Cond.methodLink "DeltaMakerModel" (120 : Nat) ({ cls := "DeltaMakerModel", name := "next", desc := "()I" } : Jvm.MethodName)) ∈ gW := gW_at 632 rfl rfl
set_option maxRecDepth 100000 in
theorem wm634 : (Jvm.Cond.instanceMethod ({ cls := "DeltaMakerModel", name := "next", desc := "()I" } : Jvm.MethodName)) ∈ gW := gW_at 634 rfl rfl
set_option maxRecDepth 100000 in
theorem wm636 : (Jvm.Cond.methodLink "DeltaMakerModel" (127 : Nat) ({ cls := "DeltaMakerModel", name := "nextCheck", desc := "()I" } : Jvm.MethodName)) ∈ gW := gW_at 636 rfl rfl
set_option maxRecDepth 100000 in
theorem wm638 : (Jvm.Cond.instanceMethod ({ cls := "DeltaMakerModel", name := "nextCheck", desc := "()I" } : Jvm.MethodName)) ∈ gW := gW_at 638 rfl rfl
set_option maxRecDepth 100000 in
theorem wm640 : (Jvm.Cond.methodLink "DeltaMakerLaw" (55 : Nat) ({ cls := "DeltaMakerModel", name := "inPlace", desc := "()I" } : Jvm.MethodName)) ∈ gW := gW_at 640 rfl rfl
set_option maxRecDepth 100000 in
theorem wm641 : (Jvm.Cond.instanceMethod ({ cls := "DeltaMakerModel", name := "inPlace", desc := "()I" } : Jvm.MethodName)) ∈ gW := gW_at 641 rfl rfl
set_option maxRecDepth 100000 in
theorem wm642 : (Jvm.Cond.selects "DeltaMakerModel" ({ cls := "DeltaMakerModel", name := "inPlace", desc := "()I" } : Jvm.MethodName) ({ cls := "DeltaMakerModel", name := "inPlace", desc := "()I" } : Jvm.MethodName)) ∈ gW := gW_at 642 rfl rfl
set_option maxRecDepth 100000 in
theorem wm644 : (Jvm.Cond.methodLink "DeltaMakerModel" (137 : Nat) ({ cls := "DeltaMakerModel", name := "isFree", desc := "(I)Z" } : Jvm.MethodName)) ∈ gW := gW_at 644 rfl rfl
set_option maxRecDepth 100000 in
theorem wm646 : (Jvm.Cond.instanceMethod ({ cls := "DeltaMakerModel", name := "isFree", desc := "(I)Z" } : Jvm.MethodName)) ∈ gW := gW_at 646 rfl rfl
set_option maxRecDepth 100000 in
theorem wm648 : (Jvm.Cond.methodLink "DeltaMakerModel" (133 : Nat) ({ cls := "DeltaMakerModel", name := "meets", desc := "(IIII)Z" } : Jvm.MethodName)) ∈ gW := gW_at 648 rfl rfl
set_option maxRecDepth 100000 in
theorem wm649 : (Jvm.Cond.static ({ cls := "DeltaMakerModel", name := "meets", desc := "(IIII)Z" } : Jvm.MethodName)) ∈ gW := gW_at 649 rfl rfl
set_option maxRecDepth 100000 in
theorem wm651 : (Jvm.Cond.methodLink "DeltaMakerModel" (141 : Nat) ({ cls := "DeltaMakerModel", name := "shortest", desc := "()I" } : Jvm.MethodName)) ∈ gW := gW_at 651 rfl rfl
set_option maxRecDepth 100000 in
theorem wm653 : (Jvm.Cond.instanceMethod ({ cls := "DeltaMakerModel", name := "shortest", desc := "()I" } : Jvm.MethodName)) ∈ gW := gW_at 653 rfl rfl
set_option maxRecDepth 100000 in
theorem wm655 : (Jvm.Cond.methodLink "DeltaMakerModel" (144 : Nat) ({ cls := "DeltaMakerModel", name := "write", desc := "(I)V" } : Jvm.MethodName)) ∈ gW := gW_at 655 rfl rfl
set_option maxRecDepth 100000 in
theorem wm657 : (Jvm.Cond.instanceMethod ({ cls := "DeltaMakerModel", name := "write", desc := "(I)V" } : Jvm.MethodName)) ∈ gW := gW_at 657 rfl rfl
set_option maxRecDepth 100000 in
theorem wm659 : (Jvm.Cond.constantLong "DeltaMakerLaw" (13 : Nat) (4294967295 : Int64)) ∈ gW := gW_at 659 rfl rfl
end
section
theorem dX3_init_0 : decode cX3_init 0 = .ok (.aload_n 0, 1) := by decide +kernel
theorem dX3_init_1 : decode cX3_init 1 = .ok (.invokespecial 3, 3) := by decide +kernel
theorem dX3_init_4 : decode cX3_init 4 = .ok (.aload_n 0, 1) := by decide +kernel
theorem dX3_init_5 : decode cX3_init 5 = .ok (.iload_n 1, 1) := by decide +kernel
theorem dX3_init_6 : decode cX3_init 6 = .ok (.iconst 0, 1) := by decide +kernel
theorem dX3_init_7 : decode cX3_init 7 = .ok (.invokestatic 9, 3) := by decide +kernel
theorem dX3_init_10 : decode cX3_init 10 = .ok (.newarray .int, 2) := by decide +kernel
theorem dX3_init_12 : decode cX3_init 12 = .ok (.putfield 15, 3) := by decide +kernel
theorem dX3_init_15 : decode cX3_init 15 = .ok (.aload_n 0, 1) := by decide +kernel
theorem dX3_init_16 : decode cX3_init 16 = .ok (.iconst 0, 1) := by decide +kernel
theorem dX3_init_17 : decode cX3_init 17 = .ok (.putfield 21, 3) := by decide +kernel
theorem dX3_init_20 : decode cX3_init 20 = .ok (.return_, 1) := by decide +kernel
theorem dX3_most_0 : decode cX3_most 0 = .ok (.aload_n 0, 1) := by decide +kernel
theorem dX3_most_1 : decode cX3_most 1 = .ok (.getfield 15, 3) := by decide +kernel
theorem dX3_most_4 : decode cX3_most 4 = .ok (.arraylength, 1) := by decide +kernel
theorem dX3_most_5 : decode cX3_most 5 = .ok (.ireturn, 1) := by decide +kernel
theorem dX3_count_0 : decode cX3_count 0 = .ok (.aload_n 0, 1) := by decide +kernel
theorem dX3_count_1 : decode cX3_count 1 = .ok (.getfield 21, 3) := by decide +kernel
theorem dX3_count_4 : decode cX3_count 4 = .ok (.ireturn, 1) := by decide +kernel
theorem dX3_at_0 : decode cX3_at 0 = .ok (.iload_n 1, 1) := by decide +kernel
theorem dX3_at_1 : decode cX3_at 1 = .ok (.ifCond .lt 20, 3) := by decide +kernel
theorem dX3_at_4 : decode cX3_at 4 = .ok (.iload_n 1, 1) := by decide +kernel
theorem dX3_at_5 : decode cX3_at 5 = .ok (.aload_n 0, 1) := by decide +kernel
theorem dX3_at_6 : decode cX3_at 6 = .ok (.getfield 21, 3) := by decide +kernel
theorem dX3_at_9 : decode cX3_at 9 = .ok (.if_icmp .ge 12, 3) := by decide +kernel
theorem dX3_at_12 : decode cX3_at 12 = .ok (.aload_n 0, 1) := by decide +kernel
theorem dX3_at_13 : decode cX3_at 13 = .ok (.getfield 15, 3) := by decide +kernel
theorem dX3_at_16 : decode cX3_at 16 = .ok (.iload_n 1, 1) := by decide +kernel
theorem dX3_at_17 : decode cX3_at 17 = .ok (.iaload, 1) := by decide +kernel
theorem dX3_at_18 : decode cX3_at 18 = .ok (.goto 4, 3) := by decide +kernel
theorem dX3_at_21 : decode cX3_at 21 = .ok (.iconst (-1), 1) := by decide +kernel
theorem dX3_at_22 : decode cX3_at 22 = .ok (.ireturn, 1) := by decide +kernel
theorem dX3_put_0 : decode cX3_put 0 = .ok (.iload_n 1, 1) := by decide +kernel
theorem dX3_put_1 : decode cX3_put 1 = .ok (.ifCond .lt 18, 3) := by decide +kernel
theorem dX3_put_4 : decode cX3_put 4 = .ok (.iload_n 1, 1) := by decide +kernel
theorem dX3_put_5 : decode cX3_put 5 = .ok (.aload_n 0, 1) := by decide +kernel
theorem dX3_put_6 : decode cX3_put 6 = .ok (.getfield 21, 3) := by decide +kernel
theorem dX3_put_9 : decode cX3_put 9 = .ok (.if_icmp .ge 10, 3) := by decide +kernel
theorem dX3_put_12 : decode cX3_put 12 = .ok (.aload_n 0, 1) := by decide +kernel
theorem dX3_put_13 : decode cX3_put 13 = .ok (.getfield 15, 3) := by decide +kernel
theorem dX3_put_16 : decode cX3_put 16 = .ok (.iload_n 1, 1) := by decide +kernel
theorem dX3_put_17 : decode cX3_put 17 = .ok (.iload_n 2, 1) := by decide +kernel
theorem dX3_put_18 : decode cX3_put 18 = .ok (.iastore, 1) := by decide +kernel
theorem dX3_put_19 : decode cX3_put 19 = .ok (.return_, 1) := by decide +kernel
theorem dX3_clear_0 : decode cX3_clear 0 = .ok (.aload_n 0, 1) := by decide +kernel
theorem dX3_clear_1 : decode cX3_clear 1 = .ok (.iconst 0, 1) := by decide +kernel
theorem dX3_clear_2 : decode cX3_clear 2 = .ok (.putfield 21, 3) := by decide +kernel
theorem dX3_clear_5 : decode cX3_clear 5 = .ok (.return_, 1) := by decide +kernel
theorem dX3_setCount_0 : decode cX3_setCount 0 = .ok (.aload_n 0, 1) := by decide +kernel
theorem dX3_setCount_1 : decode cX3_setCount 1 = .ok (.iconst 0, 1) := by decide +kernel
theorem dX3_setCount_2 : decode cX3_setCount 2 = .ok (.iload_n 1, 1) := by decide +kernel
theorem dX3_setCount_3 : decode cX3_setCount 3 = .ok (.aload_n 0, 1) := by decide +kernel
theorem dX3_setCount_4 : decode cX3_setCount 4 = .ok (.getfield 15, 3) := by decide +kernel
theorem dX3_setCount_7 : decode cX3_setCount 7 = .ok (.arraylength, 1) := by decide +kernel
theorem dX3_setCount_8 : decode cX3_setCount 8 = .ok (.invokestatic 25, 3) := by decide +kernel
theorem dX3_setCount_11 : decode cX3_setCount 11 = .ok (.invokestatic 9, 3) := by decide +kernel
theorem dX3_setCount_14 : decode cX3_setCount 14 = .ok (.putfield 21, 3) := by decide +kernel
theorem dX3_setCount_17 : decode cX3_setCount 17 = .ok (.return_, 1) := by decide +kernel
theorem dX3_add_0 : decode cX3_add 0 = .ok (.aload_n 0, 1) := by decide +kernel
theorem dX3_add_1 : decode cX3_add 1 = .ok (.getfield 21, 3) := by decide +kernel
theorem dX3_add_4 : decode cX3_add 4 = .ok (.aload_n 0, 1) := by decide +kernel
theorem dX3_add_5 : decode cX3_add 5 = .ok (.getfield 15, 3) := by decide +kernel
theorem dX3_add_8 : decode cX3_add 8 = .ok (.arraylength, 1) := by decide +kernel
theorem dX3_add_9 : decode cX3_add 9 = .ok (.if_icmp .ge 23, 3) := by decide +kernel
theorem dX3_add_12 : decode cX3_add 12 = .ok (.aload_n 0, 1) := by decide +kernel
theorem dX3_add_13 : decode cX3_add 13 = .ok (.getfield 15, 3) := by decide +kernel
theorem dX3_add_16 : decode cX3_add 16 = .ok (.aload_n 0, 1) := by decide +kernel
theorem dX3_add_17 : decode cX3_add 17 = .ok (.getfield 21, 3) := by decide +kernel
theorem dX3_add_20 : decode cX3_add 20 = .ok (.iload_n 1, 1) := by decide +kernel
theorem dX3_add_21 : decode cX3_add 21 = .ok (.iastore, 1) := by decide +kernel
theorem dX3_add_22 : decode cX3_add 22 = .ok (.aload_n 0, 1) := by decide +kernel
theorem dX3_add_23 : decode cX3_add 23 = .ok (.dup, 1) := by decide +kernel
theorem dX3_add_24 : decode cX3_add 24 = .ok (.getfield 21, 3) := by decide +kernel
theorem dX3_add_27 : decode cX3_add 27 = .ok (.iconst 1, 1) := by decide +kernel
theorem dX3_add_28 : decode cX3_add 28 = .ok (.iadd, 1) := by decide +kernel
theorem dX3_add_29 : decode cX3_add 29 = .ok (.putfield 21, 3) := by decide +kernel
theorem dX3_add_32 : decode cX3_add 32 = .ok (.return_, 1) := by decide +kernel
theorem dX3_addFrom_0 : decode cX3_addFrom 0 = .ok (.iload_n 3, 1) := by decide +kernel
theorem dX3_addFrom_1 : decode cX3_addFrom 1 = .ok (.aload_n 1, 1) := by decide +kernel
theorem dX3_addFrom_2 : decode cX3_addFrom 2 = .ok (.invokevirtual 28, 3) := by decide +kernel
theorem dX3_addFrom_5 : decode cX3_addFrom 5 = .ok (.iload_n 2, 1) := by decide +kernel
theorem dX3_addFrom_6 : decode cX3_addFrom 6 = .ok (.isub, 1) := by decide +kernel
theorem dX3_addFrom_7 : decode cX3_addFrom 7 = .ok (.invokestatic 25, 3) := by decide +kernel
theorem dX3_addFrom_10 : decode cX3_addFrom 10 = .ok (.istore 4, 2) := by decide +kernel
theorem dX3_addFrom_12 : decode cX3_addFrom 12 = .ok (.iconst 0, 1) := by decide +kernel
theorem dX3_addFrom_13 : decode cX3_addFrom 13 = .ok (.istore 5, 2) := by decide +kernel
theorem dX3_addFrom_15 : decode cX3_addFrom 15 = .ok (.iload 5, 2) := by decide +kernel
theorem dX3_addFrom_17 : decode cX3_addFrom 17 = .ok (.iload 4, 2) := by decide +kernel
theorem dX3_addFrom_19 : decode cX3_addFrom 19 = .ok (.if_icmp .ge 21, 3) := by decide +kernel
theorem dX3_addFrom_22 : decode cX3_addFrom 22 = .ok (.aload_n 0, 1) := by decide +kernel
theorem dX3_addFrom_23 : decode cX3_addFrom 23 = .ok (.aload_n 1, 1) := by decide +kernel
theorem dX3_addFrom_24 : decode cX3_addFrom 24 = .ok (.iload_n 2, 1) := by decide +kernel
theorem dX3_addFrom_25 : decode cX3_addFrom 25 = .ok (.iload 5, 2) := by decide +kernel
theorem dX3_addFrom_27 : decode cX3_addFrom 27 = .ok (.iadd, 1) := by decide +kernel
theorem dX3_addFrom_28 : decode cX3_addFrom 28 = .ok (.invokevirtual 31, 3) := by decide +kernel
theorem dX3_addFrom_31 : decode cX3_addFrom 31 = .ok (.invokevirtual 35, 3) := by decide +kernel
theorem dX3_addFrom_34 : decode cX3_addFrom 34 = .ok (.iinc 5 1, 3) := by decide +kernel
theorem dX3_addFrom_37 : decode cX3_addFrom 37 = .ok (.goto (-22), 3) := by decide +kernel
theorem dX3_addFrom_40 : decode cX3_addFrom 40 = .ok (.return_, 1) := by decide +kernel
theorem dX3_become_0 : decode cX3_become 0 = .ok (.aload_n 0, 1) := by decide +kernel
theorem dX3_become_1 : decode cX3_become 1 = .ok (.invokevirtual 39, 3) := by decide +kernel
theorem dX3_become_4 : decode cX3_become 4 = .ok (.aload_n 0, 1) := by decide +kernel
theorem dX3_become_5 : decode cX3_become 5 = .ok (.aload_n 1, 1) := by decide +kernel
theorem dX3_become_6 : decode cX3_become 6 = .ok (.iconst 0, 1) := by decide +kernel
theorem dX3_become_7 : decode cX3_become 7 = .ok (.aload_n 1, 1) := by decide +kernel
theorem dX3_become_8 : decode cX3_become 8 = .ok (.invokevirtual 28, 3) := by decide +kernel
theorem dX3_become_11 : decode cX3_become 11 = .ok (.invokevirtual 42, 3) := by decide +kernel
theorem dX3_become_14 : decode cX3_become 14 = .ok (.return_, 1) := by decide +kernel
theorem dX3_sameFrom_0 : decode cX3_sameFrom 0 = .ok (.iload_n 1, 1) := by decide +kernel
theorem dX3_sameFrom_1 : decode cX3_sameFrom 1 = .ok (.ifCond .lt 7, 3) := by decide +kernel
theorem dX3_sameFrom_4 : decode cX3_sameFrom 4 = .ok (.iload_n 3, 1) := by decide +kernel
theorem dX3_sameFrom_5 : decode cX3_sameFrom 5 = .ok (.ifCond .ge 5, 3) := by decide +kernel
theorem dX3_sameFrom_8 : decode cX3_sameFrom 8 = .ok (.iconst 0, 1) := by decide +kernel
theorem dX3_sameFrom_9 : decode cX3_sameFrom 9 = .ok (.ireturn, 1) := by decide +kernel
theorem dX3_sameFrom_10 : decode cX3_sameFrom 10 = .ok (.aload_n 0, 1) := by decide +kernel
theorem dX3_sameFrom_11 : decode cX3_sameFrom 11 = .ok (.getfield 21, 3) := by decide +kernel
theorem dX3_sameFrom_14 : decode cX3_sameFrom 14 = .ok (.iload_n 1, 1) := by decide +kernel
theorem dX3_sameFrom_15 : decode cX3_sameFrom 15 = .ok (.isub, 1) := by decide +kernel
theorem dX3_sameFrom_16 : decode cX3_sameFrom 16 = .ok (.aload_n 2, 1) := by decide +kernel
theorem dX3_sameFrom_17 : decode cX3_sameFrom 17 = .ok (.getfield 21, 3) := by decide +kernel
theorem dX3_sameFrom_20 : decode cX3_sameFrom 20 = .ok (.iload_n 3, 1) := by decide +kernel
theorem dX3_sameFrom_21 : decode cX3_sameFrom 21 = .ok (.isub, 1) := by decide +kernel
theorem dX3_sameFrom_22 : decode cX3_sameFrom 22 = .ok (.invokestatic 25, 3) := by decide +kernel
theorem dX3_sameFrom_25 : decode cX3_sameFrom 25 = .ok (.istore 4, 2) := by decide +kernel
theorem dX3_sameFrom_27 : decode cX3_sameFrom 27 = .ok (.iconst 0, 1) := by decide +kernel
theorem dX3_sameFrom_28 : decode cX3_sameFrom 28 = .ok (.istore 5, 2) := by decide +kernel
theorem dX3_sameFrom_30 : decode cX3_sameFrom 30 = .ok (.iload 5, 2) := by decide +kernel
theorem dX3_sameFrom_32 : decode cX3_sameFrom 32 = .ok (.iload 4, 2) := by decide +kernel
theorem dX3_sameFrom_34 : decode cX3_sameFrom 34 = .ok (.if_icmp .ge 30, 3) := by decide +kernel
theorem dX3_sameFrom_37 : decode cX3_sameFrom 37 = .ok (.aload_n 0, 1) := by decide +kernel
theorem dX3_sameFrom_38 : decode cX3_sameFrom 38 = .ok (.getfield 15, 3) := by decide +kernel
theorem dX3_sameFrom_41 : decode cX3_sameFrom 41 = .ok (.iload_n 1, 1) := by decide +kernel
theorem dX3_sameFrom_42 : decode cX3_sameFrom 42 = .ok (.iload 5, 2) := by decide +kernel
theorem dX3_sameFrom_44 : decode cX3_sameFrom 44 = .ok (.iadd, 1) := by decide +kernel
theorem dX3_sameFrom_45 : decode cX3_sameFrom 45 = .ok (.iaload, 1) := by decide +kernel
theorem dX3_sameFrom_46 : decode cX3_sameFrom 46 = .ok (.aload_n 2, 1) := by decide +kernel
theorem dX3_sameFrom_47 : decode cX3_sameFrom 47 = .ok (.getfield 15, 3) := by decide +kernel
theorem dX3_sameFrom_50 : decode cX3_sameFrom 50 = .ok (.iload_n 3, 1) := by decide +kernel
theorem dX3_sameFrom_51 : decode cX3_sameFrom 51 = .ok (.iload 5, 2) := by decide +kernel
theorem dX3_sameFrom_53 : decode cX3_sameFrom 53 = .ok (.iadd, 1) := by decide +kernel
theorem dX3_sameFrom_54 : decode cX3_sameFrom 54 = .ok (.iaload, 1) := by decide +kernel
theorem dX3_sameFrom_55 : decode cX3_sameFrom 55 = .ok (.if_icmp .ne 9, 3) := by decide +kernel
theorem dX3_sameFrom_58 : decode cX3_sameFrom 58 = .ok (.iinc 5 1, 3) := by decide +kernel
theorem dX3_sameFrom_61 : decode cX3_sameFrom 61 = .ok (.goto (-31), 3) := by decide +kernel
theorem dX3_sameFrom_64 : decode cX3_sameFrom 64 = .ok (.iload 5, 2) := by decide +kernel
theorem dX3_sameFrom_66 : decode cX3_sameFrom 66 = .ok (.ireturn, 1) := by decide +kernel
theorem dX3_addVarint_0 : decode cX3_addVarint 0 = .ok (.iload_n 1, 1) := by decide +kernel
theorem dX3_addVarint_1 : decode cX3_addVarint 1 = .ok (.istore_n 2, 1) := by decide +kernel
theorem dX3_addVarint_2 : decode cX3_addVarint 2 = .ok (.iconst 1, 1) := by decide +kernel
theorem dX3_addVarint_3 : decode cX3_addVarint 3 = .ok (.istore_n 3, 1) := by decide +kernel
theorem dX3_addVarint_4 : decode cX3_addVarint 4 = .ok (.iload_n 3, 1) := by decide +kernel
theorem dX3_addVarint_5 : decode cX3_addVarint 5 = .ok (.iconst 4, 1) := by decide +kernel
theorem dX3_addVarint_6 : decode cX3_addVarint 6 = .ok (.if_icmp .ge 32, 3) := by decide +kernel
theorem dX3_addVarint_9 : decode cX3_addVarint 9 = .ok (.iload_n 2, 1) := by decide +kernel
theorem dX3_addVarint_10 : decode cX3_addVarint 10 = .ok (.bipush 127, 2) := by decide +kernel
theorem dX3_addVarint_12 : decode cX3_addVarint 12 = .ok (.if_icmp .le 26, 3) := by decide +kernel
theorem dX3_addVarint_15 : decode cX3_addVarint 15 = .ok (.aload_n 0, 1) := by decide +kernel
theorem dX3_addVarint_16 : decode cX3_addVarint 16 = .ok (.iload_n 2, 1) := by decide +kernel
theorem dX3_addVarint_17 : decode cX3_addVarint 17 = .ok (.bipush 127, 2) := by decide +kernel
theorem dX3_addVarint_19 : decode cX3_addVarint 19 = .ok (.iand, 1) := by decide +kernel
theorem dX3_addVarint_20 : decode cX3_addVarint 20 = .ok (.sipush 128, 3) := by decide +kernel
theorem dX3_addVarint_23 : decode cX3_addVarint 23 = .ok (.ior, 1) := by decide +kernel
theorem dX3_addVarint_24 : decode cX3_addVarint 24 = .ok (.invokevirtual 35, 3) := by decide +kernel
theorem dX3_addVarint_27 : decode cX3_addVarint 27 = .ok (.iload_n 2, 1) := by decide +kernel
theorem dX3_addVarint_28 : decode cX3_addVarint 28 = .ok (.bipush 7, 2) := by decide +kernel
theorem dX3_addVarint_30 : decode cX3_addVarint 30 = .ok (.iushr, 1) := by decide +kernel
theorem dX3_addVarint_31 : decode cX3_addVarint 31 = .ok (.istore_n 2, 1) := by decide +kernel
theorem dX3_addVarint_32 : decode cX3_addVarint 32 = .ok (.iinc 3 1, 3) := by decide +kernel
theorem dX3_addVarint_35 : decode cX3_addVarint 35 = .ok (.goto (-31), 3) := by decide +kernel
theorem dX3_addVarint_38 : decode cX3_addVarint 38 = .ok (.aload_n 0, 1) := by decide +kernel
theorem dX3_addVarint_39 : decode cX3_addVarint 39 = .ok (.iload_n 2, 1) := by decide +kernel
theorem dX3_addVarint_40 : decode cX3_addVarint 40 = .ok (.bipush 127, 2) := by decide +kernel
theorem dX3_addVarint_42 : decode cX3_addVarint 42 = .ok (.iand, 1) := by decide +kernel
theorem dX3_addVarint_43 : decode cX3_addVarint 43 = .ok (.invokevirtual 35, 3) := by decide +kernel
theorem dX3_addVarint_46 : decode cX3_addVarint 46 = .ok (.return_, 1) := by decide +kernel
theorem dX3_addWord_0 : decode cX3_addWord 0 = .ok (.iconst 3, 1) := by decide +kernel
theorem dX3_addWord_1 : decode cX3_addWord 1 = .ok (.istore_n 2, 1) := by decide +kernel
theorem dX3_addWord_2 : decode cX3_addWord 2 = .ok (.iload_n 2, 1) := by decide +kernel
theorem dX3_addWord_3 : decode cX3_addWord 3 = .ok (.ifCond .lt 23, 3) := by decide +kernel
theorem dX3_addWord_6 : decode cX3_addWord 6 = .ok (.aload_n 0, 1) := by decide +kernel
theorem dX3_addWord_7 : decode cX3_addWord 7 = .ok (.iload_n 1, 1) := by decide +kernel
theorem dX3_addWord_8 : decode cX3_addWord 8 = .ok (.bipush 8, 2) := by decide +kernel
theorem dX3_addWord_10 : decode cX3_addWord 10 = .ok (.iload_n 2, 1) := by decide +kernel
theorem dX3_addWord_11 : decode cX3_addWord 11 = .ok (.imul, 1) := by decide +kernel
theorem dX3_addWord_12 : decode cX3_addWord 12 = .ok (.iushr, 1) := by decide +kernel
theorem dX3_addWord_13 : decode cX3_addWord 13 = .ok (.sipush 255, 3) := by decide +kernel
theorem dX3_addWord_16 : decode cX3_addWord 16 = .ok (.iand, 1) := by decide +kernel
theorem dX3_addWord_17 : decode cX3_addWord 17 = .ok (.invokevirtual 35, 3) := by decide +kernel
theorem dX3_addWord_20 : decode cX3_addWord 20 = .ok (.iinc 2 (-1), 3) := by decide +kernel
theorem dX3_addWord_23 : decode cX3_addWord 23 = .ok (.goto (-21), 3) := by decide +kernel
theorem dX3_addWord_26 : decode cX3_addWord 26 = .ok (.return_, 1) := by decide +kernel
theorem dX3_digest_0 : decode cX3_digest 0 = .ok (.iconst 0, 1) := by decide +kernel
theorem dX3_digest_1 : decode cX3_digest 1 = .ok (.istore_n 1, 1) := by decide +kernel
theorem dX3_digest_2 : decode cX3_digest 2 = .ok (.iconst 0, 1) := by decide +kernel
theorem dX3_digest_3 : decode cX3_digest 3 = .ok (.istore_n 2, 1) := by decide +kernel
theorem dX3_digest_4 : decode cX3_digest 4 = .ok (.iload_n 2, 1) := by decide +kernel
theorem dX3_digest_5 : decode cX3_digest 5 = .ok (.aload_n 0, 1) := by decide +kernel
theorem dX3_digest_6 : decode cX3_digest 6 = .ok (.getfield 21, 3) := by decide +kernel
theorem dX3_digest_9 : decode cX3_digest 9 = .ok (.if_icmp .ge 39, 3) := by decide +kernel
theorem dX3_digest_12 : decode cX3_digest 12 = .ok (.iload_n 2, 1) := by decide +kernel
theorem dX3_digest_13 : decode cX3_digest 13 = .ok (.aload_n 0, 1) := by decide +kernel
theorem dX3_digest_14 : decode cX3_digest 14 = .ok (.getfield 15, 3) := by decide +kernel
theorem dX3_digest_17 : decode cX3_digest 17 = .ok (.arraylength, 1) := by decide +kernel
theorem dX3_digest_18 : decode cX3_digest 18 = .ok (.if_icmp .ge 30, 3) := by decide +kernel
theorem dX3_digest_21 : decode cX3_digest 21 = .ok (.iload_n 1, 1) := by decide +kernel
theorem dX3_digest_22 : decode cX3_digest 22 = .ok (.aload_n 0, 1) := by decide +kernel
theorem dX3_digest_23 : decode cX3_digest 23 = .ok (.getfield 15, 3) := by decide +kernel
theorem dX3_digest_26 : decode cX3_digest 26 = .ok (.iload_n 2, 1) := by decide +kernel
theorem dX3_digest_27 : decode cX3_digest 27 = .ok (.iaload, 1) := by decide +kernel
theorem dX3_digest_28 : decode cX3_digest 28 = .ok (.ixor, 1) := by decide +kernel
theorem dX3_digest_29 : decode cX3_digest 29 = .ok (.istore_n 3, 1) := by decide +kernel
theorem dX3_digest_30 : decode cX3_digest 30 = .ok (.iload_n 3, 1) := by decide +kernel
theorem dX3_digest_31 : decode cX3_digest 31 = .ok (.iconst 5, 1) := by decide +kernel
theorem dX3_digest_32 : decode cX3_digest 32 = .ok (.ishl, 1) := by decide +kernel
theorem dX3_digest_33 : decode cX3_digest 33 = .ok (.iload_n 3, 1) := by decide +kernel
theorem dX3_digest_34 : decode cX3_digest 34 = .ok (.bipush 27, 2) := by decide +kernel
theorem dX3_digest_36 : decode cX3_digest 36 = .ok (.iushr, 1) := by decide +kernel
theorem dX3_digest_37 : decode cX3_digest 37 = .ok (.ior, 1) := by decide +kernel
theorem dX3_digest_38 : decode cX3_digest 38 = .ok (.ldc 46, 2) := by decide +kernel
theorem dX3_digest_40 : decode cX3_digest 40 = .ok (.imul, 1) := by decide +kernel
theorem dX3_digest_41 : decode cX3_digest 41 = .ok (.istore_n 1, 1) := by decide +kernel
theorem dX3_digest_42 : decode cX3_digest 42 = .ok (.iinc 2 1, 3) := by decide +kernel
theorem dX3_digest_45 : decode cX3_digest 45 = .ok (.goto (-41), 3) := by decide +kernel
theorem dX3_digest_48 : decode cX3_digest 48 = .ok (.iload_n 1, 1) := by decide +kernel
theorem dX3_digest_49 : decode cX3_digest 49 = .ok (.ireturn, 1) := by decide +kernel
theorem dX2_init_0 : decode cX2_init 0 = .ok (.aload_n 0, 1) := by decide +kernel
theorem dX2_init_1 : decode cX2_init 1 = .ok (.invokespecial 3, 3) := by decide +kernel
theorem dX2_init_4 : decode cX2_init 4 = .ok (.aload_n 0, 1) := by decide +kernel
theorem dX2_init_5 : decode cX2_init 5 = .ok (.new 9, 3) := by decide +kernel
theorem dX2_init_8 : decode cX2_init 8 = .ok (.dup, 1) := by decide +kernel
theorem dX2_init_9 : decode cX2_init 9 = .ok (.sipush 300, 3) := by decide +kernel
theorem dX2_init_12 : decode cX2_init 12 = .ok (.invokespecial 11, 3) := by decide +kernel
theorem dX2_init_15 : decode cX2_init 15 = .ok (.putfield 14, 3) := by decide +kernel
theorem dX2_init_18 : decode cX2_init 18 = .ok (.aload_n 0, 1) := by decide +kernel
theorem dX2_init_19 : decode cX2_init 19 = .ok (.new 9, 3) := by decide +kernel
theorem dX2_init_22 : decode cX2_init 22 = .ok (.dup, 1) := by decide +kernel
theorem dX2_init_23 : decode cX2_init 23 = .ok (.sipush 300, 3) := by decide +kernel
theorem dX2_init_26 : decode cX2_init 26 = .ok (.invokespecial 11, 3) := by decide +kernel
theorem dX2_init_29 : decode cX2_init 29 = .ok (.putfield 20, 3) := by decide +kernel
theorem dX2_init_32 : decode cX2_init 32 = .ok (.aload_n 0, 1) := by decide +kernel
theorem dX2_init_33 : decode cX2_init 33 = .ok (.sipush 300, 3) := by decide +kernel
theorem dX2_init_36 : decode cX2_init 36 = .ok (.newarray .int, 2) := by decide +kernel
theorem dX2_init_38 : decode cX2_init 38 = .ok (.putfield 23, 3) := by decide +kernel
theorem dX2_init_41 : decode cX2_init 41 = .ok (.aload_n 0, 1) := by decide +kernel
theorem dX2_init_42 : decode cX2_init 42 = .ok (.sipush 300, 3) := by decide +kernel
theorem dX2_init_45 : decode cX2_init 45 = .ok (.newarray .int, 2) := by decide +kernel
theorem dX2_init_47 : decode cX2_init 47 = .ok (.putfield 27, 3) := by decide +kernel
theorem dX2_init_50 : decode cX2_init 50 = .ok (.aload_n 0, 1) := by decide +kernel
theorem dX2_init_51 : decode cX2_init 51 = .ok (.sipush 300, 3) := by decide +kernel
theorem dX2_init_54 : decode cX2_init 54 = .ok (.newarray .int, 2) := by decide +kernel
theorem dX2_init_56 : decode cX2_init 56 = .ok (.putfield 30, 3) := by decide +kernel
theorem dX2_init_59 : decode cX2_init 59 = .ok (.aload_n 0, 1) := by decide +kernel
theorem dX2_init_60 : decode cX2_init 60 = .ok (.iconst 0, 1) := by decide +kernel
theorem dX2_init_61 : decode cX2_init 61 = .ok (.putfield 33, 3) := by decide +kernel
theorem dX2_init_64 : decode cX2_init 64 = .ok (.return_, 1) := by decide +kernel
theorem dX2_base_0 : decode cX2_base 0 = .ok (.aload_n 0, 1) := by decide +kernel
theorem dX2_base_1 : decode cX2_base 1 = .ok (.getfield 14, 3) := by decide +kernel
theorem dX2_base_4 : decode cX2_base 4 = .ok (.areturn, 1) := by decide +kernel
theorem dX2_goal_0 : decode cX2_goal 0 = .ok (.aload_n 0, 1) := by decide +kernel
theorem dX2_goal_1 : decode cX2_goal 1 = .ok (.getfield 20, 3) := by decide +kernel
theorem dX2_goal_4 : decode cX2_goal 4 = .ok (.areturn, 1) := by decide +kernel
theorem dX2_count_0 : decode cX2_count 0 = .ok (.aload_n 0, 1) := by decide +kernel
theorem dX2_count_1 : decode cX2_count 1 = .ok (.getfield 33, 3) := by decide +kernel
theorem dX2_count_4 : decode cX2_count 4 = .ok (.ireturn, 1) := by decide +kernel
theorem dX2_has_0 : decode cX2_has 0 = .ok (.iload_n 1, 1) := by decide +kernel
theorem dX2_has_1 : decode cX2_has 1 = .ok (.ifCond .lt 15, 3) := by decide +kernel
theorem dX2_has_4 : decode cX2_has 4 = .ok (.iload_n 1, 1) := by decide +kernel
theorem dX2_has_5 : decode cX2_has 5 = .ok (.aload_n 0, 1) := by decide +kernel
theorem dX2_has_6 : decode cX2_has 6 = .ok (.getfield 33, 3) := by decide +kernel
theorem dX2_has_9 : decode cX2_has 9 = .ok (.if_icmp .ge 7, 3) := by decide +kernel
theorem dX2_has_12 : decode cX2_has 12 = .ok (.iconst 1, 1) := by decide +kernel
theorem dX2_has_13 : decode cX2_has 13 = .ok (.goto 4, 3) := by decide +kernel
theorem dX2_has_16 : decode cX2_has 16 = .ok (.iconst 0, 1) := by decide +kernel
theorem dX2_has_17 : decode cX2_has 17 = .ok (.ireturn, 1) := by decide +kernel
theorem dX2_isCopy_0 : decode cX2_isCopy 0 = .ok (.aload_n 0, 1) := by decide +kernel
theorem dX2_isCopy_1 : decode cX2_isCopy 1 = .ok (.iload_n 1, 1) := by decide +kernel
theorem dX2_isCopy_2 : decode cX2_isCopy 2 = .ok (.invokevirtual 37, 3) := by decide +kernel
theorem dX2_isCopy_5 : decode cX2_isCopy 5 = .ok (.iconst (-1), 1) := by decide +kernel
theorem dX2_isCopy_6 : decode cX2_isCopy 6 = .ok (.if_icmp .eq 7, 3) := by decide +kernel
theorem dX2_isCopy_9 : decode cX2_isCopy 9 = .ok (.iconst 1, 1) := by decide +kernel
theorem dX2_isCopy_10 : decode cX2_isCopy 10 = .ok (.goto 4, 3) := by decide +kernel
theorem dX2_isCopy_13 : decode cX2_isCopy 13 = .ok (.iconst 0, 1) := by decide +kernel
theorem dX2_isCopy_14 : decode cX2_isCopy 14 = .ok (.ireturn, 1) := by decide +kernel
theorem dX2_place_0 : decode cX2_place 0 = .ok (.aload_n 0, 1) := by decide +kernel
theorem dX2_place_1 : decode cX2_place 1 = .ok (.iload_n 1, 1) := by decide +kernel
theorem dX2_place_2 : decode cX2_place 2 = .ok (.invokevirtual 41, 3) := by decide +kernel
theorem dX2_place_5 : decode cX2_place 5 = .ok (.ifCond .eq 12, 3) := by decide +kernel
theorem dX2_place_8 : decode cX2_place 8 = .ok (.aload_n 0, 1) := by decide +kernel
theorem dX2_place_9 : decode cX2_place 9 = .ok (.getfield 23, 3) := by decide +kernel
theorem dX2_place_12 : decode cX2_place 12 = .ok (.iload_n 1, 1) := by decide +kernel
theorem dX2_place_13 : decode cX2_place 13 = .ok (.iaload, 1) := by decide +kernel
theorem dX2_place_14 : decode cX2_place 14 = .ok (.goto 4, 3) := by decide +kernel
theorem dX2_place_17 : decode cX2_place 17 = .ok (.iconst (-1), 1) := by decide +kernel
theorem dX2_place_18 : decode cX2_place 18 = .ok (.ireturn, 1) := by decide +kernel
theorem dX2_length_0 : decode cX2_length 0 = .ok (.aload_n 0, 1) := by decide +kernel
theorem dX2_length_1 : decode cX2_length 1 = .ok (.iload_n 1, 1) := by decide +kernel
theorem dX2_length_2 : decode cX2_length 2 = .ok (.invokevirtual 41, 3) := by decide +kernel
theorem dX2_length_5 : decode cX2_length 5 = .ok (.ifCond .eq 12, 3) := by decide +kernel
theorem dX2_length_8 : decode cX2_length 8 = .ok (.aload_n 0, 1) := by decide +kernel
theorem dX2_length_9 : decode cX2_length 9 = .ok (.getfield 27, 3) := by decide +kernel
theorem dX2_length_12 : decode cX2_length 12 = .ok (.iload_n 1, 1) := by decide +kernel
theorem dX2_length_13 : decode cX2_length 13 = .ok (.iaload, 1) := by decide +kernel
theorem dX2_length_14 : decode cX2_length 14 = .ok (.goto 4, 3) := by decide +kernel
theorem dX2_length_17 : decode cX2_length 17 = .ok (.iconst (-1), 1) := by decide +kernel
theorem dX2_length_18 : decode cX2_length 18 = .ok (.ireturn, 1) := by decide +kernel
theorem dX2_source_0 : decode cX2_source 0 = .ok (.aload_n 0, 1) := by decide +kernel
theorem dX2_source_1 : decode cX2_source 1 = .ok (.iload_n 1, 1) := by decide +kernel
theorem dX2_source_2 : decode cX2_source 2 = .ok (.invokevirtual 41, 3) := by decide +kernel
theorem dX2_source_5 : decode cX2_source 5 = .ok (.ifCond .eq 12, 3) := by decide +kernel
theorem dX2_source_8 : decode cX2_source 8 = .ok (.aload_n 0, 1) := by decide +kernel
theorem dX2_source_9 : decode cX2_source 9 = .ok (.getfield 30, 3) := by decide +kernel
theorem dX2_source_12 : decode cX2_source 12 = .ok (.iload_n 1, 1) := by decide +kernel
theorem dX2_source_13 : decode cX2_source 13 = .ok (.iaload, 1) := by decide +kernel
theorem dX2_source_14 : decode cX2_source 14 = .ok (.goto 4, 3) := by decide +kernel
theorem dX2_source_17 : decode cX2_source 17 = .ok (.iconst (-1), 1) := by decide +kernel
theorem dX2_source_18 : decode cX2_source 18 = .ok (.ireturn, 1) := by decide +kernel
theorem dX2_writesWhereTakes_0 : decode cX2_writesWhereTakes 0 = .ok (.aload_n 0, 1) := by decide +kernel
theorem dX2_writesWhereTakes_1 : decode cX2_writesWhereTakes 1 = .ok (.iload_n 1, 1) := by decide +kernel
theorem dX2_writesWhereTakes_2 : decode cX2_writesWhereTakes 2 = .ok (.invokevirtual 41, 3) := by decide +kernel
theorem dX2_writesWhereTakes_5 : decode cX2_writesWhereTakes 5 = .ok (.ifCond .eq 59, 3) := by decide +kernel
theorem dX2_writesWhereTakes_8 : decode cX2_writesWhereTakes 8 = .ok (.aload_n 0, 1) := by decide +kernel
theorem dX2_writesWhereTakes_9 : decode cX2_writesWhereTakes 9 = .ok (.iload_n 2, 1) := by decide +kernel
theorem dX2_writesWhereTakes_10 : decode cX2_writesWhereTakes 10 = .ok (.invokevirtual 41, 3) := by decide +kernel
theorem dX2_writesWhereTakes_13 : decode cX2_writesWhereTakes 13 = .ok (.ifCond .eq 51, 3) := by decide +kernel
theorem dX2_writesWhereTakes_16 : decode cX2_writesWhereTakes 16 = .ok (.aload_n 0, 1) := by decide +kernel
theorem dX2_writesWhereTakes_17 : decode cX2_writesWhereTakes 17 = .ok (.getfield 23, 3) := by decide +kernel
theorem dX2_writesWhereTakes_20 : decode cX2_writesWhereTakes 20 = .ok (.iload_n 1, 1) := by decide +kernel
theorem dX2_writesWhereTakes_21 : decode cX2_writesWhereTakes 21 = .ok (.iaload, 1) := by decide +kernel
theorem dX2_writesWhereTakes_22 : decode cX2_writesWhereTakes 22 = .ok (.aload_n 0, 1) := by decide +kernel
theorem dX2_writesWhereTakes_23 : decode cX2_writesWhereTakes 23 = .ok (.getfield 30, 3) := by decide +kernel
theorem dX2_writesWhereTakes_26 : decode cX2_writesWhereTakes 26 = .ok (.iload_n 2, 1) := by decide +kernel
theorem dX2_writesWhereTakes_27 : decode cX2_writesWhereTakes 27 = .ok (.iaload, 1) := by decide +kernel
theorem dX2_writesWhereTakes_28 : decode cX2_writesWhereTakes 28 = .ok (.aload_n 0, 1) := by decide +kernel
theorem dX2_writesWhereTakes_29 : decode cX2_writesWhereTakes 29 = .ok (.getfield 27, 3) := by decide +kernel
theorem dX2_writesWhereTakes_32 : decode cX2_writesWhereTakes 32 = .ok (.iload_n 2, 1) := by decide +kernel
theorem dX2_writesWhereTakes_33 : decode cX2_writesWhereTakes 33 = .ok (.iaload, 1) := by decide +kernel
theorem dX2_writesWhereTakes_34 : decode cX2_writesWhereTakes 34 = .ok (.iadd, 1) := by decide +kernel
theorem dX2_writesWhereTakes_35 : decode cX2_writesWhereTakes 35 = .ok (.if_icmp .ge 29, 3) := by decide +kernel
theorem dX2_writesWhereTakes_38 : decode cX2_writesWhereTakes 38 = .ok (.aload_n 0, 1) := by decide +kernel
theorem dX2_writesWhereTakes_39 : decode cX2_writesWhereTakes 39 = .ok (.getfield 30, 3) := by decide +kernel
theorem dX2_writesWhereTakes_42 : decode cX2_writesWhereTakes 42 = .ok (.iload_n 2, 1) := by decide +kernel
theorem dX2_writesWhereTakes_43 : decode cX2_writesWhereTakes 43 = .ok (.iaload, 1) := by decide +kernel
theorem dX2_writesWhereTakes_44 : decode cX2_writesWhereTakes 44 = .ok (.aload_n 0, 1) := by decide +kernel
theorem dX2_writesWhereTakes_45 : decode cX2_writesWhereTakes 45 = .ok (.getfield 23, 3) := by decide +kernel
theorem dX2_writesWhereTakes_48 : decode cX2_writesWhereTakes 48 = .ok (.iload_n 1, 1) := by decide +kernel
theorem dX2_writesWhereTakes_49 : decode cX2_writesWhereTakes 49 = .ok (.iaload, 1) := by decide +kernel
theorem dX2_writesWhereTakes_50 : decode cX2_writesWhereTakes 50 = .ok (.aload_n 0, 1) := by decide +kernel
theorem dX2_writesWhereTakes_51 : decode cX2_writesWhereTakes 51 = .ok (.getfield 27, 3) := by decide +kernel
theorem dX2_writesWhereTakes_54 : decode cX2_writesWhereTakes 54 = .ok (.iload_n 1, 1) := by decide +kernel
theorem dX2_writesWhereTakes_55 : decode cX2_writesWhereTakes 55 = .ok (.iaload, 1) := by decide +kernel
theorem dX2_writesWhereTakes_56 : decode cX2_writesWhereTakes 56 = .ok (.iadd, 1) := by decide +kernel
theorem dX2_writesWhereTakes_57 : decode cX2_writesWhereTakes 57 = .ok (.if_icmp .ge 7, 3) := by decide +kernel
theorem dX2_writesWhereTakes_60 : decode cX2_writesWhereTakes 60 = .ok (.iconst 1, 1) := by decide +kernel
theorem dX2_writesWhereTakes_61 : decode cX2_writesWhereTakes 61 = .ok (.goto 4, 3) := by decide +kernel
theorem dX2_writesWhereTakes_64 : decode cX2_writesWhereTakes 64 = .ok (.iconst 0, 1) := by decide +kernel
theorem dX2_writesWhereTakes_65 : decode cX2_writesWhereTakes 65 = .ok (.ireturn, 1) := by decide +kernel
theorem dX2_layOut_0 : decode cX2_layOut 0 = .ok (.aload_n 0, 1) := by decide +kernel
theorem dX2_layOut_1 : decode cX2_layOut 1 = .ok (.getfield 14, 3) := by decide +kernel
theorem dX2_layOut_4 : decode cX2_layOut 4 = .ok (.aload_n 1, 1) := by decide +kernel
theorem dX2_layOut_5 : decode cX2_layOut 5 = .ok (.invokevirtual 45, 3) := by decide +kernel
theorem dX2_layOut_8 : decode cX2_layOut 8 = .ok (.aload_n 0, 1) := by decide +kernel
theorem dX2_layOut_9 : decode cX2_layOut 9 = .ok (.getfield 20, 3) := by decide +kernel
theorem dX2_layOut_12 : decode cX2_layOut 12 = .ok (.aload_n 2, 1) := by decide +kernel
theorem dX2_layOut_13 : decode cX2_layOut 13 = .ok (.invokevirtual 45, 3) := by decide +kernel
theorem dX2_layOut_16 : decode cX2_layOut 16 = .ok (.aload_n 0, 1) := by decide +kernel
theorem dX2_layOut_17 : decode cX2_layOut 17 = .ok (.iconst 0, 1) := by decide +kernel
theorem dX2_layOut_18 : decode cX2_layOut 18 = .ok (.putfield 33, 3) := by decide +kernel
theorem dX2_layOut_21 : decode cX2_layOut 21 = .ok (.iconst 0, 1) := by decide +kernel
theorem dX2_layOut_22 : decode cX2_layOut 22 = .ok (.istore_n 3, 1) := by decide +kernel
theorem dX2_layOut_23 : decode cX2_layOut 23 = .ok (.iconst 0, 1) := by decide +kernel
theorem dX2_layOut_24 : decode cX2_layOut 24 = .ok (.istore 4, 2) := by decide +kernel
theorem dX2_layOut_26 : decode cX2_layOut 26 = .ok (.iload 4, 2) := by decide +kernel
theorem dX2_layOut_28 : decode cX2_layOut 28 = .ok (.sipush 300, 3) := by decide +kernel
theorem dX2_layOut_31 : decode cX2_layOut 31 = .ok (.if_icmp .ge 74, 3) := by decide +kernel
theorem dX2_layOut_34 : decode cX2_layOut 34 = .ok (.iload_n 3, 1) := by decide +kernel
theorem dX2_layOut_35 : decode cX2_layOut 35 = .ok (.aload_n 0, 1) := by decide +kernel
theorem dX2_layOut_36 : decode cX2_layOut 36 = .ok (.getfield 20, 3) := by decide +kernel
theorem dX2_layOut_39 : decode cX2_layOut 39 = .ok (.invokevirtual 49, 3) := by decide +kernel
theorem dX2_layOut_42 : decode cX2_layOut 42 = .ok (.if_icmp .ge 63, 3) := by decide +kernel
theorem dX2_layOut_45 : decode cX2_layOut 45 = .ok (.aload_n 0, 1) := by decide +kernel
theorem dX2_layOut_46 : decode cX2_layOut 46 = .ok (.iload_n 3, 1) := by decide +kernel
theorem dX2_layOut_47 : decode cX2_layOut 47 = .ok (.invokevirtual 52, 3) := by decide +kernel
theorem dX2_layOut_50 : decode cX2_layOut 50 = .ok (.istore 5, 2) := by decide +kernel
theorem dX2_layOut_52 : decode cX2_layOut 52 = .ok (.aload_n 0, 1) := by decide +kernel
theorem dX2_layOut_53 : decode cX2_layOut 53 = .ok (.getfield 20, 3) := by decide +kernel
theorem dX2_layOut_56 : decode cX2_layOut 56 = .ok (.iload_n 3, 1) := by decide +kernel
theorem dX2_layOut_57 : decode cX2_layOut 57 = .ok (.aload_n 0, 1) := by decide +kernel
theorem dX2_layOut_58 : decode cX2_layOut 58 = .ok (.getfield 14, 3) := by decide +kernel
theorem dX2_layOut_61 : decode cX2_layOut 61 = .ok (.iload 5, 2) := by decide +kernel
theorem dX2_layOut_63 : decode cX2_layOut 63 = .ok (.invokevirtual 55, 3) := by decide +kernel
theorem dX2_layOut_66 : decode cX2_layOut 66 = .ok (.istore 6, 2) := by decide +kernel
theorem dX2_layOut_68 : decode cX2_layOut 68 = .ok (.iload 6, 2) := by decide +kernel
theorem dX2_layOut_70 : decode cX2_layOut 70 = .ok (.iconst 4, 1) := by decide +kernel
theorem dX2_layOut_71 : decode cX2_layOut 71 = .ok (.if_icmp .lt 20, 3) := by decide +kernel
theorem dX2_layOut_74 : decode cX2_layOut 74 = .ok (.aload_n 0, 1) := by decide +kernel
theorem dX2_layOut_75 : decode cX2_layOut 75 = .ok (.iload_n 3, 1) := by decide +kernel
theorem dX2_layOut_76 : decode cX2_layOut 76 = .ok (.iload 6, 2) := by decide +kernel
theorem dX2_layOut_78 : decode cX2_layOut 78 = .ok (.iload 5, 2) := by decide +kernel
theorem dX2_layOut_80 : decode cX2_layOut 80 = .ok (.invokevirtual 59, 3) := by decide +kernel
theorem dX2_layOut_83 : decode cX2_layOut 83 = .ok (.iload_n 3, 1) := by decide +kernel
theorem dX2_layOut_84 : decode cX2_layOut 84 = .ok (.iload 6, 2) := by decide +kernel
theorem dX2_layOut_86 : decode cX2_layOut 86 = .ok (.iadd, 1) := by decide +kernel
theorem dX2_layOut_87 : decode cX2_layOut 87 = .ok (.istore_n 3, 1) := by decide +kernel
theorem dX2_layOut_88 : decode cX2_layOut 88 = .ok (.goto 11, 3) := by decide +kernel
theorem dX2_layOut_91 : decode cX2_layOut 91 = .ok (.aload_n 0, 1) := by decide +kernel
theorem dX2_layOut_92 : decode cX2_layOut 92 = .ok (.iload_n 3, 1) := by decide +kernel
theorem dX2_layOut_93 : decode cX2_layOut 93 = .ok (.invokevirtual 63, 3) := by decide +kernel
theorem dX2_layOut_96 : decode cX2_layOut 96 = .ok (.iinc 3 1, 3) := by decide +kernel
theorem dX2_layOut_99 : decode cX2_layOut 99 = .ok (.iinc 4 1, 3) := by decide +kernel
theorem dX2_layOut_102 : decode cX2_layOut 102 = .ok (.goto (-76), 3) := by decide +kernel
theorem dX2_layOut_105 : decode cX2_layOut 105 = .ok (.return_, 1) := by decide +kernel
theorem dX2_placeOfLongestRun_0 : decode cX2_placeOfLongestRun 0 = .ok (.iconst 0, 1) := by decide +kernel
theorem dX2_placeOfLongestRun_1 : decode cX2_placeOfLongestRun 1 = .ok (.istore_n 2, 1) := by decide +kernel
theorem dX2_placeOfLongestRun_2 : decode cX2_placeOfLongestRun 2 = .ok (.iconst 0, 1) := by decide +kernel
theorem dX2_placeOfLongestRun_3 : decode cX2_placeOfLongestRun 3 = .ok (.istore_n 3, 1) := by decide +kernel
theorem dX2_placeOfLongestRun_4 : decode cX2_placeOfLongestRun 4 = .ok (.iconst 0, 1) := by decide +kernel
theorem dX2_placeOfLongestRun_5 : decode cX2_placeOfLongestRun 5 = .ok (.istore 4, 2) := by decide +kernel
theorem dX2_placeOfLongestRun_7 : decode cX2_placeOfLongestRun 7 = .ok (.iload 4, 2) := by decide +kernel
theorem dX2_placeOfLongestRun_9 : decode cX2_placeOfLongestRun 9 = .ok (.aload_n 0, 1) := by decide +kernel
theorem dX2_placeOfLongestRun_10 : decode cX2_placeOfLongestRun 10 = .ok (.getfield 14, 3) := by decide +kernel
theorem dX2_placeOfLongestRun_13 : decode cX2_placeOfLongestRun 13 = .ok (.invokevirtual 49, 3) := by decide +kernel
theorem dX2_placeOfLongestRun_16 : decode cX2_placeOfLongestRun 16 = .ok (.iload_n 2, 1) := by decide +kernel
theorem dX2_placeOfLongestRun_17 : decode cX2_placeOfLongestRun 17 = .ok (.isub, 1) := by decide +kernel
theorem dX2_placeOfLongestRun_18 : decode cX2_placeOfLongestRun 18 = .ok (.if_icmp .ge 37, 3) := by decide +kernel
theorem dX2_placeOfLongestRun_21 : decode cX2_placeOfLongestRun 21 = .ok (.aload_n 0, 1) := by decide +kernel
theorem dX2_placeOfLongestRun_22 : decode cX2_placeOfLongestRun 22 = .ok (.getfield 20, 3) := by decide +kernel
theorem dX2_placeOfLongestRun_25 : decode cX2_placeOfLongestRun 25 = .ok (.iload_n 1, 1) := by decide +kernel
theorem dX2_placeOfLongestRun_26 : decode cX2_placeOfLongestRun 26 = .ok (.aload_n 0, 1) := by decide +kernel
theorem dX2_placeOfLongestRun_27 : decode cX2_placeOfLongestRun 27 = .ok (.getfield 14, 3) := by decide +kernel
theorem dX2_placeOfLongestRun_30 : decode cX2_placeOfLongestRun 30 = .ok (.iload 4, 2) := by decide +kernel
theorem dX2_placeOfLongestRun_32 : decode cX2_placeOfLongestRun 32 = .ok (.invokevirtual 55, 3) := by decide +kernel
theorem dX2_placeOfLongestRun_35 : decode cX2_placeOfLongestRun 35 = .ok (.istore 5, 2) := by decide +kernel
theorem dX2_placeOfLongestRun_37 : decode cX2_placeOfLongestRun 37 = .ok (.iload 5, 2) := by decide +kernel
theorem dX2_placeOfLongestRun_39 : decode cX2_placeOfLongestRun 39 = .ok (.iload_n 2, 1) := by decide +kernel
theorem dX2_placeOfLongestRun_40 : decode cX2_placeOfLongestRun 40 = .ok (.if_icmp .le 9, 3) := by decide +kernel
theorem dX2_placeOfLongestRun_43 : decode cX2_placeOfLongestRun 43 = .ok (.iload 5, 2) := by decide +kernel
theorem dX2_placeOfLongestRun_45 : decode cX2_placeOfLongestRun 45 = .ok (.istore_n 2, 1) := by decide +kernel
theorem dX2_placeOfLongestRun_46 : decode cX2_placeOfLongestRun 46 = .ok (.iload 4, 2) := by decide +kernel
theorem dX2_placeOfLongestRun_48 : decode cX2_placeOfLongestRun 48 = .ok (.istore_n 3, 1) := by decide +kernel
theorem dX2_placeOfLongestRun_49 : decode cX2_placeOfLongestRun 49 = .ok (.iinc 4 1, 3) := by decide +kernel
theorem dX2_placeOfLongestRun_52 : decode cX2_placeOfLongestRun 52 = .ok (.goto (-45), 3) := by decide +kernel
theorem dX2_placeOfLongestRun_55 : decode cX2_placeOfLongestRun 55 = .ok (.iload_n 3, 1) := by decide +kernel
theorem dX2_placeOfLongestRun_56 : decode cX2_placeOfLongestRun 56 = .ok (.ireturn, 1) := by decide +kernel
theorem dX2_addByte_0 : decode cX2_addByte 0 = .ok (.aload_n 0, 1) := by decide +kernel
theorem dX2_addByte_1 : decode cX2_addByte 1 = .ok (.getfield 33, 3) := by decide +kernel
theorem dX2_addByte_4 : decode cX2_addByte 4 = .ok (.iconst 1, 1) := by decide +kernel
theorem dX2_addByte_5 : decode cX2_addByte 5 = .ok (.isub, 1) := by decide +kernel
theorem dX2_addByte_6 : decode cX2_addByte 6 = .ok (.istore_n 2, 1) := by decide +kernel
theorem dX2_addByte_7 : decode cX2_addByte 7 = .ok (.aload_n 0, 1) := by decide +kernel
theorem dX2_addByte_8 : decode cX2_addByte 8 = .ok (.iload_n 2, 1) := by decide +kernel
theorem dX2_addByte_9 : decode cX2_addByte 9 = .ok (.invokevirtual 41, 3) := by decide +kernel
theorem dX2_addByte_12 : decode cX2_addByte 12 = .ok (.ifCond .eq 34, 3) := by decide +kernel
theorem dX2_addByte_15 : decode cX2_addByte 15 = .ok (.aload_n 0, 1) := by decide +kernel
theorem dX2_addByte_16 : decode cX2_addByte 16 = .ok (.iload_n 2, 1) := by decide +kernel
theorem dX2_addByte_17 : decode cX2_addByte 17 = .ok (.invokevirtual 66, 3) := by decide +kernel
theorem dX2_addByte_20 : decode cX2_addByte 20 = .ok (.ifCond .ne 26, 3) := by decide +kernel
theorem dX2_addByte_23 : decode cX2_addByte 23 = .ok (.aload_n 0, 1) := by decide +kernel
theorem dX2_addByte_24 : decode cX2_addByte 24 = .ok (.iload_n 2, 1) := by decide +kernel
theorem dX2_addByte_25 : decode cX2_addByte 25 = .ok (.invokevirtual 69, 3) := by decide +kernel
theorem dX2_addByte_28 : decode cX2_addByte 28 = .ok (.bipush 40, 2) := by decide +kernel
theorem dX2_addByte_30 : decode cX2_addByte 30 = .ok (.if_icmp .ge 16, 3) := by decide +kernel
theorem dX2_addByte_33 : decode cX2_addByte 33 = .ok (.aload_n 0, 1) := by decide +kernel
theorem dX2_addByte_34 : decode cX2_addByte 34 = .ok (.getfield 27, 3) := by decide +kernel
theorem dX2_addByte_37 : decode cX2_addByte 37 = .ok (.iload_n 2, 1) := by decide +kernel
theorem dX2_addByte_38 : decode cX2_addByte 38 = .ok (.dup2, 1) := by decide +kernel
theorem dX2_addByte_39 : decode cX2_addByte 39 = .ok (.iaload, 1) := by decide +kernel
theorem dX2_addByte_40 : decode cX2_addByte 40 = .ok (.iconst 1, 1) := by decide +kernel
theorem dX2_addByte_41 : decode cX2_addByte 41 = .ok (.iadd, 1) := by decide +kernel
theorem dX2_addByte_42 : decode cX2_addByte 42 = .ok (.iastore, 1) := by decide +kernel
theorem dX2_addByte_43 : decode cX2_addByte 43 = .ok (.goto 10, 3) := by decide +kernel
theorem dX2_addByte_46 : decode cX2_addByte 46 = .ok (.aload_n 0, 1) := by decide +kernel
theorem dX2_addByte_47 : decode cX2_addByte 47 = .ok (.iload_n 1, 1) := by decide +kernel
theorem dX2_addByte_48 : decode cX2_addByte 48 = .ok (.iconst 1, 1) := by decide +kernel
theorem dX2_addByte_49 : decode cX2_addByte 49 = .ok (.iconst (-1), 1) := by decide +kernel
theorem dX2_addByte_50 : decode cX2_addByte 50 = .ok (.invokevirtual 59, 3) := by decide +kernel
theorem dX2_addByte_53 : decode cX2_addByte 53 = .ok (.return_, 1) := by decide +kernel
theorem dX2_append_0 : decode cX2_append 0 = .ok (.aload_n 0, 1) := by decide +kernel
theorem dX2_append_1 : decode cX2_append 1 = .ok (.getfield 33, 3) := by decide +kernel
theorem dX2_append_4 : decode cX2_append 4 = .ok (.sipush 300, 3) := by decide +kernel
theorem dX2_append_7 : decode cX2_append 7 = .ok (.if_icmp .ge 43, 3) := by decide +kernel
theorem dX2_append_10 : decode cX2_append 10 = .ok (.aload_n 0, 1) := by decide +kernel
theorem dX2_append_11 : decode cX2_append 11 = .ok (.getfield 23, 3) := by decide +kernel
theorem dX2_append_14 : decode cX2_append 14 = .ok (.aload_n 0, 1) := by decide +kernel
theorem dX2_append_15 : decode cX2_append 15 = .ok (.getfield 33, 3) := by decide +kernel
theorem dX2_append_18 : decode cX2_append 18 = .ok (.iload_n 1, 1) := by decide +kernel
theorem dX2_append_19 : decode cX2_append 19 = .ok (.iastore, 1) := by decide +kernel
theorem dX2_append_20 : decode cX2_append 20 = .ok (.aload_n 0, 1) := by decide +kernel
theorem dX2_append_21 : decode cX2_append 21 = .ok (.getfield 27, 3) := by decide +kernel
theorem dX2_append_24 : decode cX2_append 24 = .ok (.aload_n 0, 1) := by decide +kernel
theorem dX2_append_25 : decode cX2_append 25 = .ok (.getfield 33, 3) := by decide +kernel
theorem dX2_append_28 : decode cX2_append 28 = .ok (.iload_n 2, 1) := by decide +kernel
theorem dX2_append_29 : decode cX2_append 29 = .ok (.iastore, 1) := by decide +kernel
theorem dX2_append_30 : decode cX2_append 30 = .ok (.aload_n 0, 1) := by decide +kernel
theorem dX2_append_31 : decode cX2_append 31 = .ok (.getfield 30, 3) := by decide +kernel
theorem dX2_append_34 : decode cX2_append 34 = .ok (.aload_n 0, 1) := by decide +kernel
theorem dX2_append_35 : decode cX2_append 35 = .ok (.getfield 33, 3) := by decide +kernel
theorem dX2_append_38 : decode cX2_append 38 = .ok (.iload_n 3, 1) := by decide +kernel
theorem dX2_append_39 : decode cX2_append 39 = .ok (.iastore, 1) := by decide +kernel
theorem dX2_append_40 : decode cX2_append 40 = .ok (.aload_n 0, 1) := by decide +kernel
theorem dX2_append_41 : decode cX2_append 41 = .ok (.dup, 1) := by decide +kernel
theorem dX2_append_42 : decode cX2_append 42 = .ok (.getfield 33, 3) := by decide +kernel
theorem dX2_append_45 : decode cX2_append 45 = .ok (.iconst 1, 1) := by decide +kernel
theorem dX2_append_46 : decode cX2_append 46 = .ok (.iadd, 1) := by decide +kernel
theorem dX2_append_47 : decode cX2_append 47 = .ok (.putfield 33, 3) := by decide +kernel
theorem dX2_append_50 : decode cX2_append 50 = .ok (.return_, 1) := by decide +kernel
theorem dX2_writeTo_0 : decode cX2_writeTo 0 = .ok (.aload_n 1, 1) := by decide +kernel
theorem dX2_writeTo_1 : decode cX2_writeTo 1 = .ok (.invokevirtual 72, 3) := by decide +kernel
theorem dX2_writeTo_4 : decode cX2_writeTo 4 = .ok (.aload_n 1, 1) := by decide +kernel
theorem dX2_writeTo_5 : decode cX2_writeTo 5 = .ok (.aload_n 0, 1) := by decide +kernel
theorem dX2_writeTo_6 : decode cX2_writeTo 6 = .ok (.getfield 14, 3) := by decide +kernel
theorem dX2_writeTo_9 : decode cX2_writeTo 9 = .ok (.invokevirtual 49, 3) := by decide +kernel
theorem dX2_writeTo_12 : decode cX2_writeTo 12 = .ok (.invokevirtual 75, 3) := by decide +kernel
theorem dX2_writeTo_15 : decode cX2_writeTo 15 = .ok (.aload_n 1, 1) := by decide +kernel
theorem dX2_writeTo_16 : decode cX2_writeTo 16 = .ok (.aload_n 0, 1) := by decide +kernel
theorem dX2_writeTo_17 : decode cX2_writeTo 17 = .ok (.getfield 20, 3) := by decide +kernel
theorem dX2_writeTo_20 : decode cX2_writeTo 20 = .ok (.invokevirtual 49, 3) := by decide +kernel
theorem dX2_writeTo_23 : decode cX2_writeTo 23 = .ok (.invokevirtual 75, 3) := by decide +kernel
theorem dX2_writeTo_26 : decode cX2_writeTo 26 = .ok (.aload_n 1, 1) := by decide +kernel
theorem dX2_writeTo_27 : decode cX2_writeTo 27 = .ok (.aload_n 0, 1) := by decide +kernel
theorem dX2_writeTo_28 : decode cX2_writeTo 28 = .ok (.getfield 14, 3) := by decide +kernel
theorem dX2_writeTo_31 : decode cX2_writeTo 31 = .ok (.invokevirtual 78, 3) := by decide +kernel
theorem dX2_writeTo_34 : decode cX2_writeTo 34 = .ok (.invokevirtual 81, 3) := by decide +kernel
theorem dX2_writeTo_37 : decode cX2_writeTo 37 = .ok (.aload_n 1, 1) := by decide +kernel
theorem dX2_writeTo_38 : decode cX2_writeTo 38 = .ok (.aload_n 0, 1) := by decide +kernel
theorem dX2_writeTo_39 : decode cX2_writeTo 39 = .ok (.getfield 20, 3) := by decide +kernel
theorem dX2_writeTo_42 : decode cX2_writeTo 42 = .ok (.invokevirtual 78, 3) := by decide +kernel
theorem dX2_writeTo_45 : decode cX2_writeTo 45 = .ok (.invokevirtual 81, 3) := by decide +kernel
theorem dX2_writeTo_48 : decode cX2_writeTo 48 = .ok (.iconst 0, 1) := by decide +kernel
theorem dX2_writeTo_49 : decode cX2_writeTo 49 = .ok (.istore_n 2, 1) := by decide +kernel
theorem dX2_writeTo_50 : decode cX2_writeTo 50 = .ok (.iconst 0, 1) := by decide +kernel
theorem dX2_writeTo_51 : decode cX2_writeTo 51 = .ok (.istore_n 3, 1) := by decide +kernel
theorem dX2_writeTo_52 : decode cX2_writeTo 52 = .ok (.iload_n 3, 1) := by decide +kernel
theorem dX2_writeTo_53 : decode cX2_writeTo 53 = .ok (.aload_n 0, 1) := by decide +kernel
theorem dX2_writeTo_54 : decode cX2_writeTo 54 = .ok (.getfield 33, 3) := by decide +kernel
theorem dX2_writeTo_57 : decode cX2_writeTo 57 = .ok (.if_icmp .ge 88, 3) := by decide +kernel
theorem dX2_writeTo_60 : decode cX2_writeTo 60 = .ok (.aload_n 0, 1) := by decide +kernel
theorem dX2_writeTo_61 : decode cX2_writeTo 61 = .ok (.iload_n 3, 1) := by decide +kernel
theorem dX2_writeTo_62 : decode cX2_writeTo 62 = .ok (.invokevirtual 66, 3) := by decide +kernel
theorem dX2_writeTo_65 : decode cX2_writeTo 65 = .ok (.ifCond .eq 45, 3) := by decide +kernel
theorem dX2_writeTo_68 : decode cX2_writeTo 68 = .ok (.aload_n 1, 1) := by decide +kernel
theorem dX2_writeTo_69 : decode cX2_writeTo 69 = .ok (.iconst 2, 1) := by decide +kernel
theorem dX2_writeTo_70 : decode cX2_writeTo 70 = .ok (.aload_n 0, 1) := by decide +kernel
theorem dX2_writeTo_71 : decode cX2_writeTo 71 = .ok (.iload_n 3, 1) := by decide +kernel
theorem dX2_writeTo_72 : decode cX2_writeTo 72 = .ok (.invokevirtual 69, 3) := by decide +kernel
theorem dX2_writeTo_75 : decode cX2_writeTo 75 = .ok (.imul, 1) := by decide +kernel
theorem dX2_writeTo_76 : decode cX2_writeTo 76 = .ok (.iconst 1, 1) := by decide +kernel
theorem dX2_writeTo_77 : decode cX2_writeTo 77 = .ok (.iadd, 1) := by decide +kernel
theorem dX2_writeTo_78 : decode cX2_writeTo 78 = .ok (.invokevirtual 75, 3) := by decide +kernel
theorem dX2_writeTo_81 : decode cX2_writeTo 81 = .ok (.aload_n 1, 1) := by decide +kernel
theorem dX2_writeTo_82 : decode cX2_writeTo 82 = .ok (.aload_n 0, 1) := by decide +kernel
theorem dX2_writeTo_83 : decode cX2_writeTo 83 = .ok (.iload_n 3, 1) := by decide +kernel
theorem dX2_writeTo_84 : decode cX2_writeTo 84 = .ok (.invokevirtual 37, 3) := by decide +kernel
theorem dX2_writeTo_87 : decode cX2_writeTo 87 = .ok (.iload_n 2, 1) := by decide +kernel
theorem dX2_writeTo_88 : decode cX2_writeTo 88 = .ok (.isub, 1) := by decide +kernel
theorem dX2_writeTo_89 : decode cX2_writeTo 89 = .ok (.invokestatic 84, 3) := by decide +kernel
theorem dX2_writeTo_92 : decode cX2_writeTo 92 = .ok (.invokevirtual 75, 3) := by decide +kernel
theorem dX2_writeTo_95 : decode cX2_writeTo 95 = .ok (.aload_n 0, 1) := by decide +kernel
theorem dX2_writeTo_96 : decode cX2_writeTo 96 = .ok (.iload_n 3, 1) := by decide +kernel
theorem dX2_writeTo_97 : decode cX2_writeTo 97 = .ok (.invokevirtual 37, 3) := by decide +kernel
theorem dX2_writeTo_100 : decode cX2_writeTo 100 = .ok (.aload_n 0, 1) := by decide +kernel
theorem dX2_writeTo_101 : decode cX2_writeTo 101 = .ok (.iload_n 3, 1) := by decide +kernel
theorem dX2_writeTo_102 : decode cX2_writeTo 102 = .ok (.invokevirtual 69, 3) := by decide +kernel
theorem dX2_writeTo_105 : decode cX2_writeTo 105 = .ok (.iadd, 1) := by decide +kernel
theorem dX2_writeTo_106 : decode cX2_writeTo 106 = .ok (.istore_n 2, 1) := by decide +kernel
theorem dX2_writeTo_107 : decode cX2_writeTo 107 = .ok (.goto 32, 3) := by decide +kernel
theorem dX2_writeTo_110 : decode cX2_writeTo 110 = .ok (.aload_n 1, 1) := by decide +kernel
theorem dX2_writeTo_111 : decode cX2_writeTo 111 = .ok (.iconst 2, 1) := by decide +kernel
theorem dX2_writeTo_112 : decode cX2_writeTo 112 = .ok (.aload_n 0, 1) := by decide +kernel
theorem dX2_writeTo_113 : decode cX2_writeTo 113 = .ok (.iload_n 3, 1) := by decide +kernel
theorem dX2_writeTo_114 : decode cX2_writeTo 114 = .ok (.invokevirtual 69, 3) := by decide +kernel
theorem dX2_writeTo_117 : decode cX2_writeTo 117 = .ok (.imul, 1) := by decide +kernel
theorem dX2_writeTo_118 : decode cX2_writeTo 118 = .ok (.invokevirtual 75, 3) := by decide +kernel
theorem dX2_writeTo_121 : decode cX2_writeTo 121 = .ok (.aload_n 1, 1) := by decide +kernel
theorem dX2_writeTo_122 : decode cX2_writeTo 122 = .ok (.aload_n 0, 1) := by decide +kernel
theorem dX2_writeTo_123 : decode cX2_writeTo 123 = .ok (.getfield 20, 3) := by decide +kernel
theorem dX2_writeTo_126 : decode cX2_writeTo 126 = .ok (.aload_n 0, 1) := by decide +kernel
theorem dX2_writeTo_127 : decode cX2_writeTo 127 = .ok (.iload_n 3, 1) := by decide +kernel
theorem dX2_writeTo_128 : decode cX2_writeTo 128 = .ok (.invokevirtual 87, 3) := by decide +kernel
theorem dX2_writeTo_131 : decode cX2_writeTo 131 = .ok (.aload_n 0, 1) := by decide +kernel
theorem dX2_writeTo_132 : decode cX2_writeTo 132 = .ok (.iload_n 3, 1) := by decide +kernel
theorem dX2_writeTo_133 : decode cX2_writeTo 133 = .ok (.invokevirtual 69, 3) := by decide +kernel
theorem dX2_writeTo_136 : decode cX2_writeTo 136 = .ok (.invokevirtual 90, 3) := by decide +kernel
theorem dX2_writeTo_139 : decode cX2_writeTo 139 = .ok (.iinc 3 1, 3) := by decide +kernel
theorem dX2_writeTo_142 : decode cX2_writeTo 142 = .ok (.goto (-90), 3) := by decide +kernel
theorem dX2_writeTo_145 : decode cX2_writeTo 145 = .ok (.return_, 1) := by decide +kernel
theorem dX2_withoutSign_0 : decode cX2_withoutSign 0 = .ok (.iload_n 0, 1) := by decide +kernel
theorem dX2_withoutSign_1 : decode cX2_withoutSign 1 = .ok (.ifCond .ge 12, 3) := by decide +kernel
theorem dX2_withoutSign_4 : decode cX2_withoutSign 4 = .ok (.bipush (-2), 2) := by decide +kernel
theorem dX2_withoutSign_6 : decode cX2_withoutSign 6 = .ok (.iload_n 0, 1) := by decide +kernel
theorem dX2_withoutSign_7 : decode cX2_withoutSign 7 = .ok (.imul, 1) := by decide +kernel
theorem dX2_withoutSign_8 : decode cX2_withoutSign 8 = .ok (.iconst 1, 1) := by decide +kernel
theorem dX2_withoutSign_9 : decode cX2_withoutSign 9 = .ok (.isub, 1) := by decide +kernel
theorem dX2_withoutSign_10 : decode cX2_withoutSign 10 = .ok (.goto 6, 3) := by decide +kernel
theorem dX2_withoutSign_13 : decode cX2_withoutSign 13 = .ok (.iconst 2, 1) := by decide +kernel
theorem dX2_withoutSign_14 : decode cX2_withoutSign 14 = .ok (.iload_n 0, 1) := by decide +kernel
theorem dX2_withoutSign_15 : decode cX2_withoutSign 15 = .ok (.imul, 1) := by decide +kernel
theorem dX2_withoutSign_16 : decode cX2_withoutSign 16 = .ok (.ireturn, 1) := by decide +kernel
end
section
theorem dX0_init_0 : decode cX0_init 0 = .ok (.aload_n 0, 1) := by decide +kernel
theorem dX0_init_1 : decode cX0_init 1 = .ok (.invokespecial 3, 3) := by decide +kernel
theorem dX0_init_4 : decode cX0_init 4 = .ok (.aload_n 0, 1) := by decide +kernel
theorem dX0_init_5 : decode cX0_init 5 = .ok (.aload_n 1, 1) := by decide +kernel
theorem dX0_init_6 : decode cX0_init 6 = .ok (.putfield 9, 3) := by decide +kernel
theorem dX0_init_9 : decode cX0_init 9 = .ok (.aload_n 0, 1) := by decide +kernel
theorem dX0_init_10 : decode cX0_init 10 = .ok (.aload_n 2, 1) := by decide +kernel
theorem dX0_init_11 : decode cX0_init 11 = .ok (.putfield 15, 3) := by decide +kernel
theorem dX0_init_14 : decode cX0_init 14 = .ok (.aload_n 0, 1) := by decide +kernel
theorem dX0_init_15 : decode cX0_init 15 = .ok (.aload_n 3, 1) := by decide +kernel
theorem dX0_init_16 : decode cX0_init 16 = .ok (.putfield 18, 3) := by decide +kernel
theorem dX0_init_19 : decode cX0_init 19 = .ok (.aload_n 0, 1) := by decide +kernel
theorem dX0_init_20 : decode cX0_init 20 = .ok (.iconst 0, 1) := by decide +kernel
theorem dX0_init_21 : decode cX0_init 21 = .ok (.putfield 21, 3) := by decide +kernel
theorem dX0_init_24 : decode cX0_init 24 = .ok (.aload_n 0, 1) := by decide +kernel
theorem dX0_init_25 : decode cX0_init 25 = .ok (.iconst 0, 1) := by decide +kernel
theorem dX0_init_26 : decode cX0_init 26 = .ok (.putfield 25, 3) := by decide +kernel
theorem dX0_init_29 : decode cX0_init 29 = .ok (.aload_n 0, 1) := by decide +kernel
theorem dX0_init_30 : decode cX0_init 30 = .ok (.iconst 0, 1) := by decide +kernel
theorem dX0_init_31 : decode cX0_init 31 = .ok (.putfield 28, 3) := by decide +kernel
theorem dX0_init_34 : decode cX0_init 34 = .ok (.aload_n 0, 1) := by decide +kernel
theorem dX0_init_35 : decode cX0_init 35 = .ok (.iconst 0, 1) := by decide +kernel
theorem dX0_init_36 : decode cX0_init 36 = .ok (.putfield 31, 3) := by decide +kernel
theorem dX0_init_39 : decode cX0_init 39 = .ok (.return_, 1) := by decide +kernel
theorem dX0_run_0 : decode cX0_run 0 = .ok (.aload_n 0, 1) := by decide +kernel
theorem dX0_run_1 : decode cX0_run 1 = .ok (.getfield 18, 3) := by decide +kernel
theorem dX0_run_4 : decode cX0_run 4 = .ok (.invokevirtual 34, 3) := by decide +kernel
theorem dX0_run_7 : decode cX0_run 7 = .ok (.aload_n 0, 1) := by decide +kernel
theorem dX0_run_8 : decode cX0_run 8 = .ok (.iconst 0, 1) := by decide +kernel
theorem dX0_run_9 : decode cX0_run 9 = .ok (.putfield 21, 3) := by decide +kernel
theorem dX0_run_12 : decode cX0_run 12 = .ok (.aload_n 0, 1) := by decide +kernel
theorem dX0_run_13 : decode cX0_run 13 = .ok (.iconst 0, 1) := by decide +kernel
theorem dX0_run_14 : decode cX0_run 14 = .ok (.putfield 25, 3) := by decide +kernel
theorem dX0_run_17 : decode cX0_run 17 = .ok (.aload_n 0, 1) := by decide +kernel
theorem dX0_run_18 : decode cX0_run 18 = .ok (.invokevirtual 39, 3) := by decide +kernel
theorem dX0_run_21 : decode cX0_run 21 = .ok (.istore_n 1, 1) := by decide +kernel
theorem dX0_run_22 : decode cX0_run 22 = .ok (.iload_n 1, 1) := by decide +kernel
theorem dX0_run_23 : decode cX0_run 23 = .ok (.ifCond .ne 8, 3) := by decide +kernel
theorem dX0_run_26 : decode cX0_run 26 = .ok (.aload_n 0, 1) := by decide +kernel
theorem dX0_run_27 : decode cX0_run 27 = .ok (.invokevirtual 43, 3) := by decide +kernel
theorem dX0_run_30 : decode cX0_run 30 = .ok (.istore_n 1, 1) := by decide +kernel
theorem dX0_run_31 : decode cX0_run 31 = .ok (.iload_n 1, 1) := by decide +kernel
theorem dX0_run_32 : decode cX0_run 32 = .ok (.ifCond .ne 8, 3) := by decide +kernel
theorem dX0_run_35 : decode cX0_run 35 = .ok (.aload_n 0, 1) := by decide +kernel
theorem dX0_run_36 : decode cX0_run 36 = .ok (.invokevirtual 46, 3) := by decide +kernel
theorem dX0_run_39 : decode cX0_run 39 = .ok (.istore_n 1, 1) := by decide +kernel
theorem dX0_run_40 : decode cX0_run 40 = .ok (.iload_n 1, 1) := by decide +kernel
theorem dX0_run_41 : decode cX0_run 41 = .ok (.ifCond .eq 12, 3) := by decide +kernel
theorem dX0_run_44 : decode cX0_run 44 = .ok (.aload_n 0, 1) := by decide +kernel
theorem dX0_run_45 : decode cX0_run 45 = .ok (.getfield 18, 3) := by decide +kernel
theorem dX0_run_48 : decode cX0_run 48 = .ok (.invokevirtual 34, 3) := by decide +kernel
theorem dX0_run_51 : decode cX0_run 51 = .ok (.iload_n 1, 1) := by decide +kernel
theorem dX0_run_52 : decode cX0_run 52 = .ok (.ireturn, 1) := by decide +kernel
theorem dX0_run_53 : decode cX0_run 53 = .ok (.aload_n 0, 1) := by decide +kernel
theorem dX0_run_54 : decode cX0_run 54 = .ok (.getfield 18, 3) := by decide +kernel
theorem dX0_run_57 : decode cX0_run 57 = .ok (.invokevirtual 49, 3) := by decide +kernel
theorem dX0_run_60 : decode cX0_run 60 = .ok (.ireturn, 1) := by decide +kernel
theorem dX0_readHead_0 : decode cX0_readHead 0 = .ok (.aload_n 0, 1) := by decide +kernel
theorem dX0_readHead_1 : decode cX0_readHead 1 = .ok (.invokevirtual 52, 3) := by decide +kernel
theorem dX0_readHead_4 : decode cX0_readHead 4 = .ok (.istore_n 1, 1) := by decide +kernel
theorem dX0_readHead_5 : decode cX0_readHead 5 = .ok (.iload_n 1, 1) := by decide +kernel
theorem dX0_readHead_6 : decode cX0_readHead 6 = .ok (.iconst (-1), 1) := by decide +kernel
theorem dX0_readHead_7 : decode cX0_readHead 7 = .ok (.if_icmp .ne 5, 3) := by decide +kernel
theorem dX0_readHead_10 : decode cX0_readHead 10 = .ok (.iconst (-1), 1) := by decide +kernel
theorem dX0_readHead_11 : decode cX0_readHead 11 = .ok (.ireturn, 1) := by decide +kernel
theorem dX0_readHead_12 : decode cX0_readHead 12 = .ok (.aload_n 0, 1) := by decide +kernel
theorem dX0_readHead_13 : decode cX0_readHead 13 = .ok (.aload_n 0, 1) := by decide +kernel
theorem dX0_readHead_14 : decode cX0_readHead 14 = .ok (.invokevirtual 52, 3) := by decide +kernel
theorem dX0_readHead_17 : decode cX0_readHead 17 = .ok (.putfield 28, 3) := by decide +kernel
theorem dX0_readHead_20 : decode cX0_readHead 20 = .ok (.aload_n 0, 1) := by decide +kernel
theorem dX0_readHead_21 : decode cX0_readHead 21 = .ok (.getfield 28, 3) := by decide +kernel
theorem dX0_readHead_24 : decode cX0_readHead 24 = .ok (.iconst (-1), 1) := by decide +kernel
theorem dX0_readHead_25 : decode cX0_readHead 25 = .ok (.if_icmp .eq 12, 3) := by decide +kernel
theorem dX0_readHead_28 : decode cX0_readHead 28 = .ok (.aload_n 0, 1) := by decide +kernel
theorem dX0_readHead_29 : decode cX0_readHead 29 = .ok (.invokevirtual 55, 3) := by decide +kernel
theorem dX0_readHead_32 : decode cX0_readHead 32 = .ok (.bipush 8, 2) := by decide +kernel
theorem dX0_readHead_34 : decode cX0_readHead 34 = .ok (.if_icmp .ge 5, 3) := by decide +kernel
theorem dX0_readHead_37 : decode cX0_readHead 37 = .ok (.iconst (-1), 1) := by decide +kernel
theorem dX0_readHead_38 : decode cX0_readHead 38 = .ok (.ireturn, 1) := by decide +kernel
theorem dX0_readHead_39 : decode cX0_readHead 39 = .ok (.aload_n 0, 1) := by decide +kernel
theorem dX0_readHead_40 : decode cX0_readHead 40 = .ok (.invokevirtual 58, 3) := by decide +kernel
theorem dX0_readHead_43 : decode cX0_readHead 43 = .ok (.istore_n 2, 1) := by decide +kernel
theorem dX0_readHead_44 : decode cX0_readHead 44 = .ok (.aload_n 0, 1) := by decide +kernel
theorem dX0_readHead_45 : decode cX0_readHead 45 = .ok (.aload_n 0, 1) := by decide +kernel
theorem dX0_readHead_46 : decode cX0_readHead 46 = .ok (.invokevirtual 58, 3) := by decide +kernel
theorem dX0_readHead_49 : decode cX0_readHead 49 = .ok (.putfield 31, 3) := by decide +kernel
theorem dX0_readHead_52 : decode cX0_readHead 52 = .ok (.iload_n 1, 1) := by decide +kernel
theorem dX0_readHead_53 : decode cX0_readHead 53 = .ok (.aload_n 0, 1) := by decide +kernel
theorem dX0_readHead_54 : decode cX0_readHead 54 = .ok (.getfield 15, 3) := by decide +kernel
theorem dX0_readHead_57 : decode cX0_readHead 57 = .ok (.invokevirtual 49, 3) := by decide +kernel
theorem dX0_readHead_60 : decode cX0_readHead 60 = .ok (.if_icmp .eq 6, 3) := by decide +kernel
theorem dX0_readHead_63 : decode cX0_readHead 63 = .ok (.bipush (-2), 2) := by decide +kernel
theorem dX0_readHead_65 : decode cX0_readHead 65 = .ok (.ireturn, 1) := by decide +kernel
theorem dX0_readHead_66 : decode cX0_readHead 66 = .ok (.iload_n 2, 1) := by decide +kernel
theorem dX0_readHead_67 : decode cX0_readHead 67 = .ok (.aload_n 0, 1) := by decide +kernel
theorem dX0_readHead_68 : decode cX0_readHead 68 = .ok (.getfield 15, 3) := by decide +kernel
theorem dX0_readHead_71 : decode cX0_readHead 71 = .ok (.invokevirtual 61, 3) := by decide +kernel
theorem dX0_readHead_74 : decode cX0_readHead 74 = .ok (.if_icmp .eq 6, 3) := by decide +kernel
theorem dX0_readHead_77 : decode cX0_readHead 77 = .ok (.bipush (-3), 2) := by decide +kernel
theorem dX0_readHead_79 : decode cX0_readHead 79 = .ok (.ireturn, 1) := by decide +kernel
theorem dX0_readHead_80 : decode cX0_readHead 80 = .ok (.aload_n 0, 1) := by decide +kernel
theorem dX0_readHead_81 : decode cX0_readHead 81 = .ok (.getfield 28, 3) := by decide +kernel
theorem dX0_readHead_84 : decode cX0_readHead 84 = .ok (.sipush 300, 3) := by decide +kernel
theorem dX0_readHead_87 : decode cX0_readHead 87 = .ok (.if_icmp .le 8, 3) := by decide +kernel
theorem dX0_readHead_90 : decode cX0_readHead 90 = .ok (.bipush (-4), 2) := by decide +kernel
theorem dX0_readHead_92 : decode cX0_readHead 92 = .ok (.goto 4, 3) := by decide +kernel
theorem dX0_readHead_95 : decode cX0_readHead 95 = .ok (.iconst 0, 1) := by decide +kernel
theorem dX0_readHead_96 : decode cX0_readHead 96 = .ok (.ireturn, 1) := by decide +kernel
theorem dX0_doAll_0 : decode cX0_doAll 0 = .ok (.iconst 0, 1) := by decide +kernel
theorem dX0_doAll_1 : decode cX0_doAll 1 = .ok (.istore_n 1, 1) := by decide +kernel
theorem dX0_doAll_2 : decode cX0_doAll 2 = .ok (.iconst 0, 1) := by decide +kernel
theorem dX0_doAll_3 : decode cX0_doAll 3 = .ok (.istore_n 2, 1) := by decide +kernel
theorem dX0_doAll_4 : decode cX0_doAll 4 = .ok (.iload_n 2, 1) := by decide +kernel
theorem dX0_doAll_5 : decode cX0_doAll 5 = .ok (.sipush 900, 3) := by decide +kernel
theorem dX0_doAll_8 : decode cX0_doAll 8 = .ok (.if_icmp .ge 25, 3) := by decide +kernel
theorem dX0_doAll_11 : decode cX0_doAll 11 = .ok (.iload_n 1, 1) := by decide +kernel
theorem dX0_doAll_12 : decode cX0_doAll 12 = .ok (.ifCond .ne 21, 3) := by decide +kernel
theorem dX0_doAll_15 : decode cX0_doAll 15 = .ok (.aload_n 0, 1) := by decide +kernel
theorem dX0_doAll_16 : decode cX0_doAll 16 = .ok (.invokevirtual 55, 3) := by decide +kernel
theorem dX0_doAll_19 : decode cX0_doAll 19 = .ok (.ifCond .le 14, 3) := by decide +kernel
theorem dX0_doAll_22 : decode cX0_doAll 22 = .ok (.aload_n 0, 1) := by decide +kernel
theorem dX0_doAll_23 : decode cX0_doAll 23 = .ok (.invokevirtual 64, 3) := by decide +kernel
theorem dX0_doAll_26 : decode cX0_doAll 26 = .ok (.istore_n 1, 1) := by decide +kernel
theorem dX0_doAll_27 : decode cX0_doAll 27 = .ok (.iinc 2 1, 3) := by decide +kernel
theorem dX0_doAll_30 : decode cX0_doAll 30 = .ok (.goto (-26), 3) := by decide +kernel
theorem dX0_doAll_33 : decode cX0_doAll 33 = .ok (.iload_n 1, 1) := by decide +kernel
theorem dX0_doAll_34 : decode cX0_doAll 34 = .ok (.ireturn, 1) := by decide +kernel
theorem dX0_doNext_0 : decode cX0_doNext 0 = .ok (.aload_n 0, 1) := by decide +kernel
theorem dX0_doNext_1 : decode cX0_doNext 1 = .ok (.invokevirtual 52, 3) := by decide +kernel
theorem dX0_doNext_4 : decode cX0_doNext 4 = .ok (.istore_n 1, 1) := by decide +kernel
theorem dX0_doNext_5 : decode cX0_doNext 5 = .ok (.iload_n 1, 1) := by decide +kernel
theorem dX0_doNext_6 : decode cX0_doNext 6 = .ok (.iconst (-1), 1) := by decide +kernel
theorem dX0_doNext_7 : decode cX0_doNext 7 = .ok (.if_icmp .ne 5, 3) := by decide +kernel
theorem dX0_doNext_10 : decode cX0_doNext 10 = .ok (.iconst (-1), 1) := by decide +kernel
theorem dX0_doNext_11 : decode cX0_doNext 11 = .ok (.ireturn, 1) := by decide +kernel
theorem dX0_doNext_12 : decode cX0_doNext 12 = .ok (.iload_n 1, 1) := by decide +kernel
theorem dX0_doNext_13 : decode cX0_doNext 13 = .ok (.iconst 1, 1) := by decide +kernel
theorem dX0_doNext_14 : decode cX0_doNext 14 = .ok (.iushr, 1) := by decide +kernel
theorem dX0_doNext_15 : decode cX0_doNext 15 = .ok (.istore_n 2, 1) := by decide +kernel
theorem dX0_doNext_16 : decode cX0_doNext 16 = .ok (.iload_n 2, 1) := by decide +kernel
theorem dX0_doNext_17 : decode cX0_doNext 17 = .ok (.ifCond .ne 5, 3) := by decide +kernel
theorem dX0_doNext_20 : decode cX0_doNext 20 = .ok (.iconst (-1), 1) := by decide +kernel
theorem dX0_doNext_21 : decode cX0_doNext 21 = .ok (.ireturn, 1) := by decide +kernel
theorem dX0_doNext_22 : decode cX0_doNext 22 = .ok (.iload_n 1, 1) := by decide +kernel
theorem dX0_doNext_23 : decode cX0_doNext 23 = .ok (.iconst 1, 1) := by decide +kernel
theorem dX0_doNext_24 : decode cX0_doNext 24 = .ok (.iand, 1) := by decide +kernel
theorem dX0_doNext_25 : decode cX0_doNext 25 = .ok (.ifCond .ne 11, 3) := by decide +kernel
theorem dX0_doNext_28 : decode cX0_doNext 28 = .ok (.aload_n 0, 1) := by decide +kernel
theorem dX0_doNext_29 : decode cX0_doNext 29 = .ok (.iload_n 2, 1) := by decide +kernel
theorem dX0_doNext_30 : decode cX0_doNext 30 = .ok (.invokevirtual 67, 3) := by decide +kernel
theorem dX0_doNext_33 : decode cX0_doNext 33 = .ok (.goto 8, 3) := by decide +kernel
theorem dX0_doNext_36 : decode cX0_doNext 36 = .ok (.aload_n 0, 1) := by decide +kernel
theorem dX0_doNext_37 : decode cX0_doNext 37 = .ok (.iload_n 2, 1) := by decide +kernel
theorem dX0_doNext_38 : decode cX0_doNext 38 = .ok (.invokevirtual 71, 3) := by decide +kernel
theorem dX0_doNext_41 : decode cX0_doNext 41 = .ok (.ireturn, 1) := by decide +kernel
theorem dX0_doAdd_0 : decode cX0_doAdd 0 = .ok (.aload_n 0, 1) := by decide +kernel
theorem dX0_doAdd_1 : decode cX0_doAdd 1 = .ok (.invokevirtual 55, 3) := by decide +kernel
theorem dX0_doAdd_4 : decode cX0_doAdd 4 = .ok (.iload_n 1, 1) := by decide +kernel
theorem dX0_doAdd_5 : decode cX0_doAdd 5 = .ok (.if_icmp .ge 5, 3) := by decide +kernel
theorem dX0_doAdd_8 : decode cX0_doAdd 8 = .ok (.iconst (-1), 1) := by decide +kernel
theorem dX0_doAdd_9 : decode cX0_doAdd 9 = .ok (.ireturn, 1) := by decide +kernel
theorem dX0_doAdd_10 : decode cX0_doAdd 10 = .ok (.iload_n 1, 1) := by decide +kernel
theorem dX0_doAdd_11 : decode cX0_doAdd 11 = .ok (.aload_n 0, 1) := by decide +kernel
theorem dX0_doAdd_12 : decode cX0_doAdd 12 = .ok (.getfield 28, 3) := by decide +kernel
theorem dX0_doAdd_15 : decode cX0_doAdd 15 = .ok (.aload_n 0, 1) := by decide +kernel
theorem dX0_doAdd_16 : decode cX0_doAdd 16 = .ok (.getfield 18, 3) := by decide +kernel
theorem dX0_doAdd_19 : decode cX0_doAdd 19 = .ok (.invokevirtual 49, 3) := by decide +kernel
theorem dX0_doAdd_22 : decode cX0_doAdd 22 = .ok (.isub, 1) := by decide +kernel
theorem dX0_doAdd_23 : decode cX0_doAdd 23 = .ok (.if_icmp .le 6, 3) := by decide +kernel
theorem dX0_doAdd_26 : decode cX0_doAdd 26 = .ok (.bipush (-6), 2) := by decide +kernel
theorem dX0_doAdd_28 : decode cX0_doAdd 28 = .ok (.ireturn, 1) := by decide +kernel
theorem dX0_doAdd_29 : decode cX0_doAdd 29 = .ok (.aload_n 0, 1) := by decide +kernel
theorem dX0_doAdd_30 : decode cX0_doAdd 30 = .ok (.getfield 18, 3) := by decide +kernel
theorem dX0_doAdd_33 : decode cX0_doAdd 33 = .ok (.aload_n 0, 1) := by decide +kernel
theorem dX0_doAdd_34 : decode cX0_doAdd 34 = .ok (.getfield 9, 3) := by decide +kernel
theorem dX0_doAdd_37 : decode cX0_doAdd 37 = .ok (.aload_n 0, 1) := by decide +kernel
theorem dX0_doAdd_38 : decode cX0_doAdd 38 = .ok (.getfield 21, 3) := by decide +kernel
theorem dX0_doAdd_41 : decode cX0_doAdd 41 = .ok (.iload_n 1, 1) := by decide +kernel
theorem dX0_doAdd_42 : decode cX0_doAdd 42 = .ok (.invokevirtual 74, 3) := by decide +kernel
theorem dX0_doAdd_45 : decode cX0_doAdd 45 = .ok (.aload_n 0, 1) := by decide +kernel
theorem dX0_doAdd_46 : decode cX0_doAdd 46 = .ok (.dup, 1) := by decide +kernel
theorem dX0_doAdd_47 : decode cX0_doAdd 47 = .ok (.getfield 21, 3) := by decide +kernel
theorem dX0_doAdd_50 : decode cX0_doAdd 50 = .ok (.iload_n 1, 1) := by decide +kernel
theorem dX0_doAdd_51 : decode cX0_doAdd 51 = .ok (.iadd, 1) := by decide +kernel
theorem dX0_doAdd_52 : decode cX0_doAdd 52 = .ok (.putfield 21, 3) := by decide +kernel
theorem dX0_doAdd_55 : decode cX0_doAdd 55 = .ok (.iconst 0, 1) := by decide +kernel
theorem dX0_doAdd_56 : decode cX0_doAdd 56 = .ok (.ireturn, 1) := by decide +kernel
theorem dX0_doCopy_0 : decode cX0_doCopy 0 = .ok (.aload_n 0, 1) := by decide +kernel
theorem dX0_doCopy_1 : decode cX0_doCopy 1 = .ok (.invokevirtual 52, 3) := by decide +kernel
theorem dX0_doCopy_4 : decode cX0_doCopy 4 = .ok (.istore_n 2, 1) := by decide +kernel
theorem dX0_doCopy_5 : decode cX0_doCopy 5 = .ok (.iload_n 2, 1) := by decide +kernel
theorem dX0_doCopy_6 : decode cX0_doCopy 6 = .ok (.iconst (-1), 1) := by decide +kernel
theorem dX0_doCopy_7 : decode cX0_doCopy 7 = .ok (.if_icmp .ne 5, 3) := by decide +kernel
theorem dX0_doCopy_10 : decode cX0_doCopy 10 = .ok (.iconst (-1), 1) := by decide +kernel
theorem dX0_doCopy_11 : decode cX0_doCopy 11 = .ok (.ireturn, 1) := by decide +kernel
theorem dX0_doCopy_12 : decode cX0_doCopy 12 = .ok (.aload_n 0, 1) := by decide +kernel
theorem dX0_doCopy_13 : decode cX0_doCopy 13 = .ok (.getfield 25, 3) := by decide +kernel
theorem dX0_doCopy_16 : decode cX0_doCopy 16 = .ok (.iload_n 2, 1) := by decide +kernel
theorem dX0_doCopy_17 : decode cX0_doCopy 17 = .ok (.invokestatic 78, 3) := by decide +kernel
theorem dX0_doCopy_20 : decode cX0_doCopy 20 = .ok (.iadd, 1) := by decide +kernel
theorem dX0_doCopy_21 : decode cX0_doCopy 21 = .ok (.istore_n 3, 1) := by decide +kernel
theorem dX0_doCopy_22 : decode cX0_doCopy 22 = .ok (.iload_n 3, 1) := by decide +kernel
theorem dX0_doCopy_23 : decode cX0_doCopy 23 = .ok (.ifCond .lt 16, 3) := by decide +kernel
theorem dX0_doCopy_26 : decode cX0_doCopy 26 = .ok (.iload_n 1, 1) := by decide +kernel
theorem dX0_doCopy_27 : decode cX0_doCopy 27 = .ok (.aload_n 0, 1) := by decide +kernel
theorem dX0_doCopy_28 : decode cX0_doCopy 28 = .ok (.getfield 15, 3) := by decide +kernel
theorem dX0_doCopy_31 : decode cX0_doCopy 31 = .ok (.invokevirtual 49, 3) := by decide +kernel
theorem dX0_doCopy_34 : decode cX0_doCopy 34 = .ok (.iload_n 3, 1) := by decide +kernel
theorem dX0_doCopy_35 : decode cX0_doCopy 35 = .ok (.isub, 1) := by decide +kernel
theorem dX0_doCopy_36 : decode cX0_doCopy 36 = .ok (.if_icmp .le 6, 3) := by decide +kernel
theorem dX0_doCopy_39 : decode cX0_doCopy 39 = .ok (.bipush (-5), 2) := by decide +kernel
theorem dX0_doCopy_41 : decode cX0_doCopy 41 = .ok (.ireturn, 1) := by decide +kernel
theorem dX0_doCopy_42 : decode cX0_doCopy 42 = .ok (.iload_n 1, 1) := by decide +kernel
theorem dX0_doCopy_43 : decode cX0_doCopy 43 = .ok (.aload_n 0, 1) := by decide +kernel
theorem dX0_doCopy_44 : decode cX0_doCopy 44 = .ok (.getfield 28, 3) := by decide +kernel
theorem dX0_doCopy_47 : decode cX0_doCopy 47 = .ok (.aload_n 0, 1) := by decide +kernel
theorem dX0_doCopy_48 : decode cX0_doCopy 48 = .ok (.getfield 18, 3) := by decide +kernel
theorem dX0_doCopy_51 : decode cX0_doCopy 51 = .ok (.invokevirtual 49, 3) := by decide +kernel
theorem dX0_doCopy_54 : decode cX0_doCopy 54 = .ok (.isub, 1) := by decide +kernel
theorem dX0_doCopy_55 : decode cX0_doCopy 55 = .ok (.if_icmp .le 6, 3) := by decide +kernel
theorem dX0_doCopy_58 : decode cX0_doCopy 58 = .ok (.bipush (-6), 2) := by decide +kernel
theorem dX0_doCopy_60 : decode cX0_doCopy 60 = .ok (.ireturn, 1) := by decide +kernel
theorem dX0_doCopy_61 : decode cX0_doCopy 61 = .ok (.aload_n 0, 1) := by decide +kernel
theorem dX0_doCopy_62 : decode cX0_doCopy 62 = .ok (.getfield 18, 3) := by decide +kernel
theorem dX0_doCopy_65 : decode cX0_doCopy 65 = .ok (.aload_n 0, 1) := by decide +kernel
theorem dX0_doCopy_66 : decode cX0_doCopy 66 = .ok (.getfield 15, 3) := by decide +kernel
theorem dX0_doCopy_69 : decode cX0_doCopy 69 = .ok (.iload_n 3, 1) := by decide +kernel
theorem dX0_doCopy_70 : decode cX0_doCopy 70 = .ok (.iload_n 1, 1) := by decide +kernel
theorem dX0_doCopy_71 : decode cX0_doCopy 71 = .ok (.invokevirtual 74, 3) := by decide +kernel
theorem dX0_doCopy_74 : decode cX0_doCopy 74 = .ok (.aload_n 0, 1) := by decide +kernel
theorem dX0_doCopy_75 : decode cX0_doCopy 75 = .ok (.iload_n 3, 1) := by decide +kernel
theorem dX0_doCopy_76 : decode cX0_doCopy 76 = .ok (.iload_n 1, 1) := by decide +kernel
theorem dX0_doCopy_77 : decode cX0_doCopy 77 = .ok (.iadd, 1) := by decide +kernel
theorem dX0_doCopy_78 : decode cX0_doCopy 78 = .ok (.putfield 25, 3) := by decide +kernel
theorem dX0_doCopy_81 : decode cX0_doCopy 81 = .ok (.iconst 0, 1) := by decide +kernel
theorem dX0_doCopy_82 : decode cX0_doCopy 82 = .ok (.ireturn, 1) := by decide +kernel
theorem dX0_judgeResult_0 : decode cX0_judgeResult 0 = .ok (.aload_n 0, 1) := by decide +kernel
theorem dX0_judgeResult_1 : decode cX0_judgeResult 1 = .ok (.getfield 18, 3) := by decide +kernel
theorem dX0_judgeResult_4 : decode cX0_judgeResult 4 = .ok (.invokevirtual 49, 3) := by decide +kernel
theorem dX0_judgeResult_7 : decode cX0_judgeResult 7 = .ok (.aload_n 0, 1) := by decide +kernel
theorem dX0_judgeResult_8 : decode cX0_judgeResult 8 = .ok (.getfield 28, 3) := by decide +kernel
theorem dX0_judgeResult_11 : decode cX0_judgeResult 11 = .ok (.if_icmp .ge 6, 3) := by decide +kernel
theorem dX0_judgeResult_14 : decode cX0_judgeResult 14 = .ok (.bipush (-7), 2) := by decide +kernel
theorem dX0_judgeResult_16 : decode cX0_judgeResult 16 = .ok (.ireturn, 1) := by decide +kernel
theorem dX0_judgeResult_17 : decode cX0_judgeResult 17 = .ok (.aload_n 0, 1) := by decide +kernel
theorem dX0_judgeResult_18 : decode cX0_judgeResult 18 = .ok (.getfield 18, 3) := by decide +kernel
theorem dX0_judgeResult_21 : decode cX0_judgeResult 21 = .ok (.invokevirtual 61, 3) := by decide +kernel
theorem dX0_judgeResult_24 : decode cX0_judgeResult 24 = .ok (.aload_n 0, 1) := by decide +kernel
theorem dX0_judgeResult_25 : decode cX0_judgeResult 25 = .ok (.getfield 31, 3) := by decide +kernel
theorem dX0_judgeResult_28 : decode cX0_judgeResult 28 = .ok (.if_icmp .ne 7, 3) := by decide +kernel
theorem dX0_judgeResult_31 : decode cX0_judgeResult 31 = .ok (.iconst 0, 1) := by decide +kernel
theorem dX0_judgeResult_32 : decode cX0_judgeResult 32 = .ok (.goto 5, 3) := by decide +kernel
theorem dX0_judgeResult_35 : decode cX0_judgeResult 35 = .ok (.bipush (-8), 2) := by decide +kernel
theorem dX0_judgeResult_37 : decode cX0_judgeResult 37 = .ok (.ireturn, 1) := by decide +kernel
theorem dX0_unread_0 : decode cX0_unread 0 = .ok (.aload_n 0, 1) := by decide +kernel
theorem dX0_unread_1 : decode cX0_unread 1 = .ok (.getfield 9, 3) := by decide +kernel
theorem dX0_unread_4 : decode cX0_unread 4 = .ok (.invokevirtual 49, 3) := by decide +kernel
theorem dX0_unread_7 : decode cX0_unread 7 = .ok (.aload_n 0, 1) := by decide +kernel
theorem dX0_unread_8 : decode cX0_unread 8 = .ok (.getfield 21, 3) := by decide +kernel
theorem dX0_unread_11 : decode cX0_unread 11 = .ok (.isub, 1) := by decide +kernel
theorem dX0_unread_12 : decode cX0_unread 12 = .ok (.ireturn, 1) := by decide +kernel
theorem dX0_readVarint_0 : decode cX0_readVarint 0 = .ok (.iconst 0, 1) := by decide +kernel
theorem dX0_readVarint_1 : decode cX0_readVarint 1 = .ok (.istore_n 1, 1) := by decide +kernel
theorem dX0_readVarint_2 : decode cX0_readVarint 2 = .ok (.iconst 0, 1) := by decide +kernel
theorem dX0_readVarint_3 : decode cX0_readVarint 3 = .ok (.istore_n 2, 1) := by decide +kernel
theorem dX0_readVarint_4 : decode cX0_readVarint 4 = .ok (.iload_n 2, 1) := by decide +kernel
theorem dX0_readVarint_5 : decode cX0_readVarint 5 = .ok (.iconst 4, 1) := by decide +kernel
theorem dX0_readVarint_6 : decode cX0_readVarint 6 = .ok (.if_icmp .ge 71, 3) := by decide +kernel
theorem dX0_readVarint_9 : decode cX0_readVarint 9 = .ok (.aload_n 0, 1) := by decide +kernel
theorem dX0_readVarint_10 : decode cX0_readVarint 10 = .ok (.getfield 9, 3) := by decide +kernel
theorem dX0_readVarint_13 : decode cX0_readVarint 13 = .ok (.aload_n 0, 1) := by decide +kernel
theorem dX0_readVarint_14 : decode cX0_readVarint 14 = .ok (.getfield 21, 3) := by decide +kernel
theorem dX0_readVarint_17 : decode cX0_readVarint 17 = .ok (.invokevirtual 81, 3) := by decide +kernel
theorem dX0_readVarint_20 : decode cX0_readVarint 20 = .ok (.istore_n 3, 1) := by decide +kernel
theorem dX0_readVarint_21 : decode cX0_readVarint 21 = .ok (.iload_n 3, 1) := by decide +kernel
theorem dX0_readVarint_22 : decode cX0_readVarint 22 = .ok (.iconst (-1), 1) := by decide +kernel
theorem dX0_readVarint_23 : decode cX0_readVarint 23 = .ok (.if_icmp .ne 5, 3) := by decide +kernel
theorem dX0_readVarint_26 : decode cX0_readVarint 26 = .ok (.iconst (-1), 1) := by decide +kernel
theorem dX0_readVarint_27 : decode cX0_readVarint 27 = .ok (.ireturn, 1) := by decide +kernel
theorem dX0_readVarint_28 : decode cX0_readVarint 28 = .ok (.aload_n 0, 1) := by decide +kernel
theorem dX0_readVarint_29 : decode cX0_readVarint 29 = .ok (.dup, 1) := by decide +kernel
theorem dX0_readVarint_30 : decode cX0_readVarint 30 = .ok (.getfield 21, 3) := by decide +kernel
theorem dX0_readVarint_33 : decode cX0_readVarint 33 = .ok (.iconst 1, 1) := by decide +kernel
theorem dX0_readVarint_34 : decode cX0_readVarint 34 = .ok (.iadd, 1) := by decide +kernel
theorem dX0_readVarint_35 : decode cX0_readVarint 35 = .ok (.putfield 21, 3) := by decide +kernel
theorem dX0_readVarint_38 : decode cX0_readVarint 38 = .ok (.iload_n 1, 1) := by decide +kernel
theorem dX0_readVarint_39 : decode cX0_readVarint 39 = .ok (.iload_n 3, 1) := by decide +kernel
theorem dX0_readVarint_40 : decode cX0_readVarint 40 = .ok (.bipush 127, 2) := by decide +kernel
theorem dX0_readVarint_42 : decode cX0_readVarint 42 = .ok (.iand, 1) := by decide +kernel
theorem dX0_readVarint_43 : decode cX0_readVarint 43 = .ok (.bipush 7, 2) := by decide +kernel
theorem dX0_readVarint_45 : decode cX0_readVarint 45 = .ok (.iload_n 2, 1) := by decide +kernel
theorem dX0_readVarint_46 : decode cX0_readVarint 46 = .ok (.imul, 1) := by decide +kernel
theorem dX0_readVarint_47 : decode cX0_readVarint 47 = .ok (.ishl, 1) := by decide +kernel
theorem dX0_readVarint_48 : decode cX0_readVarint 48 = .ok (.ior, 1) := by decide +kernel
theorem dX0_readVarint_49 : decode cX0_readVarint 49 = .ok (.istore_n 1, 1) := by decide +kernel
theorem dX0_readVarint_50 : decode cX0_readVarint 50 = .ok (.iload_n 3, 1) := by decide +kernel
theorem dX0_readVarint_51 : decode cX0_readVarint 51 = .ok (.sipush 128, 3) := by decide +kernel
theorem dX0_readVarint_54 : decode cX0_readVarint 54 = .ok (.if_icmp .ge 17, 3) := by decide +kernel
theorem dX0_readVarint_57 : decode cX0_readVarint 57 = .ok (.iload_n 3, 1) := by decide +kernel
theorem dX0_readVarint_58 : decode cX0_readVarint 58 = .ok (.ifCond .ne 11, 3) := by decide +kernel
theorem dX0_readVarint_61 : decode cX0_readVarint 61 = .ok (.iload_n 2, 1) := by decide +kernel
theorem dX0_readVarint_62 : decode cX0_readVarint 62 = .ok (.ifCond .le 7, 3) := by decide +kernel
theorem dX0_readVarint_65 : decode cX0_readVarint 65 = .ok (.iconst (-1), 1) := by decide +kernel
theorem dX0_readVarint_66 : decode cX0_readVarint 66 = .ok (.goto 4, 3) := by decide +kernel
theorem dX0_readVarint_69 : decode cX0_readVarint 69 = .ok (.iload_n 1, 1) := by decide +kernel
theorem dX0_readVarint_70 : decode cX0_readVarint 70 = .ok (.ireturn, 1) := by decide +kernel
theorem dX0_readVarint_71 : decode cX0_readVarint 71 = .ok (.iinc 2 1, 3) := by decide +kernel
theorem dX0_readVarint_74 : decode cX0_readVarint 74 = .ok (.goto (-70), 3) := by decide +kernel
theorem dX0_readVarint_77 : decode cX0_readVarint 77 = .ok (.iconst (-1), 1) := by decide +kernel
theorem dX0_readVarint_78 : decode cX0_readVarint 78 = .ok (.ireturn, 1) := by decide +kernel
theorem dX0_readWord_0 : decode cX0_readWord 0 = .ok (.iconst 0, 1) := by decide +kernel
theorem dX0_readWord_1 : decode cX0_readWord 1 = .ok (.istore_n 1, 1) := by decide +kernel
theorem dX0_readWord_2 : decode cX0_readWord 2 = .ok (.iconst 0, 1) := by decide +kernel
theorem dX0_readWord_3 : decode cX0_readWord 3 = .ok (.istore_n 2, 1) := by decide +kernel
theorem dX0_readWord_4 : decode cX0_readWord 4 = .ok (.iload_n 2, 1) := by decide +kernel
theorem dX0_readWord_5 : decode cX0_readWord 5 = .ok (.iconst 4, 1) := by decide +kernel
theorem dX0_readWord_6 : decode cX0_readWord 6 = .ok (.if_icmp .ge 40, 3) := by decide +kernel
theorem dX0_readWord_9 : decode cX0_readWord 9 = .ok (.iload_n 1, 1) := by decide +kernel
theorem dX0_readWord_10 : decode cX0_readWord 10 = .ok (.bipush 8, 2) := by decide +kernel
theorem dX0_readWord_12 : decode cX0_readWord 12 = .ok (.ishl, 1) := by decide +kernel
theorem dX0_readWord_13 : decode cX0_readWord 13 = .ok (.aload_n 0, 1) := by decide +kernel
theorem dX0_readWord_14 : decode cX0_readWord 14 = .ok (.getfield 9, 3) := by decide +kernel
theorem dX0_readWord_17 : decode cX0_readWord 17 = .ok (.aload_n 0, 1) := by decide +kernel
theorem dX0_readWord_18 : decode cX0_readWord 18 = .ok (.getfield 21, 3) := by decide +kernel
theorem dX0_readWord_21 : decode cX0_readWord 21 = .ok (.invokevirtual 81, 3) := by decide +kernel
theorem dX0_readWord_24 : decode cX0_readWord 24 = .ok (.sipush 255, 3) := by decide +kernel
theorem dX0_readWord_27 : decode cX0_readWord 27 = .ok (.iand, 1) := by decide +kernel
theorem dX0_readWord_28 : decode cX0_readWord 28 = .ok (.ior, 1) := by decide +kernel
theorem dX0_readWord_29 : decode cX0_readWord 29 = .ok (.istore_n 1, 1) := by decide +kernel
theorem dX0_readWord_30 : decode cX0_readWord 30 = .ok (.aload_n 0, 1) := by decide +kernel
theorem dX0_readWord_31 : decode cX0_readWord 31 = .ok (.dup, 1) := by decide +kernel
theorem dX0_readWord_32 : decode cX0_readWord 32 = .ok (.getfield 21, 3) := by decide +kernel
theorem dX0_readWord_35 : decode cX0_readWord 35 = .ok (.iconst 1, 1) := by decide +kernel
theorem dX0_readWord_36 : decode cX0_readWord 36 = .ok (.iadd, 1) := by decide +kernel
theorem dX0_readWord_37 : decode cX0_readWord 37 = .ok (.putfield 21, 3) := by decide +kernel
theorem dX0_readWord_40 : decode cX0_readWord 40 = .ok (.iinc 2 1, 3) := by decide +kernel
theorem dX0_readWord_43 : decode cX0_readWord 43 = .ok (.goto (-39), 3) := by decide +kernel
theorem dX0_readWord_46 : decode cX0_readWord 46 = .ok (.iload_n 1, 1) := by decide +kernel
theorem dX0_readWord_47 : decode cX0_readWord 47 = .ok (.ireturn, 1) := by decide +kernel
theorem dX0_withSign_0 : decode cX0_withSign 0 = .ok (.iload_n 0, 1) := by decide +kernel
theorem dX0_withSign_1 : decode cX0_withSign 1 = .ok (.iconst 1, 1) := by decide +kernel
theorem dX0_withSign_2 : decode cX0_withSign 2 = .ok (.iand, 1) := by decide +kernel
theorem dX0_withSign_3 : decode cX0_withSign 3 = .ok (.ifCond .ne 9, 3) := by decide +kernel
theorem dX0_withSign_6 : decode cX0_withSign 6 = .ok (.iload_n 0, 1) := by decide +kernel
theorem dX0_withSign_7 : decode cX0_withSign 7 = .ok (.iconst 1, 1) := by decide +kernel
theorem dX0_withSign_8 : decode cX0_withSign 8 = .ok (.iushr, 1) := by decide +kernel
theorem dX0_withSign_9 : decode cX0_withSign 9 = .ok (.goto 9, 3) := by decide +kernel
theorem dX0_withSign_12 : decode cX0_withSign 12 = .ok (.iload_n 0, 1) := by decide +kernel
theorem dX0_withSign_13 : decode cX0_withSign 13 = .ok (.iconst 1, 1) := by decide +kernel
theorem dX0_withSign_14 : decode cX0_withSign 14 = .ok (.iushr, 1) := by decide +kernel
theorem dX0_withSign_15 : decode cX0_withSign 15 = .ok (.ineg, 1) := by decide +kernel
theorem dX0_withSign_16 : decode cX0_withSign 16 = .ok (.iconst 1, 1) := by decide +kernel
theorem dX0_withSign_17 : decode cX0_withSign 17 = .ok (.isub, 1) := by decide +kernel
theorem dX0_withSign_18 : decode cX0_withSign 18 = .ok (.ireturn, 1) := by decide +kernel
theorem dX1_init_0 : decode cX1_init 0 = .ok (.aload_n 0, 1) := by decide +kernel
theorem dX1_init_1 : decode cX1_init 1 = .ok (.invokespecial 3, 3) := by decide +kernel
theorem dX1_init_4 : decode cX1_init 4 = .ok (.aload_n 0, 1) := by decide +kernel
theorem dX1_init_5 : decode cX1_init 5 = .ok (.aload_n 1, 1) := by decide +kernel
theorem dX1_init_6 : decode cX1_init 6 = .ok (.putfield 9, 3) := by decide +kernel
theorem dX1_init_9 : decode cX1_init 9 = .ok (.aload_n 0, 1) := by decide +kernel
theorem dX1_init_10 : decode cX1_init 10 = .ok (.aload_n 2, 1) := by decide +kernel
theorem dX1_init_11 : decode cX1_init 11 = .ok (.putfield 15, 3) := by decide +kernel
theorem dX1_init_14 : decode cX1_init 14 = .ok (.aload_n 0, 1) := by decide +kernel
theorem dX1_init_15 : decode cX1_init 15 = .ok (.new 19, 3) := by decide +kernel
theorem dX1_init_18 : decode cX1_init 18 = .ok (.dup, 1) := by decide +kernel
theorem dX1_init_19 : decode cX1_init 19 = .ok (.sipush 300, 3) := by decide +kernel
theorem dX1_init_22 : decode cX1_init 22 = .ok (.invokespecial 21, 3) := by decide +kernel
theorem dX1_init_25 : decode cX1_init 25 = .ok (.putfield 24, 3) := by decide +kernel
theorem dX1_init_28 : decode cX1_init 28 = .ok (.aload_n 0, 1) := by decide +kernel
theorem dX1_init_29 : decode cX1_init 29 = .ok (.sipush 300, 3) := by decide +kernel
theorem dX1_init_32 : decode cX1_init 32 = .ok (.newarray .boolean, 2) := by decide +kernel
theorem dX1_init_34 : decode cX1_init 34 = .ok (.putfield 27, 3) := by decide +kernel
theorem dX1_init_37 : decode cX1_init 37 = .ok (.aload_n 0, 1) := by decide +kernel
theorem dX1_init_38 : decode cX1_init 38 = .ok (.sipush 300, 3) := by decide +kernel
theorem dX1_init_41 : decode cX1_init 41 = .ok (.newarray .int, 2) := by decide +kernel
theorem dX1_init_43 : decode cX1_init 43 = .ok (.putfield 31, 3) := by decide +kernel
theorem dX1_init_46 : decode cX1_init 46 = .ok (.aload_n 0, 1) := by decide +kernel
theorem dX1_init_47 : decode cX1_init 47 = .ok (.sipush 300, 3) := by decide +kernel
theorem dX1_init_50 : decode cX1_init 50 = .ok (.newarray .int, 2) := by decide +kernel
theorem dX1_init_52 : decode cX1_init 52 = .ok (.putfield 35, 3) := by decide +kernel
theorem dX1_init_55 : decode cX1_init 55 = .ok (.aload_n 0, 1) := by decide +kernel
theorem dX1_init_56 : decode cX1_init 56 = .ok (.iconst 0, 1) := by decide +kernel
theorem dX1_init_57 : decode cX1_init 57 = .ok (.putfield 38, 3) := by decide +kernel
theorem dX1_init_60 : decode cX1_init 60 = .ok (.return_, 1) := by decide +kernel
theorem dX1_wasPutAside_0 : decode cX1_wasPutAside 0 = .ok (.iload_n 1, 1) := by decide +kernel
theorem dX1_wasPutAside_1 : decode cX1_wasPutAside 1 = .ok (.ifCond .lt 23, 3) := by decide +kernel
theorem dX1_wasPutAside_4 : decode cX1_wasPutAside 4 = .ok (.iload_n 1, 1) := by decide +kernel
theorem dX1_wasPutAside_5 : decode cX1_wasPutAside 5 = .ok (.sipush 300, 3) := by decide +kernel
theorem dX1_wasPutAside_8 : decode cX1_wasPutAside 8 = .ok (.if_icmp .ge 16, 3) := by decide +kernel
theorem dX1_wasPutAside_11 : decode cX1_wasPutAside 11 = .ok (.aload_n 0, 1) := by decide +kernel
theorem dX1_wasPutAside_12 : decode cX1_wasPutAside 12 = .ok (.getfield 27, 3) := by decide +kernel
theorem dX1_wasPutAside_15 : decode cX1_wasPutAside 15 = .ok (.iload_n 1, 1) := by decide +kernel
theorem dX1_wasPutAside_16 : decode cX1_wasPutAside 16 = .ok (.baload, 1) := by decide +kernel
theorem dX1_wasPutAside_17 : decode cX1_wasPutAside 17 = .ok (.ifCond .eq 7, 3) := by decide +kernel
theorem dX1_wasPutAside_20 : decode cX1_wasPutAside 20 = .ok (.iconst 1, 1) := by decide +kernel
theorem dX1_wasPutAside_21 : decode cX1_wasPutAside 21 = .ok (.goto 4, 3) := by decide +kernel
theorem dX1_wasPutAside_24 : decode cX1_wasPutAside 24 = .ok (.iconst 0, 1) := by decide +kernel
theorem dX1_wasPutAside_25 : decode cX1_wasPutAside 25 = .ok (.ireturn, 1) := by decide +kernel
theorem dX1_turnOf_0 : decode cX1_turnOf 0 = .ok (.iload_n 1, 1) := by decide +kernel
theorem dX1_turnOf_1 : decode cX1_turnOf 1 = .ok (.ifCond .lt 19, 3) := by decide +kernel
theorem dX1_turnOf_4 : decode cX1_turnOf 4 = .ok (.iload_n 1, 1) := by decide +kernel
theorem dX1_turnOf_5 : decode cX1_turnOf 5 = .ok (.sipush 300, 3) := by decide +kernel
theorem dX1_turnOf_8 : decode cX1_turnOf 8 = .ok (.if_icmp .ge 12, 3) := by decide +kernel
theorem dX1_turnOf_11 : decode cX1_turnOf 11 = .ok (.aload_n 0, 1) := by decide +kernel
theorem dX1_turnOf_12 : decode cX1_turnOf 12 = .ok (.getfield 31, 3) := by decide +kernel
theorem dX1_turnOf_15 : decode cX1_turnOf 15 = .ok (.iload_n 1, 1) := by decide +kernel
theorem dX1_turnOf_16 : decode cX1_turnOf 16 = .ok (.iaload, 1) := by decide +kernel
theorem dX1_turnOf_17 : decode cX1_turnOf 17 = .ok (.goto 4, 3) := by decide +kernel
theorem dX1_turnOf_20 : decode cX1_turnOf 20 = .ok (.iconst (-1), 1) := by decide +kernel
theorem dX1_turnOf_21 : decode cX1_turnOf 21 = .ok (.ireturn, 1) := by decide +kernel
theorem dX1_forget_0 : decode cX1_forget 0 = .ok (.aload_n 0, 1) := by decide +kernel
theorem dX1_forget_1 : decode cX1_forget 1 = .ok (.iconst 0, 1) := by decide +kernel
theorem dX1_forget_2 : decode cX1_forget 2 = .ok (.putfield 38, 3) := by decide +kernel
theorem dX1_forget_5 : decode cX1_forget 5 = .ok (.iconst 0, 1) := by decide +kernel
theorem dX1_forget_6 : decode cX1_forget 6 = .ok (.istore_n 1, 1) := by decide +kernel
theorem dX1_forget_7 : decode cX1_forget 7 = .ok (.iload_n 1, 1) := by decide +kernel
theorem dX1_forget_8 : decode cX1_forget 8 = .ok (.sipush 300, 3) := by decide +kernel
theorem dX1_forget_11 : decode cX1_forget 11 = .ok (.if_icmp .ge 30, 3) := by decide +kernel
theorem dX1_forget_14 : decode cX1_forget 14 = .ok (.aload_n 0, 1) := by decide +kernel
theorem dX1_forget_15 : decode cX1_forget 15 = .ok (.getfield 27, 3) := by decide +kernel
theorem dX1_forget_18 : decode cX1_forget 18 = .ok (.iload_n 1, 1) := by decide +kernel
theorem dX1_forget_19 : decode cX1_forget 19 = .ok (.iconst 0, 1) := by decide +kernel
theorem dX1_forget_20 : decode cX1_forget 20 = .ok (.bastore, 1) := by decide +kernel
theorem dX1_forget_21 : decode cX1_forget 21 = .ok (.aload_n 0, 1) := by decide +kernel
theorem dX1_forget_22 : decode cX1_forget 22 = .ok (.getfield 31, 3) := by decide +kernel
theorem dX1_forget_25 : decode cX1_forget 25 = .ok (.iload_n 1, 1) := by decide +kernel
theorem dX1_forget_26 : decode cX1_forget 26 = .ok (.iconst (-1), 1) := by decide +kernel
theorem dX1_forget_27 : decode cX1_forget 27 = .ok (.iastore, 1) := by decide +kernel
theorem dX1_forget_28 : decode cX1_forget 28 = .ok (.aload_n 0, 1) := by decide +kernel
theorem dX1_forget_29 : decode cX1_forget 29 = .ok (.getfield 35, 3) := by decide +kernel
theorem dX1_forget_32 : decode cX1_forget 32 = .ok (.iload_n 1, 1) := by decide +kernel
theorem dX1_forget_33 : decode cX1_forget 33 = .ok (.iconst 0, 1) := by decide +kernel
theorem dX1_forget_34 : decode cX1_forget 34 = .ok (.iastore, 1) := by decide +kernel
theorem dX1_forget_35 : decode cX1_forget 35 = .ok (.iinc 1 1, 3) := by decide +kernel
theorem dX1_forget_38 : decode cX1_forget 38 = .ok (.goto (-31), 3) := by decide +kernel
theorem dX1_forget_41 : decode cX1_forget 41 = .ok (.return_, 1) := by decide +kernel
theorem dX1_run_0 : decode cX1_run 0 = .ok (.aload_n 0, 1) := by decide +kernel
theorem dX1_run_1 : decode cX1_run 1 = .ok (.invokevirtual 42, 3) := by decide +kernel
theorem dX1_run_4 : decode cX1_run 4 = .ok (.aload_n 0, 1) := by decide +kernel
theorem dX1_run_5 : decode cX1_run 5 = .ok (.getfield 15, 3) := by decide +kernel
theorem dX1_run_8 : decode cX1_run 8 = .ok (.aload_n 0, 1) := by decide +kernel
theorem dX1_run_9 : decode cX1_run 9 = .ok (.getfield 9, 3) := by decide +kernel
theorem dX1_run_12 : decode cX1_run 12 = .ok (.invokevirtual 45, 3) := by decide +kernel
theorem dX1_run_15 : decode cX1_run 15 = .ok (.invokevirtual 51, 3) := by decide +kernel
theorem dX1_run_18 : decode cX1_run 18 = .ok (.aload_n 0, 1) := by decide +kernel
theorem dX1_run_19 : decode cX1_run 19 = .ok (.getfield 15, 3) := by decide +kernel
theorem dX1_run_22 : decode cX1_run 22 = .ok (.aload_n 0, 1) := by decide +kernel
theorem dX1_run_23 : decode cX1_run 23 = .ok (.getfield 9, 3) := by decide +kernel
theorem dX1_run_26 : decode cX1_run 26 = .ok (.invokevirtual 45, 3) := by decide +kernel
theorem dX1_run_29 : decode cX1_run 29 = .ok (.invokevirtual 55, 3) := by decide +kernel
theorem dX1_run_32 : decode cX1_run 32 = .ok (.aload_n 0, 1) := by decide +kernel
theorem dX1_run_33 : decode cX1_run 33 = .ok (.getfield 9, 3) := by decide +kernel
theorem dX1_run_36 : decode cX1_run 36 = .ok (.invokevirtual 59, 3) := by decide +kernel
theorem dX1_run_39 : decode cX1_run 39 = .ok (.invokevirtual 55, 3) := by decide +kernel
theorem dX1_run_42 : decode cX1_run 42 = .ok (.invokestatic 62, 3) := by decide +kernel
theorem dX1_run_45 : decode cX1_run 45 = .ok (.invokevirtual 68, 3) := by decide +kernel
theorem dX1_run_48 : decode cX1_run 48 = .ok (.aload_n 0, 1) := by decide +kernel
theorem dX1_run_49 : decode cX1_run 49 = .ok (.getfield 24, 3) := by decide +kernel
theorem dX1_run_52 : decode cX1_run 52 = .ok (.aload_n 0, 1) := by decide +kernel
theorem dX1_run_53 : decode cX1_run 53 = .ok (.getfield 9, 3) := by decide +kernel
theorem dX1_run_56 : decode cX1_run 56 = .ok (.invokevirtual 59, 3) := by decide +kernel
theorem dX1_run_59 : decode cX1_run 59 = .ok (.invokevirtual 55, 3) := by decide +kernel
theorem dX1_run_62 : decode cX1_run 62 = .ok (.invokevirtual 68, 3) := by decide +kernel
theorem dX1_run_65 : decode cX1_run 65 = .ok (.aload_n 0, 1) := by decide +kernel
theorem dX1_run_66 : decode cX1_run 66 = .ok (.invokevirtual 71, 3) := by decide +kernel
theorem dX1_run_69 : decode cX1_run 69 = .ok (.iconst 0, 1) := by decide +kernel
theorem dX1_run_70 : decode cX1_run 70 = .ok (.istore_n 1, 1) := by decide +kernel
theorem dX1_run_71 : decode cX1_run 71 = .ok (.iconst 0, 1) := by decide +kernel
theorem dX1_run_72 : decode cX1_run 72 = .ok (.istore_n 2, 1) := by decide +kernel
theorem dX1_run_73 : decode cX1_run 73 = .ok (.iload_n 2, 1) := by decide +kernel
theorem dX1_run_74 : decode cX1_run 74 = .ok (.sipush 600, 3) := by decide +kernel
theorem dX1_run_77 : decode cX1_run 77 = .ok (.if_icmp .ge 52, 3) := by decide +kernel
theorem dX1_run_80 : decode cX1_run 80 = .ok (.aload_n 0, 1) := by decide +kernel
theorem dX1_run_81 : decode cX1_run 81 = .ok (.getfield 38, 3) := by decide +kernel
theorem dX1_run_84 : decode cX1_run 84 = .ok (.aload_n 0, 1) := by decide +kernel
theorem dX1_run_85 : decode cX1_run 85 = .ok (.getfield 9, 3) := by decide +kernel
theorem dX1_run_88 : decode cX1_run 88 = .ok (.invokevirtual 74, 3) := by decide +kernel
theorem dX1_run_91 : decode cX1_run 91 = .ok (.if_icmp .ge 38, 3) := by decide +kernel
theorem dX1_run_94 : decode cX1_run 94 = .ok (.aload_n 0, 1) := by decide +kernel
theorem dX1_run_95 : decode cX1_run 95 = .ok (.invokevirtual 75, 3) := by decide +kernel
theorem dX1_run_98 : decode cX1_run 98 = .ok (.istore_n 3, 1) := by decide +kernel
theorem dX1_run_99 : decode cX1_run 99 = .ok (.iload_n 3, 1) := by decide +kernel
theorem dX1_run_100 : decode cX1_run 100 = .ok (.iconst (-1), 1) := by decide +kernel
theorem dX1_run_101 : decode cX1_run 101 = .ok (.if_icmp .eq 11, 3) := by decide +kernel
theorem dX1_run_104 : decode cX1_run 104 = .ok (.aload_n 0, 1) := by decide +kernel
theorem dX1_run_105 : decode cX1_run 105 = .ok (.iload_n 3, 1) := by decide +kernel
theorem dX1_run_106 : decode cX1_run 106 = .ok (.invokevirtual 78, 3) := by decide +kernel
theorem dX1_run_109 : decode cX1_run 109 = .ok (.goto 14, 3) := by decide +kernel
theorem dX1_run_112 : decode cX1_run 112 = .ok (.iload_n 1, 1) := by decide +kernel
theorem dX1_run_113 : decode cX1_run 113 = .ok (.aload_n 0, 1) := by decide +kernel
theorem dX1_run_114 : decode cX1_run 114 = .ok (.aload_n 0, 1) := by decide +kernel
theorem dX1_run_115 : decode cX1_run 115 = .ok (.invokevirtual 81, 3) := by decide +kernel
theorem dX1_run_118 : decode cX1_run 118 = .ok (.invokevirtual 84, 3) := by decide +kernel
theorem dX1_run_121 : decode cX1_run 121 = .ok (.iadd, 1) := by decide +kernel
theorem dX1_run_122 : decode cX1_run 122 = .ok (.istore_n 1, 1) := by decide +kernel
theorem dX1_run_123 : decode cX1_run 123 = .ok (.iinc 2 1, 3) := by decide +kernel
theorem dX1_run_126 : decode cX1_run 126 = .ok (.goto (-53), 3) := by decide +kernel
theorem dX1_run_129 : decode cX1_run 129 = .ok (.aload_n 0, 1) := by decide +kernel
theorem dX1_run_130 : decode cX1_run 130 = .ok (.getfield 15, 3) := by decide +kernel
theorem dX1_run_133 : decode cX1_run 133 = .ok (.aload_n 0, 1) := by decide +kernel
theorem dX1_run_134 : decode cX1_run 134 = .ok (.getfield 9, 3) := by decide +kernel
theorem dX1_run_137 : decode cX1_run 137 = .ok (.invokevirtual 59, 3) := by decide +kernel
theorem dX1_run_140 : decode cX1_run 140 = .ok (.invokevirtual 55, 3) := by decide +kernel
theorem dX1_run_143 : decode cX1_run 143 = .ok (.invokevirtual 68, 3) := by decide +kernel
theorem dX1_run_146 : decode cX1_run 146 = .ok (.iload_n 1, 1) := by decide +kernel
theorem dX1_run_147 : decode cX1_run 147 = .ok (.ireturn, 1) := by decide +kernel
theorem dX1_countBlockers_0 : decode cX1_countBlockers 0 = .ok (.iconst 0, 1) := by decide +kernel
theorem dX1_countBlockers_1 : decode cX1_countBlockers 1 = .ok (.istore_n 1, 1) := by decide +kernel
theorem dX1_countBlockers_2 : decode cX1_countBlockers 2 = .ok (.iload_n 1, 1) := by decide +kernel
theorem dX1_countBlockers_3 : decode cX1_countBlockers 3 = .ok (.aload_n 0, 1) := by decide +kernel
theorem dX1_countBlockers_4 : decode cX1_countBlockers 4 = .ok (.getfield 9, 3) := by decide +kernel
theorem dX1_countBlockers_7 : decode cX1_countBlockers 7 = .ok (.invokevirtual 74, 3) := by decide +kernel
theorem dX1_countBlockers_10 : decode cX1_countBlockers 10 = .ok (.if_icmp .ge 26, 3) := by decide +kernel
theorem dX1_countBlockers_13 : decode cX1_countBlockers 13 = .ok (.aload_n 0, 1) := by decide +kernel
theorem dX1_countBlockers_14 : decode cX1_countBlockers 14 = .ok (.getfield 9, 3) := by decide +kernel
theorem dX1_countBlockers_17 : decode cX1_countBlockers 17 = .ok (.iload_n 1, 1) := by decide +kernel
theorem dX1_countBlockers_18 : decode cX1_countBlockers 18 = .ok (.invokevirtual 88, 3) := by decide +kernel
theorem dX1_countBlockers_21 : decode cX1_countBlockers 21 = .ok (.ifCond .eq 9, 3) := by decide +kernel
theorem dX1_countBlockers_24 : decode cX1_countBlockers 24 = .ok (.aload_n 0, 1) := by decide +kernel
theorem dX1_countBlockers_25 : decode cX1_countBlockers 25 = .ok (.iload_n 1, 1) := by decide +kernel
theorem dX1_countBlockers_26 : decode cX1_countBlockers 26 = .ok (.iconst 1, 1) := by decide +kernel
theorem dX1_countBlockers_27 : decode cX1_countBlockers 27 = .ok (.invokevirtual 92, 3) := by decide +kernel
theorem dX1_countBlockers_30 : decode cX1_countBlockers 30 = .ok (.iinc 1 1, 3) := by decide +kernel
theorem dX1_countBlockers_33 : decode cX1_countBlockers 33 = .ok (.goto (-31), 3) := by decide +kernel
theorem dX1_countBlockers_36 : decode cX1_countBlockers 36 = .ok (.return_, 1) := by decide +kernel
theorem dX1_changeBlockers_0 : decode cX1_changeBlockers 0 = .ok (.iconst 0, 1) := by decide +kernel
theorem dX1_changeBlockers_1 : decode cX1_changeBlockers 1 = .ok (.istore_n 3, 1) := by decide +kernel
theorem dX1_changeBlockers_2 : decode cX1_changeBlockers 2 = .ok (.iload_n 3, 1) := by decide +kernel
theorem dX1_changeBlockers_3 : decode cX1_changeBlockers 3 = .ok (.aload_n 0, 1) := by decide +kernel
theorem dX1_changeBlockers_4 : decode cX1_changeBlockers 4 = .ok (.getfield 9, 3) := by decide +kernel
theorem dX1_changeBlockers_7 : decode cX1_changeBlockers 7 = .ok (.invokevirtual 74, 3) := by decide +kernel
theorem dX1_changeBlockers_10 : decode cX1_changeBlockers 10 = .ok (.if_icmp .ge 43, 3) := by decide +kernel
theorem dX1_changeBlockers_13 : decode cX1_changeBlockers 13 = .ok (.iload_n 3, 1) := by decide +kernel
theorem dX1_changeBlockers_14 : decode cX1_changeBlockers 14 = .ok (.sipush 300, 3) := by decide +kernel
theorem dX1_changeBlockers_17 : decode cX1_changeBlockers 17 = .ok (.if_icmp .ge 36, 3) := by decide +kernel
theorem dX1_changeBlockers_20 : decode cX1_changeBlockers 20 = .ok (.iload_n 3, 1) := by decide +kernel
theorem dX1_changeBlockers_21 : decode cX1_changeBlockers 21 = .ok (.iload_n 1, 1) := by decide +kernel
theorem dX1_changeBlockers_22 : decode cX1_changeBlockers 22 = .ok (.if_icmp .eq 25, 3) := by decide +kernel
theorem dX1_changeBlockers_25 : decode cX1_changeBlockers 25 = .ok (.aload_n 0, 1) := by decide +kernel
theorem dX1_changeBlockers_26 : decode cX1_changeBlockers 26 = .ok (.getfield 9, 3) := by decide +kernel
theorem dX1_changeBlockers_29 : decode cX1_changeBlockers 29 = .ok (.iload_n 3, 1) := by decide +kernel
theorem dX1_changeBlockers_30 : decode cX1_changeBlockers 30 = .ok (.iload_n 1, 1) := by decide +kernel
theorem dX1_changeBlockers_31 : decode cX1_changeBlockers 31 = .ok (.invokevirtual 96, 3) := by decide +kernel
theorem dX1_changeBlockers_34 : decode cX1_changeBlockers 34 = .ok (.ifCond .eq 13, 3) := by decide +kernel
theorem dX1_changeBlockers_37 : decode cX1_changeBlockers 37 = .ok (.aload_n 0, 1) := by decide +kernel
theorem dX1_changeBlockers_38 : decode cX1_changeBlockers 38 = .ok (.getfield 35, 3) := by decide +kernel
theorem dX1_changeBlockers_41 : decode cX1_changeBlockers 41 = .ok (.iload_n 3, 1) := by decide +kernel
theorem dX1_changeBlockers_42 : decode cX1_changeBlockers 42 = .ok (.dup2, 1) := by decide +kernel
theorem dX1_changeBlockers_43 : decode cX1_changeBlockers 43 = .ok (.iaload, 1) := by decide +kernel
theorem dX1_changeBlockers_44 : decode cX1_changeBlockers 44 = .ok (.iload_n 2, 1) := by decide +kernel
theorem dX1_changeBlockers_45 : decode cX1_changeBlockers 45 = .ok (.iadd, 1) := by decide +kernel
theorem dX1_changeBlockers_46 : decode cX1_changeBlockers 46 = .ok (.iastore, 1) := by decide +kernel
theorem dX1_changeBlockers_47 : decode cX1_changeBlockers 47 = .ok (.iinc 3 1, 3) := by decide +kernel
theorem dX1_changeBlockers_50 : decode cX1_changeBlockers 50 = .ok (.goto (-48), 3) := by decide +kernel
theorem dX1_changeBlockers_53 : decode cX1_changeBlockers 53 = .ok (.return_, 1) := by decide +kernel
theorem dX1_nextFree_0 : decode cX1_nextFree 0 = .ok (.iconst 0, 1) := by decide +kernel
theorem dX1_nextFree_1 : decode cX1_nextFree 1 = .ok (.istore_n 1, 1) := by decide +kernel
theorem dX1_nextFree_2 : decode cX1_nextFree 2 = .ok (.iload_n 1, 1) := by decide +kernel
theorem dX1_nextFree_3 : decode cX1_nextFree 3 = .ok (.aload_n 0, 1) := by decide +kernel
theorem dX1_nextFree_4 : decode cX1_nextFree 4 = .ok (.getfield 9, 3) := by decide +kernel
theorem dX1_nextFree_7 : decode cX1_nextFree 7 = .ok (.invokevirtual 74, 3) := by decide +kernel
theorem dX1_nextFree_10 : decode cX1_nextFree 10 = .ok (.if_icmp .ge 37, 3) := by decide +kernel
theorem dX1_nextFree_13 : decode cX1_nextFree 13 = .ok (.iload_n 1, 1) := by decide +kernel
theorem dX1_nextFree_14 : decode cX1_nextFree 14 = .ok (.sipush 300, 3) := by decide +kernel
theorem dX1_nextFree_17 : decode cX1_nextFree 17 = .ok (.if_icmp .ge 30, 3) := by decide +kernel
theorem dX1_nextFree_20 : decode cX1_nextFree 20 = .ok (.aload_n 0, 1) := by decide +kernel
theorem dX1_nextFree_21 : decode cX1_nextFree 21 = .ok (.getfield 31, 3) := by decide +kernel
theorem dX1_nextFree_24 : decode cX1_nextFree 24 = .ok (.iload_n 1, 1) := by decide +kernel
theorem dX1_nextFree_25 : decode cX1_nextFree 25 = .ok (.iaload, 1) := by decide +kernel
theorem dX1_nextFree_26 : decode cX1_nextFree 26 = .ok (.iconst (-1), 1) := by decide +kernel
theorem dX1_nextFree_27 : decode cX1_nextFree 27 = .ok (.if_icmp .ne 14, 3) := by decide +kernel
theorem dX1_nextFree_30 : decode cX1_nextFree 30 = .ok (.aload_n 0, 1) := by decide +kernel
theorem dX1_nextFree_31 : decode cX1_nextFree 31 = .ok (.getfield 35, 3) := by decide +kernel
theorem dX1_nextFree_34 : decode cX1_nextFree 34 = .ok (.iload_n 1, 1) := by decide +kernel
theorem dX1_nextFree_35 : decode cX1_nextFree 35 = .ok (.iaload, 1) := by decide +kernel
theorem dX1_nextFree_36 : decode cX1_nextFree 36 = .ok (.ifCond .ne 5, 3) := by decide +kernel
theorem dX1_nextFree_39 : decode cX1_nextFree 39 = .ok (.iload_n 1, 1) := by decide +kernel
theorem dX1_nextFree_40 : decode cX1_nextFree 40 = .ok (.ireturn, 1) := by decide +kernel
theorem dX1_nextFree_41 : decode cX1_nextFree 41 = .ok (.iinc 1 1, 3) := by decide +kernel
theorem dX1_nextFree_44 : decode cX1_nextFree 44 = .ok (.goto (-42), 3) := by decide +kernel
theorem dX1_nextFree_47 : decode cX1_nextFree 47 = .ok (.iconst (-1), 1) := by decide +kernel
theorem dX1_nextFree_48 : decode cX1_nextFree 48 = .ok (.ireturn, 1) := by decide +kernel
theorem dX1_wantsMemory_0 : decode cX1_wantsMemory 0 = .ok (.aload_n 0, 1) := by decide +kernel
theorem dX1_wantsMemory_1 : decode cX1_wantsMemory 1 = .ok (.getfield 9, 3) := by decide +kernel
theorem dX1_wantsMemory_4 : decode cX1_wantsMemory 4 = .ok (.iload_n 1, 1) := by decide +kernel
theorem dX1_wantsMemory_5 : decode cX1_wantsMemory 5 = .ok (.invokevirtual 88, 3) := by decide +kernel
theorem dX1_wantsMemory_8 : decode cX1_wantsMemory 8 = .ok (.ifCond .eq 24, 3) := by decide +kernel
theorem dX1_wantsMemory_11 : decode cX1_wantsMemory 11 = .ok (.aload_n 0, 1) := by decide +kernel
theorem dX1_wantsMemory_12 : decode cX1_wantsMemory 12 = .ok (.iload_n 1, 1) := by decide +kernel
theorem dX1_wantsMemory_13 : decode cX1_wantsMemory 13 = .ok (.invokevirtual 100, 3) := by decide +kernel
theorem dX1_wantsMemory_16 : decode cX1_wantsMemory 16 = .ok (.iconst (-1), 1) := by decide +kernel
theorem dX1_wantsMemory_17 : decode cX1_wantsMemory 17 = .ok (.if_icmp .ne 15, 3) := by decide +kernel
theorem dX1_wantsMemory_20 : decode cX1_wantsMemory 20 = .ok (.aload_n 0, 1) := by decide +kernel
theorem dX1_wantsMemory_21 : decode cX1_wantsMemory 21 = .ok (.iload_n 1, 1) := by decide +kernel
theorem dX1_wantsMemory_22 : decode cX1_wantsMemory 22 = .ok (.invokevirtual 103, 3) := by decide +kernel
theorem dX1_wantsMemory_25 : decode cX1_wantsMemory 25 = .ok (.ifCond .ne 7, 3) := by decide +kernel
theorem dX1_wantsMemory_28 : decode cX1_wantsMemory 28 = .ok (.iconst 1, 1) := by decide +kernel
theorem dX1_wantsMemory_29 : decode cX1_wantsMemory 29 = .ok (.goto 4, 3) := by decide +kernel
theorem dX1_wantsMemory_32 : decode cX1_wantsMemory 32 = .ok (.iconst 0, 1) := by decide +kernel
theorem dX1_wantsMemory_33 : decode cX1_wantsMemory 33 = .ok (.ireturn, 1) := by decide +kernel
theorem dX1_fewestBytes_0 : decode cX1_fewestBytes 0 = .ok (.iconst (-1), 1) := by decide +kernel
theorem dX1_fewestBytes_1 : decode cX1_fewestBytes 1 = .ok (.istore_n 1, 1) := by decide +kernel
theorem dX1_fewestBytes_2 : decode cX1_fewestBytes 2 = .ok (.iconst 0, 1) := by decide +kernel
theorem dX1_fewestBytes_3 : decode cX1_fewestBytes 3 = .ok (.istore_n 2, 1) := by decide +kernel
theorem dX1_fewestBytes_4 : decode cX1_fewestBytes 4 = .ok (.iload_n 2, 1) := by decide +kernel
theorem dX1_fewestBytes_5 : decode cX1_fewestBytes 5 = .ok (.aload_n 0, 1) := by decide +kernel
theorem dX1_fewestBytes_6 : decode cX1_fewestBytes 6 = .ok (.getfield 9, 3) := by decide +kernel
theorem dX1_fewestBytes_9 : decode cX1_fewestBytes 9 = .ok (.invokevirtual 74, 3) := by decide +kernel
theorem dX1_fewestBytes_12 : decode cX1_fewestBytes 12 = .ok (.if_icmp .ge 43, 3) := by decide +kernel
theorem dX1_fewestBytes_15 : decode cX1_fewestBytes 15 = .ok (.aload_n 0, 1) := by decide +kernel
theorem dX1_fewestBytes_16 : decode cX1_fewestBytes 16 = .ok (.iload_n 2, 1) := by decide +kernel
theorem dX1_fewestBytes_17 : decode cX1_fewestBytes 17 = .ok (.invokevirtual 106, 3) := by decide +kernel
theorem dX1_fewestBytes_20 : decode cX1_fewestBytes 20 = .ok (.ifCond .eq 29, 3) := by decide +kernel
theorem dX1_fewestBytes_23 : decode cX1_fewestBytes 23 = .ok (.iload_n 1, 1) := by decide +kernel
theorem dX1_fewestBytes_24 : decode cX1_fewestBytes 24 = .ok (.iconst (-1), 1) := by decide +kernel
theorem dX1_fewestBytes_25 : decode cX1_fewestBytes 25 = .ok (.if_icmp .eq 22, 3) := by decide +kernel
theorem dX1_fewestBytes_28 : decode cX1_fewestBytes 28 = .ok (.aload_n 0, 1) := by decide +kernel
theorem dX1_fewestBytes_29 : decode cX1_fewestBytes 29 = .ok (.getfield 9, 3) := by decide +kernel
theorem dX1_fewestBytes_32 : decode cX1_fewestBytes 32 = .ok (.iload_n 2, 1) := by decide +kernel
theorem dX1_fewestBytes_33 : decode cX1_fewestBytes 33 = .ok (.invokevirtual 109, 3) := by decide +kernel
theorem dX1_fewestBytes_36 : decode cX1_fewestBytes 36 = .ok (.aload_n 0, 1) := by decide +kernel
theorem dX1_fewestBytes_37 : decode cX1_fewestBytes 37 = .ok (.getfield 9, 3) := by decide +kernel
theorem dX1_fewestBytes_40 : decode cX1_fewestBytes 40 = .ok (.iload_n 1, 1) := by decide +kernel
theorem dX1_fewestBytes_41 : decode cX1_fewestBytes 41 = .ok (.invokevirtual 109, 3) := by decide +kernel
theorem dX1_fewestBytes_44 : decode cX1_fewestBytes 44 = .ok (.if_icmp .ge 5, 3) := by decide +kernel
theorem dX1_fewestBytes_47 : decode cX1_fewestBytes 47 = .ok (.iload_n 2, 1) := by decide +kernel
theorem dX1_fewestBytes_48 : decode cX1_fewestBytes 48 = .ok (.istore_n 1, 1) := by decide +kernel
theorem dX1_fewestBytes_49 : decode cX1_fewestBytes 49 = .ok (.iinc 2 1, 3) := by decide +kernel
theorem dX1_fewestBytes_52 : decode cX1_fewestBytes 52 = .ok (.goto (-48), 3) := by decide +kernel
theorem dX1_fewestBytes_55 : decode cX1_fewestBytes 55 = .ok (.iload_n 1, 1) := by decide +kernel
theorem dX1_fewestBytes_56 : decode cX1_fewestBytes 56 = .ok (.ireturn, 1) := by decide +kernel
theorem dX1_putAside_0 : decode cX1_putAside 0 = .ok (.iload_n 1, 1) := by decide +kernel
theorem dX1_putAside_1 : decode cX1_putAside 1 = .ok (.ifCond .lt 10, 3) := by decide +kernel
theorem dX1_putAside_4 : decode cX1_putAside 4 = .ok (.iload_n 1, 1) := by decide +kernel
theorem dX1_putAside_5 : decode cX1_putAside 5 = .ok (.sipush 300, 3) := by decide +kernel
theorem dX1_putAside_8 : decode cX1_putAside 8 = .ok (.if_icmp .lt 5, 3) := by decide +kernel
theorem dX1_putAside_11 : decode cX1_putAside 11 = .ok (.iconst 0, 1) := by decide +kernel
theorem dX1_putAside_12 : decode cX1_putAside 12 = .ok (.ireturn, 1) := by decide +kernel
theorem dX1_putAside_13 : decode cX1_putAside 13 = .ok (.aload_n 0, 1) := by decide +kernel
theorem dX1_putAside_14 : decode cX1_putAside 14 = .ok (.iload_n 1, 1) := by decide +kernel
theorem dX1_putAside_15 : decode cX1_putAside 15 = .ok (.invokevirtual 112, 3) := by decide +kernel
theorem dX1_putAside_18 : decode cX1_putAside 18 = .ok (.aload_n 0, 1) := by decide +kernel
theorem dX1_putAside_19 : decode cX1_putAside 19 = .ok (.getfield 27, 3) := by decide +kernel
theorem dX1_putAside_22 : decode cX1_putAside 22 = .ok (.iload_n 1, 1) := by decide +kernel
theorem dX1_putAside_23 : decode cX1_putAside 23 = .ok (.iconst 1, 1) := by decide +kernel
theorem dX1_putAside_24 : decode cX1_putAside 24 = .ok (.bastore, 1) := by decide +kernel
theorem dX1_putAside_25 : decode cX1_putAside 25 = .ok (.aload_n 0, 1) := by decide +kernel
theorem dX1_putAside_26 : decode cX1_putAside 26 = .ok (.getfield 9, 3) := by decide +kernel
theorem dX1_putAside_29 : decode cX1_putAside 29 = .ok (.iload_n 1, 1) := by decide +kernel
theorem dX1_putAside_30 : decode cX1_putAside 30 = .ok (.invokevirtual 109, 3) := by decide +kernel
theorem dX1_putAside_33 : decode cX1_putAside 33 = .ok (.ireturn, 1) := by decide +kernel
theorem dX1_carryOut_0 : decode cX1_carryOut 0 = .ok (.iload_n 1, 1) := by decide +kernel
theorem dX1_carryOut_1 : decode cX1_carryOut 1 = .ok (.ifCond .lt 10, 3) := by decide +kernel
theorem dX1_carryOut_4 : decode cX1_carryOut 4 = .ok (.iload_n 1, 1) := by decide +kernel
theorem dX1_carryOut_5 : decode cX1_carryOut 5 = .ok (.sipush 300, 3) := by decide +kernel
theorem dX1_carryOut_8 : decode cX1_carryOut 8 = .ok (.if_icmp .lt 4, 3) := by decide +kernel
theorem dX1_carryOut_11 : decode cX1_carryOut 11 = .ok (.return_, 1) := by decide +kernel
theorem dX1_carryOut_12 : decode cX1_carryOut 12 = .ok (.aload_n 0, 1) := by decide +kernel
theorem dX1_carryOut_13 : decode cX1_carryOut 13 = .ok (.iload_n 1, 1) := by decide +kernel
theorem dX1_carryOut_14 : decode cX1_carryOut 14 = .ok (.invokevirtual 106, 3) := by decide +kernel
theorem dX1_carryOut_17 : decode cX1_carryOut 17 = .ok (.ifCond .eq 11, 3) := by decide +kernel
theorem dX1_carryOut_20 : decode cX1_carryOut 20 = .ok (.aload_n 0, 1) := by decide +kernel
theorem dX1_carryOut_21 : decode cX1_carryOut 21 = .ok (.iload_n 1, 1) := by decide +kernel
theorem dX1_carryOut_22 : decode cX1_carryOut 22 = .ok (.invokevirtual 112, 3) := by decide +kernel
theorem dX1_carryOut_25 : decode cX1_carryOut 25 = .ok (.goto 38, 3) := by decide +kernel
theorem dX1_carryOut_28 : decode cX1_carryOut 28 = .ok (.aload_n 0, 1) := by decide +kernel
theorem dX1_carryOut_29 : decode cX1_carryOut 29 = .ok (.getfield 9, 3) := by decide +kernel
theorem dX1_carryOut_32 : decode cX1_carryOut 32 = .ok (.iload_n 1, 1) := by decide +kernel
theorem dX1_carryOut_33 : decode cX1_carryOut 33 = .ok (.invokevirtual 88, 3) := by decide +kernel
theorem dX1_carryOut_36 : decode cX1_carryOut 36 = .ok (.ifCond .ne 27, 3) := by decide +kernel
theorem dX1_carryOut_39 : decode cX1_carryOut 39 = .ok (.aload_n 0, 1) := by decide +kernel
theorem dX1_carryOut_40 : decode cX1_carryOut 40 = .ok (.aload_n 0, 1) := by decide +kernel
theorem dX1_carryOut_41 : decode cX1_carryOut 41 = .ok (.getfield 9, 3) := by decide +kernel
theorem dX1_carryOut_44 : decode cX1_carryOut 44 = .ok (.invokevirtual 59, 3) := by decide +kernel
theorem dX1_carryOut_47 : decode cX1_carryOut 47 = .ok (.aload_n 0, 1) := by decide +kernel
theorem dX1_carryOut_48 : decode cX1_carryOut 48 = .ok (.getfield 9, 3) := by decide +kernel
theorem dX1_carryOut_51 : decode cX1_carryOut 51 = .ok (.iload_n 1, 1) := by decide +kernel
theorem dX1_carryOut_52 : decode cX1_carryOut 52 = .ok (.invokevirtual 115, 3) := by decide +kernel
theorem dX1_carryOut_55 : decode cX1_carryOut 55 = .ok (.aload_n 0, 1) := by decide +kernel
theorem dX1_carryOut_56 : decode cX1_carryOut 56 = .ok (.getfield 24, 3) := by decide +kernel
theorem dX1_carryOut_59 : decode cX1_carryOut 59 = .ok (.iload_n 1, 1) := by decide +kernel
theorem dX1_carryOut_60 : decode cX1_carryOut 60 = .ok (.invokevirtual 118, 3) := by decide +kernel
theorem dX1_carryOut_63 : decode cX1_carryOut 63 = .ok (.aload_n 0, 1) := by decide +kernel
theorem dX1_carryOut_64 : decode cX1_carryOut 64 = .ok (.aload_n 0, 1) := by decide +kernel
theorem dX1_carryOut_65 : decode cX1_carryOut 65 = .ok (.getfield 24, 3) := by decide +kernel
theorem dX1_carryOut_68 : decode cX1_carryOut 68 = .ok (.aload_n 0, 1) := by decide +kernel
theorem dX1_carryOut_69 : decode cX1_carryOut 69 = .ok (.getfield 9, 3) := by decide +kernel
theorem dX1_carryOut_72 : decode cX1_carryOut 72 = .ok (.iload_n 1, 1) := by decide +kernel
theorem dX1_carryOut_73 : decode cX1_carryOut 73 = .ok (.invokevirtual 115, 3) := by decide +kernel
theorem dX1_carryOut_76 : decode cX1_carryOut 76 = .ok (.aload_n 0, 1) := by decide +kernel
theorem dX1_carryOut_77 : decode cX1_carryOut 77 = .ok (.getfield 15, 3) := by decide +kernel
theorem dX1_carryOut_80 : decode cX1_carryOut 80 = .ok (.iload_n 1, 1) := by decide +kernel
theorem dX1_carryOut_81 : decode cX1_carryOut 81 = .ok (.invokevirtual 118, 3) := by decide +kernel
theorem dX1_carryOut_84 : decode cX1_carryOut 84 = .ok (.aload_n 0, 1) := by decide +kernel
theorem dX1_carryOut_85 : decode cX1_carryOut 85 = .ok (.getfield 31, 3) := by decide +kernel
theorem dX1_carryOut_88 : decode cX1_carryOut 88 = .ok (.iload_n 1, 1) := by decide +kernel
theorem dX1_carryOut_89 : decode cX1_carryOut 89 = .ok (.aload_n 0, 1) := by decide +kernel
theorem dX1_carryOut_90 : decode cX1_carryOut 90 = .ok (.getfield 38, 3) := by decide +kernel
theorem dX1_carryOut_93 : decode cX1_carryOut 93 = .ok (.iastore, 1) := by decide +kernel
theorem dX1_carryOut_94 : decode cX1_carryOut 94 = .ok (.aload_n 0, 1) := by decide +kernel
theorem dX1_carryOut_95 : decode cX1_carryOut 95 = .ok (.dup, 1) := by decide +kernel
theorem dX1_carryOut_96 : decode cX1_carryOut 96 = .ok (.getfield 38, 3) := by decide +kernel
theorem dX1_carryOut_99 : decode cX1_carryOut 99 = .ok (.iconst 1, 1) := by decide +kernel
theorem dX1_carryOut_100 : decode cX1_carryOut 100 = .ok (.iadd, 1) := by decide +kernel
theorem dX1_carryOut_101 : decode cX1_carryOut 101 = .ok (.putfield 38, 3) := by decide +kernel
theorem dX1_carryOut_104 : decode cX1_carryOut 104 = .ok (.return_, 1) := by decide +kernel
theorem dX1_takeOutOfMemory_0 : decode cX1_takeOutOfMemory 0 = .ok (.aload_n 0, 1) := by decide +kernel
theorem dX1_takeOutOfMemory_1 : decode cX1_takeOutOfMemory 1 = .ok (.aload_n 0, 1) := by decide +kernel
theorem dX1_takeOutOfMemory_2 : decode cX1_takeOutOfMemory 2 = .ok (.getfield 15, 3) := by decide +kernel
theorem dX1_takeOutOfMemory_5 : decode cX1_takeOutOfMemory 5 = .ok (.aload_n 0, 1) := by decide +kernel
theorem dX1_takeOutOfMemory_6 : decode cX1_takeOutOfMemory 6 = .ok (.getfield 9, 3) := by decide +kernel
theorem dX1_takeOutOfMemory_9 : decode cX1_takeOutOfMemory 9 = .ok (.iload_n 1, 1) := by decide +kernel
theorem dX1_takeOutOfMemory_10 : decode cX1_takeOutOfMemory 10 = .ok (.invokevirtual 122, 3) := by decide +kernel
theorem dX1_takeOutOfMemory_13 : decode cX1_takeOutOfMemory 13 = .ok (.aload_n 0, 1) := by decide +kernel
theorem dX1_takeOutOfMemory_14 : decode cX1_takeOutOfMemory 14 = .ok (.getfield 24, 3) := by decide +kernel
theorem dX1_takeOutOfMemory_17 : decode cX1_takeOutOfMemory 17 = .ok (.iload_n 1, 1) := by decide +kernel
theorem dX1_takeOutOfMemory_18 : decode cX1_takeOutOfMemory 18 = .ok (.invokevirtual 118, 3) := by decide +kernel
theorem dX1_takeOutOfMemory_21 : decode cX1_takeOutOfMemory 21 = .ok (.aload_n 0, 1) := by decide +kernel
theorem dX1_takeOutOfMemory_22 : decode cX1_takeOutOfMemory 22 = .ok (.iload_n 1, 1) := by decide +kernel
theorem dX1_takeOutOfMemory_23 : decode cX1_takeOutOfMemory 23 = .ok (.iconst (-1), 1) := by decide +kernel
theorem dX1_takeOutOfMemory_24 : decode cX1_takeOutOfMemory 24 = .ok (.invokevirtual 92, 3) := by decide +kernel
theorem dX1_takeOutOfMemory_27 : decode cX1_takeOutOfMemory 27 = .ok (.return_, 1) := by decide +kernel
theorem dX1_move_0 : decode cX1_move 0 = .ok (.aload_n 0, 1) := by decide +kernel
theorem dX1_move_1 : decode cX1_move 1 = .ok (.getfield 9, 3) := by decide +kernel
theorem dX1_move_4 : decode cX1_move 4 = .ok (.iload 4, 2) := by decide +kernel
theorem dX1_move_6 : decode cX1_move 6 = .ok (.invokevirtual 115, 3) := by decide +kernel
theorem dX1_move_9 : decode cX1_move 9 = .ok (.istore 5, 2) := by decide +kernel
theorem dX1_move_11 : decode cX1_move 11 = .ok (.aload_n 0, 1) := by decide +kernel
theorem dX1_move_12 : decode cX1_move 12 = .ok (.getfield 9, 3) := by decide +kernel
theorem dX1_move_15 : decode cX1_move 15 = .ok (.iload 4, 2) := by decide +kernel
theorem dX1_move_17 : decode cX1_move 17 = .ok (.invokevirtual 109, 3) := by decide +kernel
theorem dX1_move_20 : decode cX1_move 20 = .ok (.istore 6, 2) := by decide +kernel
theorem dX1_move_22 : decode cX1_move 22 = .ok (.iconst 0, 1) := by decide +kernel
theorem dX1_move_23 : decode cX1_move 23 = .ok (.istore 7, 2) := by decide +kernel
theorem dX1_move_25 : decode cX1_move 25 = .ok (.iload 7, 2) := by decide +kernel
theorem dX1_move_27 : decode cX1_move 27 = .ok (.iload 6, 2) := by decide +kernel
theorem dX1_move_29 : decode cX1_move 29 = .ok (.if_icmp .ge 26, 3) := by decide +kernel
theorem dX1_move_32 : decode cX1_move 32 = .ok (.aload_n 3, 1) := by decide +kernel
theorem dX1_move_33 : decode cX1_move 33 = .ok (.iload 5, 2) := by decide +kernel
theorem dX1_move_35 : decode cX1_move 35 = .ok (.iload 7, 2) := by decide +kernel
theorem dX1_move_37 : decode cX1_move 37 = .ok (.iadd, 1) := by decide +kernel
theorem dX1_move_38 : decode cX1_move 38 = .ok (.aload_n 1, 1) := by decide +kernel
theorem dX1_move_39 : decode cX1_move 39 = .ok (.iload_n 2, 1) := by decide +kernel
theorem dX1_move_40 : decode cX1_move 40 = .ok (.iload 7, 2) := by decide +kernel
theorem dX1_move_42 : decode cX1_move 42 = .ok (.iadd, 1) := by decide +kernel
theorem dX1_move_43 : decode cX1_move 43 = .ok (.invokevirtual 125, 3) := by decide +kernel
theorem dX1_move_46 : decode cX1_move 46 = .ok (.invokevirtual 128, 3) := by decide +kernel
theorem dX1_move_49 : decode cX1_move 49 = .ok (.iinc 7 1, 3) := by decide +kernel
theorem dX1_move_52 : decode cX1_move 52 = .ok (.goto (-27), 3) := by decide +kernel
theorem dX1_move_55 : decode cX1_move 55 = .ok (.return_, 1) := by decide +kernel
theorem dX4_init_0 : decode cX4_init 0 = .ok (.aload_n 0, 1) := by decide +kernel
theorem dX4_init_1 : decode cX4_init 1 = .ok (.invokespecial 3, 3) := by decide +kernel
theorem dX4_init_4 : decode cX4_init 4 = .ok (.aload_n 0, 1) := by decide +kernel
theorem dX4_init_5 : decode cX4_init 5 = .ok (.new 9, 3) := by decide +kernel
theorem dX4_init_8 : decode cX4_init 8 = .ok (.dup, 1) := by decide +kernel
theorem dX4_init_9 : decode cX4_init 9 = .ok (.sipush 900, 3) := by decide +kernel
theorem dX4_init_12 : decode cX4_init 12 = .ok (.invokespecial 11, 3) := by decide +kernel
theorem dX4_init_15 : decode cX4_init 15 = .ok (.putfield 14, 3) := by decide +kernel
theorem dX4_init_18 : decode cX4_init 18 = .ok (.aload_n 0, 1) := by decide +kernel
theorem dX4_init_19 : decode cX4_init 19 = .ok (.new 9, 3) := by decide +kernel
theorem dX4_init_22 : decode cX4_init 22 = .ok (.dup, 1) := by decide +kernel
theorem dX4_init_23 : decode cX4_init 23 = .ok (.sipush 300, 3) := by decide +kernel
theorem dX4_init_26 : decode cX4_init 26 = .ok (.invokespecial 11, 3) := by decide +kernel
theorem dX4_init_29 : decode cX4_init 29 = .ok (.putfield 18, 3) := by decide +kernel
theorem dX4_init_32 : decode cX4_init 32 = .ok (.aload_n 0, 1) := by decide +kernel
theorem dX4_init_33 : decode cX4_init 33 = .ok (.new 9, 3) := by decide +kernel
theorem dX4_init_36 : decode cX4_init 36 = .ok (.dup, 1) := by decide +kernel
theorem dX4_init_37 : decode cX4_init 37 = .ok (.sipush 300, 3) := by decide +kernel
theorem dX4_init_40 : decode cX4_init 40 = .ok (.invokespecial 11, 3) := by decide +kernel
theorem dX4_init_43 : decode cX4_init 43 = .ok (.putfield 21, 3) := by decide +kernel
theorem dX4_init_46 : decode cX4_init 46 = .ok (.aload_n 0, 1) := by decide +kernel
theorem dX4_init_47 : decode cX4_init 47 = .ok (.new 9, 3) := by decide +kernel
theorem dX4_init_50 : decode cX4_init 50 = .ok (.dup, 1) := by decide +kernel
theorem dX4_init_51 : decode cX4_init 51 = .ok (.sipush 900, 3) := by decide +kernel
theorem dX4_init_54 : decode cX4_init 54 = .ok (.invokespecial 11, 3) := by decide +kernel
theorem dX4_init_57 : decode cX4_init 57 = .ok (.putfield 24, 3) := by decide +kernel
theorem dX4_init_60 : decode cX4_init 60 = .ok (.aload_n 0, 1) := by decide +kernel
theorem dX4_init_61 : decode cX4_init 61 = .ok (.new 9, 3) := by decide +kernel
theorem dX4_init_64 : decode cX4_init 64 = .ok (.dup, 1) := by decide +kernel
theorem dX4_init_65 : decode cX4_init 65 = .ok (.sipush 300, 3) := by decide +kernel
theorem dX4_init_68 : decode cX4_init 68 = .ok (.invokespecial 11, 3) := by decide +kernel
theorem dX4_init_71 : decode cX4_init 71 = .ok (.putfield 27, 3) := by decide +kernel
theorem dX4_init_74 : decode cX4_init 74 = .ok (.aload_n 0, 1) := by decide +kernel
theorem dX4_init_75 : decode cX4_init 75 = .ok (.new 9, 3) := by decide +kernel
theorem dX4_init_78 : decode cX4_init 78 = .ok (.dup, 1) := by decide +kernel
theorem dX4_init_79 : decode cX4_init 79 = .ok (.sipush 300, 3) := by decide +kernel
theorem dX4_init_82 : decode cX4_init 82 = .ok (.invokespecial 11, 3) := by decide +kernel
theorem dX4_init_85 : decode cX4_init 85 = .ok (.putfield 30, 3) := by decide +kernel
theorem dX4_init_88 : decode cX4_init 88 = .ok (.aload_n 0, 1) := by decide +kernel
theorem dX4_init_89 : decode cX4_init 89 = .ok (.new 33, 3) := by decide +kernel
theorem dX4_init_92 : decode cX4_init 92 = .ok (.dup, 1) := by decide +kernel
theorem dX4_init_93 : decode cX4_init 93 = .ok (.invokespecial 35, 3) := by decide +kernel
theorem dX4_init_96 : decode cX4_init 96 = .ok (.putfield 36, 3) := by decide +kernel
theorem dX4_init_99 : decode cX4_init 99 = .ok (.aload_n 0, 1) := by decide +kernel
theorem dX4_init_100 : decode cX4_init 100 = .ok (.new 40, 3) := by decide +kernel
theorem dX4_init_103 : decode cX4_init 103 = .ok (.dup, 1) := by decide +kernel
theorem dX4_init_104 : decode cX4_init 104 = .ok (.aload_n 0, 1) := by decide +kernel
theorem dX4_init_105 : decode cX4_init 105 = .ok (.getfield 24, 3) := by decide +kernel
theorem dX4_init_108 : decode cX4_init 108 = .ok (.aload_n 0, 1) := by decide +kernel
theorem dX4_init_109 : decode cX4_init 109 = .ok (.getfield 18, 3) := by decide +kernel
theorem dX4_init_112 : decode cX4_init 112 = .ok (.aload_n 0, 1) := by decide +kernel
theorem dX4_init_113 : decode cX4_init 113 = .ok (.getfield 27, 3) := by decide +kernel
theorem dX4_init_116 : decode cX4_init 116 = .ok (.invokespecial 42, 3) := by decide +kernel
theorem dX4_init_119 : decode cX4_init 119 = .ok (.putfield 45, 3) := by decide +kernel
theorem dX4_init_122 : decode cX4_init 122 = .ok (.aload_n 0, 1) := by decide +kernel
theorem dX4_init_123 : decode cX4_init 123 = .ok (.new 49, 3) := by decide +kernel
theorem dX4_init_126 : decode cX4_init 126 = .ok (.dup, 1) := by decide +kernel
theorem dX4_init_127 : decode cX4_init 127 = .ok (.aload_n 0, 1) := by decide +kernel
theorem dX4_init_128 : decode cX4_init 128 = .ok (.getfield 36, 3) := by decide +kernel
theorem dX4_init_131 : decode cX4_init 131 = .ok (.aload_n 0, 1) := by decide +kernel
theorem dX4_init_132 : decode cX4_init 132 = .ok (.getfield 30, 3) := by decide +kernel
theorem dX4_init_135 : decode cX4_init 135 = .ok (.invokespecial 51, 3) := by decide +kernel
theorem dX4_init_138 : decode cX4_init 138 = .ok (.putfield 54, 3) := by decide +kernel
theorem dX4_init_141 : decode cX4_init 141 = .ok (.return_, 1) := by decide +kernel
theorem dX4_feed_0 : decode cX4_feed 0 = .ok (.iload_n 3, 1) := by decide +kernel
theorem dX4_feed_1 : decode cX4_feed 1 = .ok (.iconst 1, 1) := by decide +kernel
theorem dX4_feed_2 : decode cX4_feed 2 = .ok (.if_icmp .lt 28, 3) := by decide +kernel
theorem dX4_feed_5 : decode cX4_feed 5 = .ok (.iload_n 3, 1) := by decide +kernel
theorem dX4_feed_6 : decode cX4_feed 6 = .ok (.bipush 8, 2) := by decide +kernel
theorem dX4_feed_8 : decode cX4_feed 8 = .ok (.if_icmp .gt 22, 3) := by decide +kernel
theorem dX4_feed_11 : decode cX4_feed 11 = .ok (.iload_n 3, 1) := by decide +kernel
theorem dX4_feed_12 : decode cX4_feed 12 = .ok (.aload_n 0, 1) := by decide +kernel
theorem dX4_feed_13 : decode cX4_feed 13 = .ok (.getfield 14, 3) := by decide +kernel
theorem dX4_feed_16 : decode cX4_feed 16 = .ok (.invokevirtual 58, 3) := by decide +kernel
theorem dX4_feed_19 : decode cX4_feed 19 = .ok (.aload_n 0, 1) := by decide +kernel
theorem dX4_feed_20 : decode cX4_feed 20 = .ok (.getfield 14, 3) := by decide +kernel
theorem dX4_feed_23 : decode cX4_feed 23 = .ok (.invokevirtual 62, 3) := by decide +kernel
theorem dX4_feed_26 : decode cX4_feed 26 = .ok (.isub, 1) := by decide +kernel
theorem dX4_feed_27 : decode cX4_feed 27 = .ok (.if_icmp .le 5, 3) := by decide +kernel
theorem dX4_feed_30 : decode cX4_feed 30 = .ok (.iconst 0, 1) := by decide +kernel
theorem dX4_feed_31 : decode cX4_feed 31 = .ok (.ireturn, 1) := by decide +kernel
theorem dX4_feed_32 : decode cX4_feed 32 = .ok (.iload_n 3, 1) := by decide +kernel
theorem dX4_feed_33 : decode cX4_feed 33 = .ok (.iconst 1, 1) := by decide +kernel
theorem dX4_feed_34 : decode cX4_feed 34 = .ok (.isub, 1) := by decide +kernel
theorem dX4_feed_35 : decode cX4_feed 35 = .ok (.istore 4, 2) := by decide +kernel
theorem dX4_feed_37 : decode cX4_feed 37 = .ok (.iload 4, 2) := by decide +kernel
theorem dX4_feed_39 : decode cX4_feed 39 = .ok (.ifCond .lt 28, 3) := by decide +kernel
theorem dX4_feed_42 : decode cX4_feed 42 = .ok (.aload_n 0, 1) := by decide +kernel
theorem dX4_feed_43 : decode cX4_feed 43 = .ok (.getfield 14, 3) := by decide +kernel
theorem dX4_feed_46 : decode cX4_feed 46 = .ok (.lload_n 1, 1) := by decide +kernel
theorem dX4_feed_47 : decode cX4_feed 47 = .ok (.bipush 8, 2) := by decide +kernel
theorem dX4_feed_49 : decode cX4_feed 49 = .ok (.iload 4, 2) := by decide +kernel
theorem dX4_feed_51 : decode cX4_feed 51 = .ok (.imul, 1) := by decide +kernel
theorem dX4_feed_52 : decode cX4_feed 52 = .ok (.lushr, 1) := by decide +kernel
theorem dX4_feed_53 : decode cX4_feed 53 = .ok (.l2i, 1) := by decide +kernel
theorem dX4_feed_54 : decode cX4_feed 54 = .ok (.sipush 255, 3) := by decide +kernel
theorem dX4_feed_57 : decode cX4_feed 57 = .ok (.iand, 1) := by decide +kernel
theorem dX4_feed_58 : decode cX4_feed 58 = .ok (.invokevirtual 65, 3) := by decide +kernel
theorem dX4_feed_61 : decode cX4_feed 61 = .ok (.iinc 4 (-1), 3) := by decide +kernel
theorem dX4_feed_64 : decode cX4_feed 64 = .ok (.goto (-27), 3) := by decide +kernel
theorem dX4_feed_67 : decode cX4_feed 67 = .ok (.iconst 1, 1) := by decide +kernel
theorem dX4_feed_68 : decode cX4_feed 68 = .ok (.ireturn, 1) := by decide +kernel
theorem dX4_take_0 : decode cX4_take 0 = .ok (.iload_n 1, 1) := by decide +kernel
theorem dX4_take_1 : decode cX4_take 1 = .ok (.iconst 2, 1) := by decide +kernel
theorem dX4_take_2 : decode cX4_take 2 = .ok (.if_icmp .gt 11, 3) := by decide +kernel
theorem dX4_take_5 : decode cX4_take 5 = .ok (.aload_n 0, 1) := by decide +kernel
theorem dX4_take_6 : decode cX4_take 6 = .ok (.iload_n 1, 1) := by decide +kernel
theorem dX4_take_7 : decode cX4_take 7 = .ok (.invokevirtual 68, 3) := by decide +kernel
theorem dX4_take_10 : decode cX4_take 10 = .ok (.goto 4, 3) := by decide +kernel
theorem dX4_take_13 : decode cX4_take 13 = .ok (.aconst_null, 1) := by decide +kernel
theorem dX4_take_14 : decode cX4_take 14 = .ok (.astore_n 2, 1) := by decide +kernel
theorem dX4_take_15 : decode cX4_take 15 = .ok (.aload_n 2, 1) := by decide +kernel
theorem dX4_take_16 : decode cX4_take 16 = .ok (.ifnull 17, 3) := by decide +kernel
theorem dX4_take_19 : decode cX4_take 19 = .ok (.aload_n 0, 1) := by decide +kernel
theorem dX4_take_20 : decode cX4_take 20 = .ok (.getfield 14, 3) := by decide +kernel
theorem dX4_take_23 : decode cX4_take 23 = .ok (.invokevirtual 62, 3) := by decide +kernel
theorem dX4_take_26 : decode cX4_take 26 = .ok (.aload_n 2, 1) := by decide +kernel
theorem dX4_take_27 : decode cX4_take 27 = .ok (.invokevirtual 58, 3) := by decide +kernel
theorem dX4_take_30 : decode cX4_take 30 = .ok (.if_icmp .le 5, 3) := by decide +kernel
theorem dX4_take_33 : decode cX4_take 33 = .ok (.iconst 0, 1) := by decide +kernel
theorem dX4_take_34 : decode cX4_take 34 = .ok (.ireturn, 1) := by decide +kernel
theorem dX4_take_35 : decode cX4_take 35 = .ok (.aload_n 2, 1) := by decide +kernel
theorem dX4_take_36 : decode cX4_take 36 = .ok (.aload_n 0, 1) := by decide +kernel
theorem dX4_take_37 : decode cX4_take 37 = .ok (.getfield 14, 3) := by decide +kernel
theorem dX4_take_40 : decode cX4_take 40 = .ok (.invokevirtual 72, 3) := by decide +kernel
theorem dX4_take_43 : decode cX4_take 43 = .ok (.aload_n 0, 1) := by decide +kernel
theorem dX4_take_44 : decode cX4_take 44 = .ok (.getfield 14, 3) := by decide +kernel
theorem dX4_take_47 : decode cX4_take 47 = .ok (.invokevirtual 76, 3) := by decide +kernel
theorem dX4_take_50 : decode cX4_take 50 = .ok (.iconst 1, 1) := by decide +kernel
theorem dX4_take_51 : decode cX4_take 51 = .ok (.ireturn, 1) := by decide +kernel
theorem dX4_make_0 : decode cX4_make 0 = .ok (.aload_n 0, 1) := by decide +kernel
theorem dX4_make_1 : decode cX4_make 1 = .ok (.getfield 36, 3) := by decide +kernel
theorem dX4_make_4 : decode cX4_make 4 = .ok (.aload_n 0, 1) := by decide +kernel
theorem dX4_make_5 : decode cX4_make 5 = .ok (.getfield 18, 3) := by decide +kernel
theorem dX4_make_8 : decode cX4_make 8 = .ok (.aload_n 0, 1) := by decide +kernel
theorem dX4_make_9 : decode cX4_make 9 = .ok (.getfield 21, 3) := by decide +kernel
theorem dX4_make_12 : decode cX4_make 12 = .ok (.invokevirtual 79, 3) := by decide +kernel
theorem dX4_make_15 : decode cX4_make 15 = .ok (.aload_n 0, 1) := by decide +kernel
theorem dX4_make_16 : decode cX4_make 16 = .ok (.getfield 54, 3) := by decide +kernel
theorem dX4_make_19 : decode cX4_make 19 = .ok (.invokevirtual 83, 3) := by decide +kernel
theorem dX4_make_22 : decode cX4_make 22 = .ok (.aload_n 0, 1) := by decide +kernel
theorem dX4_make_23 : decode cX4_make 23 = .ok (.getfield 36, 3) := by decide +kernel
theorem dX4_make_26 : decode cX4_make 26 = .ok (.aload_n 0, 1) := by decide +kernel
theorem dX4_make_27 : decode cX4_make 27 = .ok (.getfield 24, 3) := by decide +kernel
theorem dX4_make_30 : decode cX4_make 30 = .ok (.invokevirtual 86, 3) := by decide +kernel
theorem dX4_make_33 : decode cX4_make 33 = .ok (.aload_n 0, 1) := by decide +kernel
theorem dX4_make_34 : decode cX4_make 34 = .ok (.getfield 24, 3) := by decide +kernel
theorem dX4_make_37 : decode cX4_make 37 = .ok (.invokevirtual 62, 3) := by decide +kernel
theorem dX4_make_40 : decode cX4_make 40 = .ok (.ireturn, 1) := by decide +kernel
theorem dX4_byteAt_0 : decode cX4_byteAt 0 = .ok (.aload_n 0, 1) := by decide +kernel
theorem dX4_byteAt_1 : decode cX4_byteAt 1 = .ok (.iload_n 1, 1) := by decide +kernel
theorem dX4_byteAt_2 : decode cX4_byteAt 2 = .ok (.invokevirtual 68, 3) := by decide +kernel
theorem dX4_byteAt_5 : decode cX4_byteAt 5 = .ok (.astore_n 3, 1) := by decide +kernel
theorem dX4_byteAt_6 : decode cX4_byteAt 6 = .ok (.aload_n 3, 1) := by decide +kernel
theorem dX4_byteAt_7 : decode cX4_byteAt 7 = .ok (.ifnonnull 7, 3) := by decide +kernel
theorem dX4_byteAt_10 : decode cX4_byteAt 10 = .ok (.iconst (-1), 1) := by decide +kernel
theorem dX4_byteAt_11 : decode cX4_byteAt 11 = .ok (.goto 8, 3) := by decide +kernel
theorem dX4_byteAt_14 : decode cX4_byteAt 14 = .ok (.aload_n 3, 1) := by decide +kernel
theorem dX4_byteAt_15 : decode cX4_byteAt 15 = .ok (.iload_n 2, 1) := by decide +kernel
theorem dX4_byteAt_16 : decode cX4_byteAt 16 = .ok (.invokevirtual 89, 3) := by decide +kernel
theorem dX4_byteAt_19 : decode cX4_byteAt 19 = .ok (.ireturn, 1) := by decide +kernel
theorem dX4_size_0 : decode cX4_size 0 = .ok (.aload_n 0, 1) := by decide +kernel
theorem dX4_size_1 : decode cX4_size 1 = .ok (.iload_n 1, 1) := by decide +kernel
theorem dX4_size_2 : decode cX4_size 2 = .ok (.invokevirtual 68, 3) := by decide +kernel
theorem dX4_size_5 : decode cX4_size 5 = .ok (.astore_n 2, 1) := by decide +kernel
theorem dX4_size_6 : decode cX4_size 6 = .ok (.aload_n 2, 1) := by decide +kernel
theorem dX4_size_7 : decode cX4_size 7 = .ok (.ifnonnull 7, 3) := by decide +kernel
theorem dX4_size_10 : decode cX4_size 10 = .ok (.iconst (-1), 1) := by decide +kernel
theorem dX4_size_11 : decode cX4_size 11 = .ok (.goto 7, 3) := by decide +kernel
theorem dX4_size_14 : decode cX4_size 14 = .ok (.aload_n 2, 1) := by decide +kernel
theorem dX4_size_15 : decode cX4_size 15 = .ok (.invokevirtual 62, 3) := by decide +kernel
theorem dX4_size_18 : decode cX4_size 18 = .ok (.ireturn, 1) := by decide +kernel
theorem dX4_steps_0 : decode cX4_steps 0 = .ok (.aload_n 0, 1) := by decide +kernel
theorem dX4_steps_1 : decode cX4_steps 1 = .ok (.getfield 36, 3) := by decide +kernel
theorem dX4_steps_4 : decode cX4_steps 4 = .ok (.invokevirtual 93, 3) := by decide +kernel
theorem dX4_steps_7 : decode cX4_steps 7 = .ok (.ireturn, 1) := by decide +kernel
theorem dX4_step_0 : decode cX4_step 0 = .ok (.aload_n 0, 1) := by decide +kernel
theorem dX4_step_1 : decode cX4_step 1 = .ok (.getfield 36, 3) := by decide +kernel
theorem dX4_step_4 : decode cX4_step 4 = .ok (.iload_n 1, 1) := by decide +kernel
theorem dX4_step_5 : decode cX4_step 5 = .ok (.invokevirtual 94, 3) := by decide +kernel
theorem dX4_step_8 : decode cX4_step 8 = .ok (.ifCond .ne 5, 3) := by decide +kernel
theorem dX4_step_11 : decode cX4_step 11 = .ok (.iconst (-1), 1) := by decide +kernel
theorem dX4_step_12 : decode cX4_step 12 = .ok (.ireturn, 1) := by decide +kernel
theorem dX4_step_13 : decode cX4_step 13 = .ok (.iload_n 2, 1) := by decide +kernel
theorem dX4_step_14 : decode cX4_step 14 = .ok (.tableswitch 108 0 5 #[38, 55, 64, 73, 82, 99], 38) := by decide +kernel
theorem dX4_step_52 : decode cX4_step 52 = .ok (.aload_n 0, 1) := by decide +kernel
theorem dX4_step_53 : decode cX4_step 53 = .ok (.getfield 36, 3) := by decide +kernel
theorem dX4_step_56 : decode cX4_step 56 = .ok (.iload_n 1, 1) := by decide +kernel
theorem dX4_step_57 : decode cX4_step 57 = .ok (.invokevirtual 98, 3) := by decide +kernel
theorem dX4_step_60 : decode cX4_step 60 = .ok (.ifCond .eq 7, 3) := by decide +kernel
theorem dX4_step_63 : decode cX4_step 63 = .ok (.iconst 1, 1) := by decide +kernel
theorem dX4_step_64 : decode cX4_step 64 = .ok (.goto 4, 3) := by decide +kernel
theorem dX4_step_67 : decode cX4_step 67 = .ok (.iconst 0, 1) := by decide +kernel
theorem dX4_step_68 : decode cX4_step 68 = .ok (.ireturn, 1) := by decide +kernel
theorem dX4_step_69 : decode cX4_step 69 = .ok (.aload_n 0, 1) := by decide +kernel
theorem dX4_step_70 : decode cX4_step 70 = .ok (.getfield 36, 3) := by decide +kernel
theorem dX4_step_73 : decode cX4_step 73 = .ok (.iload_n 1, 1) := by decide +kernel
theorem dX4_step_74 : decode cX4_step 74 = .ok (.invokevirtual 101, 3) := by decide +kernel
theorem dX4_step_77 : decode cX4_step 77 = .ok (.ireturn, 1) := by decide +kernel
theorem dX4_step_78 : decode cX4_step 78 = .ok (.aload_n 0, 1) := by decide +kernel
theorem dX4_step_79 : decode cX4_step 79 = .ok (.getfield 36, 3) := by decide +kernel
theorem dX4_step_82 : decode cX4_step 82 = .ok (.iload_n 1, 1) := by decide +kernel
theorem dX4_step_83 : decode cX4_step 83 = .ok (.invokevirtual 104, 3) := by decide +kernel
theorem dX4_step_86 : decode cX4_step 86 = .ok (.ireturn, 1) := by decide +kernel
theorem dX4_step_87 : decode cX4_step 87 = .ok (.aload_n 0, 1) := by decide +kernel
theorem dX4_step_88 : decode cX4_step 88 = .ok (.getfield 36, 3) := by decide +kernel
theorem dX4_step_91 : decode cX4_step 91 = .ok (.iload_n 1, 1) := by decide +kernel
theorem dX4_step_92 : decode cX4_step 92 = .ok (.invokevirtual 107, 3) := by decide +kernel
theorem dX4_step_95 : decode cX4_step 95 = .ok (.ireturn, 1) := by decide +kernel
theorem dX4_step_96 : decode cX4_step 96 = .ok (.aload_n 0, 1) := by decide +kernel
theorem dX4_step_97 : decode cX4_step 97 = .ok (.getfield 54, 3) := by decide +kernel
theorem dX4_step_100 : decode cX4_step 100 = .ok (.iload_n 1, 1) := by decide +kernel
theorem dX4_step_101 : decode cX4_step 101 = .ok (.invokevirtual 110, 3) := by decide +kernel
theorem dX4_step_104 : decode cX4_step 104 = .ok (.ifCond .eq 7, 3) := by decide +kernel
theorem dX4_step_107 : decode cX4_step 107 = .ok (.iconst 1, 1) := by decide +kernel
theorem dX4_step_108 : decode cX4_step 108 = .ok (.goto 4, 3) := by decide +kernel
theorem dX4_step_111 : decode cX4_step 111 = .ok (.iconst 0, 1) := by decide +kernel
theorem dX4_step_112 : decode cX4_step 112 = .ok (.ireturn, 1) := by decide +kernel
theorem dX4_step_113 : decode cX4_step 113 = .ok (.aload_n 0, 1) := by decide +kernel
theorem dX4_step_114 : decode cX4_step 114 = .ok (.getfield 54, 3) := by decide +kernel
theorem dX4_step_117 : decode cX4_step 117 = .ok (.iload_n 1, 1) := by decide +kernel
theorem dX4_step_118 : decode cX4_step 118 = .ok (.invokevirtual 113, 3) := by decide +kernel
theorem dX4_step_121 : decode cX4_step 121 = .ok (.ireturn, 1) := by decide +kernel
theorem dX4_step_122 : decode cX4_step 122 = .ok (.iconst (-1), 1) := by decide +kernel
theorem dX4_step_123 : decode cX4_step 123 = .ok (.ireturn, 1) := by decide +kernel
theorem dX4_apply_0 : decode cX4_apply 0 = .ok (.aload_n 0, 1) := by decide +kernel
theorem dX4_apply_1 : decode cX4_apply 1 = .ok (.getfield 45, 3) := by decide +kernel
theorem dX4_apply_4 : decode cX4_apply 4 = .ok (.invokevirtual 116, 3) := by decide +kernel
theorem dX4_apply_7 : decode cX4_apply 7 = .ok (.ireturn, 1) := by decide +kernel
theorem dX4_inPlace_0 : decode cX4_inPlace 0 = .ok (.aload_n 0, 1) := by decide +kernel
theorem dX4_inPlace_1 : decode cX4_inPlace 1 = .ok (.getfield 54, 3) := by decide +kernel
theorem dX4_inPlace_4 : decode cX4_inPlace 4 = .ok (.invokevirtual 119, 3) := by decide +kernel
theorem dX4_inPlace_7 : decode cX4_inPlace 7 = .ok (.ireturn, 1) := by decide +kernel
theorem dX4_check_0 : decode cX4_check 0 = .ok (.aload_n 0, 1) := by decide +kernel
theorem dX4_check_1 : decode cX4_check 1 = .ok (.iload_n 1, 1) := by decide +kernel
theorem dX4_check_2 : decode cX4_check 2 = .ok (.invokevirtual 68, 3) := by decide +kernel
theorem dX4_check_5 : decode cX4_check 5 = .ok (.astore_n 2, 1) := by decide +kernel
theorem dX4_check_6 : decode cX4_check 6 = .ok (.aload_n 2, 1) := by decide +kernel
theorem dX4_check_7 : decode cX4_check 7 = .ok (.ifnonnull 7, 3) := by decide +kernel
theorem dX4_check_10 : decode cX4_check 10 = .ok (.iconst 0, 1) := by decide +kernel
theorem dX4_check_11 : decode cX4_check 11 = .ok (.goto 7, 3) := by decide +kernel
theorem dX4_check_14 : decode cX4_check 14 = .ok (.aload_n 2, 1) := by decide +kernel
theorem dX4_check_15 : decode cX4_check 15 = .ok (.invokevirtual 120, 3) := by decide +kernel
theorem dX4_check_18 : decode cX4_check 18 = .ok (.ireturn, 1) := by decide +kernel
theorem dX4_rowNamed_0 : decode cX4_rowNamed 0 = .ok (.iload_n 1, 1) := by decide +kernel
theorem dX4_rowNamed_1 : decode cX4_rowNamed 1 = .ok (.tableswitch 60 0 4 #[35, 40, 45, 50, 55], 35) := by decide +kernel
theorem dX4_rowNamed_36 : decode cX4_rowNamed 36 = .ok (.aload_n 0, 1) := by decide +kernel
theorem dX4_rowNamed_37 : decode cX4_rowNamed 37 = .ok (.getfield 18, 3) := by decide +kernel
theorem dX4_rowNamed_40 : decode cX4_rowNamed 40 = .ok (.areturn, 1) := by decide +kernel
theorem dX4_rowNamed_41 : decode cX4_rowNamed 41 = .ok (.aload_n 0, 1) := by decide +kernel
theorem dX4_rowNamed_42 : decode cX4_rowNamed 42 = .ok (.getfield 21, 3) := by decide +kernel
theorem dX4_rowNamed_45 : decode cX4_rowNamed 45 = .ok (.areturn, 1) := by decide +kernel
theorem dX4_rowNamed_46 : decode cX4_rowNamed 46 = .ok (.aload_n 0, 1) := by decide +kernel
theorem dX4_rowNamed_47 : decode cX4_rowNamed 47 = .ok (.getfield 24, 3) := by decide +kernel
theorem dX4_rowNamed_50 : decode cX4_rowNamed 50 = .ok (.areturn, 1) := by decide +kernel
theorem dX4_rowNamed_51 : decode cX4_rowNamed 51 = .ok (.aload_n 0, 1) := by decide +kernel
theorem dX4_rowNamed_52 : decode cX4_rowNamed 52 = .ok (.getfield 27, 3) := by decide +kernel
theorem dX4_rowNamed_55 : decode cX4_rowNamed 55 = .ok (.areturn, 1) := by decide +kernel
theorem dX4_rowNamed_56 : decode cX4_rowNamed 56 = .ok (.aload_n 0, 1) := by decide +kernel
theorem dX4_rowNamed_57 : decode cX4_rowNamed 57 = .ok (.getfield 30, 3) := by decide +kernel
theorem dX4_rowNamed_60 : decode cX4_rowNamed 60 = .ok (.areturn, 1) := by decide +kernel
theorem dX4_rowNamed_61 : decode cX4_rowNamed 61 = .ok (.aconst_null, 1) := by decide +kernel
theorem dX4_rowNamed_62 : decode cX4_rowNamed 62 = .ok (.areturn, 1) := by decide +kernel
end
section
/-! numbers: every int is iI of an integer; sums and differences need no range, comparisons do -/
def iI (z : Int) : Int32 := Int32.ofInt z
theorem iI_T {z : Int} (h : -2147483648 ≤ z ∧ z < 2147483648) : (iI z).toInt = z := Int32.toInt_ofInt_of_le h.1 h.2
theorem iI_add (a b : Int) : iI a + iI b = iI (a + b) := (Int32.ofInt_add a b).symm
theorem iI_sub (a b : Int) : iI a - iI b = iI (a - b) := (Int32.ofInt_sub a b).symm
theorem iI_mul (a b : Int) : iI a * iI b = iI (a * b) := (Int32.ofInt_mul a b).symm
theorem iI_neg (a : Int) : -iI a = iI (-a) := (Int32.ofInt_neg a).symm
theorem iI_ex (x : Int32) : ∃ z : Int, (-2147483648 ≤ z ∧ z < 2147483648) ∧ x = iI z := ⟨x.toInt, ⟨Int32.le_toInt x, Int32.toInt_lt x⟩, (Int32.ofInt_toInt x).symm⟩
abbrev iR (a b : Int) : Prop := (-2147483648 ≤ a ∧ a < 2147483648) ∧ (-2147483648 ≤ b ∧ b < 2147483648)
theorem iI_le {a b : Int} (r : iR a b) : iI a ≤ iI b ↔ a ≤ b := by rw [Int32.le_iff_toInt_le, iI_T r.1, iI_T r.2]
theorem iI_lt {a b : Int} (r : iR a b) : iI a < iI b ↔ a < b := by rw [Int32.lt_iff_toInt_lt, iI_T r.1, iI_T r.2]
theorem iI_eq {a b : Int} (r : iR a b) : iI a = iI b ↔ a = b := by rw [← Int32.toInt_inj, iI_T r.1, iI_T r.2]
theorem iI_leT {a b : Int} (h : iI a ≤ iI b) (r : iR a b) : a ≤ b := (iI_le r).mp h
theorem iI_leF {a b : Int} (h : ¬ iI a ≤ iI b) (r : iR a b) : b < a := Int.not_le.mp (fun q => h ((iI_le r).mpr q))
theorem iI_ltT {a b : Int} (h : iI a < iI b) (r : iR a b) : a < b := (iI_lt r).mp h
theorem iI_ltF {a b : Int} (h : ¬ iI a < iI b) (r : iR a b) : b ≤ a := Int.not_lt.mp (fun q => h ((iI_lt r).mpr q))
theorem iI_eqT {a b : Int} (h : iI a = iI b) (r : iR a b) : a = b := (iI_eq r).mp h
theorem iI_eqF {a b : Int} (h : ¬ iI a = iI b) (r : iR a b) : a ≠ b := fun q => h ((iI_eq r).mpr q)
theorem iI_in {z : Int} {n : Nat} (h : (0 ≤ z ∧ z < n) ∧ n ≤ 2147483647) : vp_in (iI z) n := by
  rw [vp_in_iff, iI_T (by omega)]
  exact h.1
theorem iI_cl {z : Int} {k : Nat} (h : z = k ∧ k < 2147483648) : (iI z).toNatClampNeg = k := by
  rw [← Int32.toNat_toInt, iI_T (by omega)]
  omega
theorem iI_nI (n : Nat) : nI n = iI n := (Int32.ofInt_eq_ofNat).symm
theorem iA {a b c : Int} (h : a + b = c) : iI a + iI b = iI c := by rw [iI_add, h]
theorem iB {a b c : Int} (h : a - b = c) : iI a - iI b = iI c := by rw [iI_sub, h]
theorem iM {a b c : Int} (h : a * b = c) : iI a * iI b = iI c := by rw [iI_mul, h]
theorem iNeg {a c : Int} (h : -a = c) : -iI a = iI c := by rw [iI_neg, h]
theorem imax {a b c : Int} (r : iR a b) (h : (a < b ∧ c = b) ∨ (b ≤ a ∧ c = a)) : (if iI a < iI b then iI b else iI a) = iI c := by
  rcases h with ⟨h, rfl⟩ | ⟨h, rfl⟩
  · rw [if_pos ((iI_lt r).mpr h)]
  · rw [if_neg (fun q => absurd ((iI_lt r).mp q) (by omega))]
theorem imin {a b c : Int} (r : iR b a) (h : (b < a ∧ c = b) ∨ (a ≤ b ∧ c = a)) : (if iI b < iI a then iI b else iI a) = iI c := by
  rcases h with ⟨h, rfl⟩ | ⟨h, rfl⟩
  · rw [if_pos ((iI_lt r).mpr h)]
  · rw [if_neg (fun q => absurd ((iI_lt r).mp q) (by omega))]
/-- a truth as an int -/
def kb (b : Bool) : Int32 := if b = true then iI 1 else iI 0
theorem kb_T {b : Bool} (h : kb b = 0) : b = false := by
  cases b
  · rfl
  · exact absurd h (by decide)
theorem kb_F {b : Bool} (h : ¬ kb b = 0) : b = true := by
  cases b
  · exact absurd rfl h
  · rfl
theorem kb_nar (b : Bool) : narrow .boolean (.int (kb b)) = .int (kb b) := by cases b <;> decide
section KK
variable {p : Program} {l : Launch} {e : Env} {R : Room} {s : State} {m : MethodId} {args : Array Value} {below : List Frame} {meth : Method} {c : Code} {H : Heap} {locs : List Loc} {cells slots : Nat} {Q : State → Prop}
variable {cc : ByteArray} {pc : Nat} {ls : Array Slot} {rest : List Value} {D : va_G} {A : Nat → Prop} {a : Nat} {tys : List (ClassId × FieldType)} {ws : va_W} {H0 : Heap}
theorem kn_i {x y : Int32} (h : x = y) (k : W p l e R s m args below meth c H locs cells slots Q (F0 m pc ls (.int y :: rest))) : W p l e R s m args below meth c H locs cells slots Q (F0 m pc ls (.int x :: rest)) := h ▸ k
theorem kn_l {x y : Int64} (h : x = y) (k : W p l e R s m args below meth c H locs cells slots Q (F0 m pc ls (.long y :: rest))) : W p l e R s m args below meth c H locs cells slots Q (F0 m pc ls (.long x :: rest)) := h ▸ k
/-- what is asked of a world at a method's start -/
abbrev kP (D : va_G) (tys : List (ClassId × FieldType)) (wc : va_W) (sz : Nat) (U : State) : Prop := U.heap.size = sz ∧ va_P D vwCl wc U.heap ∧ va_K D vwCl tys U ∧ va_D (fun _ => True) wc
/-- and what holds behind it -/
abbrev kB {S : Type} (D : va_G) (tys : List (ClassId × FieldType)) (A : Nat → Prop) (W1 : S → va_W) (u : S) (t : State) : Prop := va_P D vwCl (W1 u) t.heap ∧ va_K D vwCl tys t ∧ va_D A (W1 u)
abbrev MI {S : Type} (l : Launch) (y : MethodName) (wds : List Cond) (rm : Room) (D : va_G) (tys : List (ClassId × FieldType)) (As : List Value) (wc : va_W) (post : Int32 → S → Prop) (W1 : S → va_W) (mc ms : Nat) : Prop :=
  ∀ sz : Nat, Met l y wds rm (va_Pc As (kP D tys wc sz)) (va_Qi post (kB D tys (va_A wc sz) W1) (va_A wc sz)) mc ms (va_A wc sz)
abbrev MV {S : Type} (l : Launch) (y : MethodName) (wds : List Cond) (rm : Room) (D : va_G) (tys : List (ClassId × FieldType)) (As : List Value) (wc : va_W) (post : S → Prop) (W1 : S → va_W) (mc ms : Nat) : Prop :=
  ∀ sz : Nat, Met l y wds rm (va_Pc As (kP D tys wc sz)) (va_Qv post (kB D tys (va_A wc sz) W1) (va_A wc sz)) mc ms (va_A wc sz)
abbrev MQq {S : Type} (l : Launch) (y : MethodName) (wds : List Cond) (rm : Room) (D : va_G) (tys : List (ClassId × FieldType)) (As : List Value) (wc : va_W) (post : Option Nat → S → Prop) (W1 : S → va_W) (mc ms : Nat) : Prop :=
  ∀ sz : Nat, Met l y wds rm (va_Pc As (kP D tys wc sz)) (va_Qq post (kB D tys (va_A wc sz) W1) (va_A wc sz)) mc ms (va_A wc sz)
/-- a method's beginning -/
theorem k_of {y : MethodName} {wds wds' : List Cond} {rm : Room} {As : List Value} {wc : va_W} {Qc : Array Value → State → Outcome → State → Prop} {mc ms maxL : Nat} {ret : Option FieldType} {sz : Nat}
    (hy : plainName y.cls = true) (hw : wds = Cond.code y cc maxL ret :: wds') (hlen : (lg_sl As).length ≤ maxL)
    (body : ∀ (p : Program) (e : Env) (s : State) (m : MethodId) (args : Array Value) (below : List Frame) (meth : Method) (c : Code) (A : Nat → Prop) (Q : State → Prop), va_A wc sz = A → MQ below Qc args s mc ms (va_A wc sz) = Q → p.tables.exec = Jvm.exec → c.code = cc → meth.sig.returnType = ret → c.maxLocals = maxL → (∀ w ∈ wds, w.before args s = true) → s.vm.findClass y.cls = some m.cls → meth.locks = false → meth.name = y.name →
      va_P D vwCl wc s.heap → va_K D vwCl tys s → va_D A wc → va_S A s.heap s.heap [] → (∀ q, s.heap.size ≤ q → A q) → ∀ ls : Array Slot, lv_has ls maxL (lv_args 0 As) →
      W p l e rm s m args below meth c s.heap [] 0 0 Q (F0 m 0 ls [])) :
    Met l y wds rm (va_Pc As (kP D tys wc sz)) Qc mc ms (va_A wc sz) := by
  refine Met.ofW (cc := cc) (maxL := maxL) (ret := ret) hy hw ?_
  intro p e s m args below meth c s₁ B hml hv
  obtain ⟨rfl, hsz, hP, hK, hD0⟩ := hv
  have hl := lv_entry As (n := maxL) hlen
  rw [lg_entry_eq]
  refine body p e s m _ below meth c _ _ rfl rfl B.exec B.bytes B.returns hml (atoms_spec (ws := wds) B.pre) (findClass_of_methodNamed B.named) B.notSynchronized (name_of_methodNamed B.named B.method).1 hP hK hD0.self va_S.rf ?_ _ hl
  intro q h
  exact Or.inr (hsz ▸ h)
theorem k_iret {S : Type} {post : Int32 → S → Prop} {W1 : S → va_W} {v : Int32} (u : S) (hexec : p.tables.exec = Jvm.exec) (hb : c.code = cc) (hr : meth.sig.returnType = some .int) (hlocks : meth.locks = false) (hK : va_K D vwCl tys s) (hP : va_P D vwCl ws H) (hD : va_D A ws) (hS : va_S A s.heap H locs)
    (isF : List Nat) (hn : va_nd isF = true) (hF : isF.map (fun i => ws[i]?) = (W1 u).map some) (hF2 : isF.filterMap (fun i => ws[i]?) = W1 u) (hq : post v u) {A' : Nat → Prop} (hA : A' = A) (hQ : MQ below (va_Qi post (kB D tys A' W1) A') args s cells slots A' = Q) (hdg : decode cc pc = .ok (.ireturn, 1)) :
    W p l e R s m args below meth c H locs cells slots Q (F0 m pc ls [.int v]) := by
  subst hA
  subst hQ
  exact W.iret hexec hb hr (fun t ht hW => ⟨⟨v, u, rfl, hq, by rw [ht]; exact hP.sub isF hF2, va_K.moved hW.alike hK, hD.sub isF hn hF⟩, hS.F ht⟩) hS.2.2 hdg hlocks
theorem k_zret {S : Type} {post : Int32 → S → Prop} {W1 : S → va_W} {v : Int32} (u : S) (hexec : p.tables.exec = Jvm.exec) (hb : c.code = cc) (hr : meth.sig.returnType = some .boolean) (hnar : narrow .boolean (.int v) = .int v) (hlocks : meth.locks = false) (hK : va_K D vwCl tys s) (hP : va_P D vwCl ws H) (hD : va_D A ws) (hS : va_S A s.heap H locs)
    (isF : List Nat) (hn : va_nd isF = true) (hF : isF.map (fun i => ws[i]?) = (W1 u).map some) (hF2 : isF.filterMap (fun i => ws[i]?) = W1 u) (hq : post v u) {A' : Nat → Prop} (hA : A' = A) (hQ : MQ below (va_Qi post (kB D tys A' W1) A') args s cells slots A' = Q) (hdg : decode cc pc = .ok (.ireturn, 1)) :
    W p l e R s m args below meth c H locs cells slots Q (F0 m pc ls [.int v]) := by
  subst hA
  subst hQ
  exact W.zret hexec hb hr hnar (fun t ht hW => ⟨⟨v, u, rfl, hq, by rw [ht]; exact hP.sub isF hF2, va_K.moved hW.alike hK, hD.sub isF hn hF⟩, hS.F ht⟩) hS.2.2 hdg hlocks
theorem k_vret {S : Type} {post : S → Prop} {W1 : S → va_W} (u : S) (hexec : p.tables.exec = Jvm.exec) (hb : c.code = cc) (hr : meth.sig.returnType = none) (hlocks : meth.locks = false) (hK : va_K D vwCl tys s) (hP : va_P D vwCl ws H) (hD : va_D A ws) (hS : va_S A s.heap H locs)
    (isF : List Nat) (hn : va_nd isF = true) (hF : isF.map (fun i => ws[i]?) = (W1 u).map some) (hF2 : isF.filterMap (fun i => ws[i]?) = W1 u) (hq : post u) {A' : Nat → Prop} (hA : A' = A) (hQ : MQ below (va_Qv post (kB D tys A' W1) A') args s cells slots A' = Q) (hdg : decode cc pc = .ok (.return_, 1)) :
    W p l e R s m args below meth c H locs cells slots Q (F0 m pc ls []) := by
  subst hA
  subst hQ
  exact W.vret hexec hb hr (fun t ht hW => ⟨⟨u, rfl, hq, by rw [ht]; exact hP.sub isF hF2, va_K.moved hW.alike hK, hD.sub isF hn hF⟩, hS.F ht⟩) hS.2.2 hdg hlocks
theorem k_aret {S : Type} {post : Option Nat → S → Prop} {W1 : S → va_W} {C : String} {r : Option Nat} (u : S) (hexec : p.tables.exec = Jvm.exec) (hb : c.code = cc) (hr : meth.sig.returnType = some (.object C)) (hlocks : meth.locks = false) (hK : va_K D vwCl tys s) (hP : va_P D vwCl ws H) (hD : va_D A ws) (hS : va_S A s.heap H locs)
    (isF : List Nat) (hn : va_nd isF = true) (hF : isF.map (fun i => ws[i]?) = (W1 u).map some) (hF2 : isF.filterMap (fun i => ws[i]?) = W1 u) (hq : post r u) {A' : Nat → Prop} (hA : A' = A) (hQ : MQ below (va_Qq post (kB D tys A' W1) A') args s cells slots A' = Q) {v : Value} (hv : va_rf r = v) (hdg : decode cc pc = .ok (.areturn, 1)) :
    W p l e R s m args below meth c H locs cells slots Q (F0 m pc ls [v]) := by
  subst hA
  subst hQ
  subst hv
  refine W.aret hexec hb hr (Or.inl ⟨C, rfl⟩) ?_ (fun t ht hW => ⟨⟨r, u, rfl, hq, by rw [ht]; exact hP.sub isF hF2, va_K.moved hW.alike hK, hD.sub isF hn hF⟩, hS.F ht⟩) hS.2.2 hdg hlocks
  cases r
  · exact Or.inl rfl
  · exact Or.inr ⟨_, rfl⟩
/-- what a call asks: the callee's world -/
theorem k_bl {As : List Value} {wc : va_W} {sz : Nat} : FrameBlind (va_Pc As (kP D tys wc sz)) := fun a U g mk q => by
  obtain ⟨q0, q1, qP, qK, qD⟩ := q
  exact ⟨q0, q1, qP, va_K.moved (u := U) (U := U.calling g mk a) (Vm.Alike.refl U.vm) qK, qD⟩
theorem k_preS {As : List Value} {wc : va_W} (hK : va_K D vwCl tys s) (hP : va_P D vwCl wc H) (hD : va_D A wc) : PreS s H (va_Pc As (kP D tys wc H.size)) As :=
  ⟨k_bl, fun U hU hW => ⟨rfl, by rw [hU], by rw [hU]; exact hP, va_K.moved hW.alike hK, hD.weaken (fun _ _ _ _ => trivial)⟩⟩
theorem k_preV {As : List Value} {wc : va_W} {b q0 ci : Nat} {q : vw_C} {fs : List Value} (hK : va_K D vwCl tys s) (hP : va_P D vwCl wc H) (hD : va_D A wc) (hc : vwCl[ci]? = some q) (he : wc[q0]? = some (b, .inr (ci, fs))) : PreV s H q.1 b (va_Pc (.ref b :: As) (kP D tys wc H.size)) As :=
  ⟨k_bl, va_recv hK hP hc he, fun U hU hW => ⟨rfl, by rw [hU], by rw [hU]; exact hP, va_K.moved hW.alike hK, hD.weaken (fun _ _ _ _ => trivial)⟩⟩
/-- the worlds round a call -/
abbrev kX (ws wc wr : va_W) (isC isR : List Nat) : Prop := (isC.map (fun i => ws[i]?) = wc.map some ∧ isC.filterMap (fun i => ws[i]?) = wc ∧ va_nd isC = true) ∧ isR.map (fun i => ws[i]?) = wr.map some ∧ va_nd isR = true ∧ ∀ i ∈ isR, i ∉ isC
theorem k_calli {S : Type} {post : Int32 → S → Prop} {W1 wf : S → va_W} {wc wr : va_W} {st0 : List Value} {av : Array Value} {mc ms : Nat} (hK : va_K D vwCl tys s) (hP : va_P D vwCl ws H) (hD : va_D A ws) (hS : va_S A H0 H locs) (hA : ∀ q, H0.size ≤ q → A q)
    (isC isR isF : List Nat) (hX : kX ws wc wr isC isR) (hF : ∀ u, isF.map (fun i => (wr ++ W1 u)[i]?) = (wf u).map some ∧ isF.filterMap (fun i => (wr ++ W1 u)[i]?) = wf u) (hnF : va_nd isF = true)
    (hr : va_P D vwCl wc H → va_D A wc → va_Run p l e R s m args below meth c H locs cells slots mc ms (F0 m pc ls st0) rest (va_Qi post (kB D tys (va_A wc H.size) W1) (va_A wc H.size) av) (va_A wc H.size))
    (kk : ∀ (r : Int32) (u : S) (H1 : Heap) (locs1 : List Loc), post r u → va_P D vwCl (wf u) H1 → va_D A (wf u) → va_S A H0 H1 locs1 → W p l e R s m args below meth c H1 locs1 (cells + mc) (slots + ms) Q (F0 m (pc + 3) ls (.int r :: rest))) : W p l e R s m args below meth c H locs cells slots Q (F0 m pc ls st0) := by
  obtain ⟨⟨hC, hC2, hnC⟩, hR, hnR, hdis⟩ := hX
  have hFc := va_free (wc := wc) hD hS hA isC hC
  refine va_calli (hr (hP.sub isC hC2) (hD.sub isC hnC hC)) hS (fun q _ h => hFc q h) hFc (fun r u t H1 locs1 ht hvm hw hB hz1 hk1 hS1 => ?_)
  obtain ⟨hP1, hK1, hD1⟩ := hB
  rw [ht] at hP1
  obtain ⟨hP2, hD2⟩ := va_join (wr := wr) (w1 := W1 u) hP hD isC isR hC hR hnR hdis hk1 hFc hP1 hD1
  exact kk r u H1 locs1 hw (hP2.sub isF (hF u).2) (hD2.sub isF hnF (hF u).1) hS1
theorem k_callv {S : Type} {post : S → Prop} {W1 wf : S → va_W} {wc wr : va_W} {st0 : List Value} {av : Array Value} {mc ms : Nat} (hK : va_K D vwCl tys s) (hP : va_P D vwCl ws H) (hD : va_D A ws) (hS : va_S A H0 H locs) (hA : ∀ q, H0.size ≤ q → A q)
    (isC isR isF : List Nat) (hX : kX ws wc wr isC isR) (hF : ∀ u, isF.map (fun i => (wr ++ W1 u)[i]?) = (wf u).map some ∧ isF.filterMap (fun i => (wr ++ W1 u)[i]?) = wf u) (hnF : va_nd isF = true)
    (hr : va_P D vwCl wc H → va_D A wc → va_Run p l e R s m args below meth c H locs cells slots mc ms (F0 m pc ls st0) rest (va_Qv post (kB D tys (va_A wc H.size) W1) (va_A wc H.size) av) (va_A wc H.size))
    (kk : ∀ (u : S) (H1 : Heap) (locs1 : List Loc), post u → va_P D vwCl (wf u) H1 → va_D A (wf u) → va_S A H0 H1 locs1 → W p l e R s m args below meth c H1 locs1 (cells + mc) (slots + ms) Q (F0 m (pc + 3) ls rest)) : W p l e R s m args below meth c H locs cells slots Q (F0 m pc ls st0) := by
  obtain ⟨⟨hC, hC2, hnC⟩, hR, hnR, hdis⟩ := hX
  have hFc := va_free (wc := wc) hD hS hA isC hC
  refine va_callv (hr (hP.sub isC hC2) (hD.sub isC hnC hC)) hS (fun q _ h => hFc q h) hFc (fun u t H1 locs1 ht hvm hw hB hz1 hk1 hS1 => ?_)
  obtain ⟨hP1, hK1, hD1⟩ := hB
  rw [ht] at hP1
  obtain ⟨hP2, hD2⟩ := va_join (wr := wr) (w1 := W1 u) hP hD isC isR hC hR hnR hdis hk1 hFc hP1 hD1
  exact kk u H1 locs1 hw (hP2.sub isF (hF u).2) (hD2.sub isF hnF (hF u).1) hS1
theorem k_callq {S : Type} {post : Option Nat → S → Prop} {W1 wf : S → va_W} {wc wr : va_W} {st0 : List Value} {av : Array Value} {mc ms : Nat} (hK : va_K D vwCl tys s) (hP : va_P D vwCl ws H) (hD : va_D A ws) (hS : va_S A H0 H locs) (hA : ∀ q, H0.size ≤ q → A q)
    (isC isR isF : List Nat) (hX : kX ws wc wr isC isR) (hF : ∀ u, isF.map (fun i => (wr ++ W1 u)[i]?) = (wf u).map some ∧ isF.filterMap (fun i => (wr ++ W1 u)[i]?) = wf u) (hnF : va_nd isF = true)
    (hr : va_P D vwCl wc H → va_D A wc → va_Run p l e R s m args below meth c H locs cells slots mc ms (F0 m pc ls st0) rest (va_Qq post (kB D tys (va_A wc H.size) W1) (va_A wc H.size) av) (va_A wc H.size))
    (kk : ∀ (r : Option Nat) (u : S) (H1 : Heap) (locs1 : List Loc), post r u → va_P D vwCl (wf u) H1 → va_D A (wf u) → va_S A H0 H1 locs1 → W p l e R s m args below meth c H1 locs1 (cells + mc) (slots + ms) Q (F0 m (pc + 3) ls (va_rf r :: rest))) : W p l e R s m args below meth c H locs cells slots Q (F0 m pc ls st0) := by
  obtain ⟨⟨hC, hC2, hnC⟩, hR, hnR, hdis⟩ := hX
  have hFc := va_free (wc := wc) hD hS hA isC hC
  refine va_callq (hr (hP.sub isC hC2) (hD.sub isC hnC hC)) hS (fun q _ h => hFc q h) hFc (fun r u t H1 locs1 ht hvm hw hB hz1 hk1 hS1 => ?_)
  obtain ⟨hP1, hK1, hD1⟩ := hB
  rw [ht] at hP1
  obtain ⟨hP2, hD2⟩ := va_join (wr := wr) (w1 := W1 u) hP hD isC isR hC hR hnR hdis hk1 hFc hP1 hD1
  exact kk r u H1 locs1 hw (hP2.sub isF (hF u).2) (hD2.sub isF hnF (hF u).1) hS1
/-- a new array of a known kind -/
theorem k_newa (hexec : p.tables.exec = Jvm.exec) (hb : c.code = cc) {atype : ArrayType} (harr : (Cond.arrayClass (newarray.typeOf atype)).before args s = true) {ty : FieldType} (hty : newarray.typeOf atype = ty) (hK : va_K D vwCl tys s) (t0 : Nat) {cA : ClassId} (ht : tys[t0]? = some (cA, ty)) (hpl : ∀ cB : ClassId, va_RA s cB ty = (s.vm.findClass ("[" ++ ty.toString) = some cB)) (hP : va_P D vwCl ws H) (hD : va_D A ws) (hS : va_S A H0 H locs) (hA : ∀ q, H0.size ≤ q → A q)
    {z : Int} {N' : Nat} (ha : ∀ cA : ClassId, vp_cell cA (N', .inl (fun _ => (0 : Int32))) = arrV cA N' (fun _ => defaultValue ty)) (hn : z = N' ∧ N' < 2147483648) (hbytes : N' * componentBytes ty ≤ 536870912) (hcells : cells + 1 ≤ R.cells) (hslots : slots + N' ≤ R.slots) (hdg : decode cc pc = .ok (.newarray atype, 2))
    (kk : ∀ (q : Nat) (H1 : Heap), va_P D vwCl (ws ++ [(q, .inl (cA, N', .inl (fun _ => (0 : Int32))))]) H1 → va_D A (ws ++ [(q, .inl (cA, N', .inl (fun _ => (0 : Int32))))]) → va_S A H0 H1 locs →
      W p l e R s m args below meth c H1 locs (cells + 1) (slots + N') Q (F0 m (pc + 2) ls (.ref q :: rest))) : W p l e R s m args below meth c H locs cells slots Q (F0 m pc ls (.int (iI z) :: rest)) := by
  have h1 : ¬ iI z < 0 := fun h => absurd (iI_ltT (b := 0) h (by omega)) (by omega)
  refine va_newa hexec hb harr hty hK hP hD hS hA ha h1 (iI_cl hn) hbytes hcells hslots hdg (fun q cB H1 hK1 hP1 hD1 hS1 => ?_)
  have e1 := (hK.2 t0 _ ht).2
  have e2 := (hK1.2 tys.length (cB, ty) (by simp)).2
  rw [hpl] at e1 e2
  have e3 : cA = cB := Option.some.inj (e1.symm.trans e2)
  subst e3
  exact kk q H1 hP1 hD1 hS1
theorem k_iald (hexec : p.tables.exec = Jvm.exec) (hb : c.code = cc) (hK : va_K D vwCl tys s) (hP : va_P D vwCl ws H) (q0 t0 : Nat) {cA : ClassId} {n : Nat} {f : Nat → Int32} (ha : ws[q0]? = some (a, .inl (cA, n, .inl f))) (ht : tys[t0]? = some (cA, .int)) {z : Int} (k : Nat) (hz : (z = k ∧ k < n) ∧ n ≤ 2147483647) (hdg : decode cc pc = .ok (.iaload, 1))
    (kk : W p l e R s m args below meth c H locs cells slots Q (F0 m (pc + 1) ls (.int (f k) :: rest))) : W p l e R s m args below meth c H locs cells slots Q (F0 m pc ls (.int (iI z) :: .ref a :: rest)) := by
  have h1 : (iI z).toNatClampNeg = k := iI_cl (by omega)
  refine va_iald hexec hb hK hP q0 t0 ha ht (iI_in (by omega)) hdg ?_
  rw [h1]
  exact kk
theorem k_zald (hexec : p.tables.exec = Jvm.exec) (hb : c.code = cc) (hK : va_K D vwCl tys s) (hP : va_P D vwCl ws H) (q0 t0 : Nat) {cA : ClassId} {n : Nat} {f : Nat → Int32} (ha : ws[q0]? = some (a, .inl (cA, n, .inl f))) (ht : tys[t0]? = some (cA, .boolean)) {z : Int} (k : Nat) (hz : (z = k ∧ k < n) ∧ n ≤ 2147483647) (hdg : decode cc pc = .ok (.baload, 1))
    (kk : W p l e R s m args below meth c H locs cells slots Q (F0 m (pc + 1) ls (.int (f k) :: rest))) : W p l e R s m args below meth c H locs cells slots Q (F0 m pc ls (.int (iI z) :: .ref a :: rest)) := by
  have h1 : (iI z).toNatClampNeg = k := iI_cl (by omega)
  refine va_zald hexec hb hK hP q0 t0 ha ht (iI_in (by omega)) hdg ?_
  rw [h1]
  exact kk
theorem k_iast (hexec : p.tables.exec = Jvm.exec) (hb : c.code = cc) (hK : va_K D vwCl tys s) (hP : va_P D vwCl ws H) (hD : va_D A ws) (hS : va_S A H0 H locs) (q0 t0 : Nat) {cA : ClassId} {n : Nat} {f : Nat → Int32} (ha : ws[q0]? = some (a, .inl (cA, n, .inl f))) (ht : tys[t0]? = some (cA, .int)) {z : Int} {x : Int32} (k : Nat) (hz : (z = k ∧ k < n) ∧ n ≤ 2147483647) (hdg : decode cc pc = .ok (.iastore, 1))
    (kk : ∀ (H1 : Heap) (locs1 : List Loc), va_P D vwCl (ws.set q0 (a, .inl (cA, n, .inl (upd f k x)))) H1 → va_D A (ws.set q0 (a, .inl (cA, n, .inl (upd f k x)))) → va_S A H0 H1 locs1 → W p l e R s m args below meth c H1 locs1 cells slots Q (F0 m (pc + 1) ls rest)) : W p l e R s m args below meth c H locs cells slots Q (F0 m pc ls (.int x :: .int (iI z) :: .ref a :: rest)) := by
  have h1 : (iI z).toNatClampNeg = k := iI_cl (by omega)
  refine va_iast hexec hb hK hP hD hS q0 t0 ha ht (iI_in (by omega)) hdg ?_
  rw [h1]
  exact kk
theorem k_zast (hexec : p.tables.exec = Jvm.exec) (hb : c.code = cc) (hK : va_K D vwCl tys s) (hP : va_P D vwCl ws H) (hD : va_D A ws) (hS : va_S A H0 H locs) (q0 t0 : Nat) {cA : ClassId} {n : Nat} {f : Nat → Int32} (ha : ws[q0]? = some (a, .inl (cA, n, .inl f))) (ht : tys[t0]? = some (cA, .boolean)) {z : Int} {x y : Int32} (k : Nat) (hz : (z = k ∧ k < n) ∧ n ≤ 2147483647) (hx : vp_nar .boolean x = y) (hdg : decode cc pc = .ok (.bastore, 1))
    (kk : ∀ (H1 : Heap) (locs1 : List Loc), va_P D vwCl (ws.set q0 (a, .inl (cA, n, .inl (upd f k y)))) H1 → va_D A (ws.set q0 (a, .inl (cA, n, .inl (upd f k y)))) → va_S A H0 H1 locs1 → W p l e R s m args below meth c H1 locs1 cells slots Q (F0 m (pc + 1) ls rest)) : W p l e R s m args below meth c H locs cells slots Q (F0 m pc ls (.int x :: .int (iI z) :: .ref a :: rest)) := by
  have h1 : (iI z).toNatClampNeg = k := iI_cl (by omega)
  subst hx
  refine va_zast hexec hb hK hP hD hS q0 t0 ha ht (iI_in (by omega)) hdg ?_
  rw [h1]
  exact kk
theorem k_alen (hexec : p.tables.exec = Jvm.exec) (hb : c.code = cc) (hK : va_K D vwCl tys s) (hP : va_P D vwCl ws H) (q0 t0 : Nat) {cA : ClassId} {n : Nat} {f : Nat → Int32} (ha : ws[q0]? = some (a, .inl (cA, n, .inl f))) {ty : FieldType} (ht : tys[t0]? = some (cA, ty)) (hdg : decode cc pc = .ok (.arraylength, 1))
    (kk : W p l e R s m args below meth c H locs cells slots Q (F0 m (pc + 1) ls (.int (iI n) :: rest))) : W p l e R s m args below meth c H locs cells slots Q (F0 m pc ls (.ref a :: rest)) :=
  va_alen (v := iI n) hexec hb hK hP q0 t0 ha ht (iI_nI n) hdg kk
end KK
end
section
/-! rows of bytes: contents f, of which the first n count -/
def apL (f : Nat → Int32) (n : Nat) (L : List Int32) : Nat → Int32 := fun j => if j < n then f j else L.getD (j - n) (f j)
def sl (g : Nat → Int32) (st n : Nat) : List Int32 := (List.range n).map (fun k => g (st + k))
theorem sl_len (g : Nat → Int32) (st n : Nat) : (sl g st n).length = n := by simp [sl]
theorem sl_succ (g : Nat → Int32) (st n : Nat) : sl g st (n + 1) = sl g st n ++ [g (st + n)] := by simp [sl, List.range_succ]
theorem apL_nil (f : Nat → Int32) (n : Nat) : apL f n [] = f := by
  funext j
  simp [apL]
theorem apL_one (f : Nat → Int32) (n : Nat) (x : Int32) : upd f n x = apL f n [x] := by
  funext j
  unfold upd apL
  by_cases h : j = n
  · subst h; simp
  · by_cases h2 : j < n
    · simp [h, h2]
    · have h3 : 1 ≤ j - n := by omega
      rw [if_neg h, if_neg h2, List.getD_eq_getElem?_getD, List.getElem?_eq_none (by simpa using h3)]
      rfl
theorem apL_app (f : Nat → Int32) (n : Nat) (L M : List Int32) : apL (apL f n L) (n + L.length) M = apL f n (L ++ M) := by
  funext j
  unfold apL
  by_cases h : j < n
  · simp [h, Nat.lt_add_right L.length h]
  · by_cases h2 : j < n + L.length
    · have h3 : j - n < L.length := by omega
      simp [h, h2, List.getD_eq_getElem?_getD, List.getElem?_append_left h3]
    · have h3 : L.length ≤ j - n := by omega
      have h4 : j - n - L.length = j - (n + L.length) := by omega
      simp [h, h2, List.getD_eq_getElem?_getD, List.getElem?_append_right h3, List.getElem?_eq_none h3, h4]
theorem apL_at {f : Nat → Int32} {n : Nat} {L : List Int32} {k : Nat} (h : k = n + L.length) (x : Int32) : apL (apL f n L) k [x] = apL f n (L ++ [x]) := by rw [h, apL_app]
theorem apL_sl {f g : Nat → Int32} {n st k : Nat} : apL (apL f n (sl g st k)) (n + k) [g (st + k)] = apL f n (sl g st (k + 1)) := by
  rw [apL_at (by rw [sl_len]), sl_succ]
/-- the first n -/
def rl (f : Nat → Int32) (n : Nat) : List Int32 := sl f 0 n
theorem rl_len (f : Nat → Int32) (n : Nat) : (rl f n).length = n := sl_len f 0 n
theorem rl_ap (f : Nat → Int32) (n : Nat) (L : List Int32) : rl (apL f n L) (n + L.length) = rl f n ++ L := by
  refine List.ext_getElem (by simp [rl, sl]) (fun i h1 h2 => ?_)
  simp only [rl, sl, List.length_map, List.length_range] at h1
  by_cases h : i < n
  · simp [rl, sl, apL, h]
  · have h3 : i - n < L.length := by omega
    have e : (rl f n ++ L)[i] = L[i - n] := by
      rw [List.getElem_append_right (by rw [rl_len]; omega)]
      simp only [rl_len]
    rw [e]
    simp [rl, sl, apL, h, List.getD_eq_getElem?_getD, h3]
/-- the check -/
def dgS (s b : Int32) : Int32 := (((s ^^^ b) <<< (iI (5 : Int) &&& 31)) ||| (((s ^^^ b).toUInt32 >>> ((iI (27 : Int)).toUInt32 &&& Int32.toUInt32 31)).toInt32)) * (-2048144777)
def dg (f : Nat → Int32) : Nat → Int32
  | 0 => iI 0
  | k + 1 => dgS (dg f k) (f k)
/-- a byte, where there is one -/
def rAt (f : Nat → Int32) (n : Nat) (z : Int) : Int32 := if 0 ≤ z ∧ z < (n : Int) then f z.toNat else iI (-1)
/-- how many bytes are the same -/
def lcp (f g : Nat → Int32) (i j : Nat) : Nat → Nat
  | 0 => 0
  | k + 1 => if f i = g j then lcp f g (i + 1) (j + 1) k + 1 else 0
/-- numbers in bytes of seven bits -/
def vb : Nat → Nat → List Int32
  | 0, v => [iI ((v % 128 : Nat) : Int)]
  | t + 1, v => if 127 < v then iI ((v % 128 + 128 : Nat) : Int) :: vb t (v / 128) else [iI ((v % 128 : Nat) : Int)]
theorem vb_step {k v : Nat} (hk : k < 4) (hv : 127 < v) : vb (4 - k) v = iI ((v % 128 + 128 : Nat) : Int) :: vb (4 - (k + 1)) (v / 128) := by
  have h : 4 - k = (4 - (k + 1)) + 1 := by omega
  rw [h, vb, if_pos hv]
theorem vb_stop {k v : Nat} (h : ¬ k < 4 ∨ ¬ 127 < v) : vb (4 - k) v = [iI ((v % 128 : Nat) : Int)] := by
  cases e : 4 - k with
  | zero => rfl
  | succ t =>
    rw [vb, if_neg]
    omega
theorem vb_len (t v : Nat) : (vb t v).length ≤ t + 1 ∧ 1 ≤ (vb t v).length := by
  induction t generalizing v with
  | zero => simp [vb]
  | succ t ih =>
    unfold vb
    split
    · have := ih (v / 128); simp; omega
    · simp
theorem b_and127 {v : Nat} (h : v < 2147483648) : iI ((v : Nat) : Int) &&& iI (127 : Int) = iI ((v % 128 : Nat) : Int) := by
  rw [← iI_nI, ← iI_nI]
  exact pk_andN (by omega) 7 (by decide)
theorem b_or128 : ∀ x, x < 128 → iI ((x : Nat) : Int) ||| iI (128 : Int) = iI ((x + 128 : Nat) : Int) := by decide +kernel
theorem b_ushr7 {v : Nat} (h : v < 2147483648) : ((iI ((v : Nat) : Int)).toUInt32 >>> ((iI (7 : Int)).toUInt32 &&& Int32.toUInt32 31)).toInt32 = iI ((v / 128 : Nat) : Int) := by
  rw [← iI_nI, ← iI_nI]
  exact pk_ushrN (by omega) (iI 7) 7 (by decide)
/-- the four bytes of a word, the highest first -/
def wB (w : Int32) (k : Int) : Int32 := ((w.toUInt32 >>> ((iI k).toUInt32 &&& Int32.toUInt32 31)).toInt32) &&& iI (255 : Int)
def wL (w : Int32) : List Int32 := [wB w 24, wB w 16, wB w 8, wB w 0]
theorem lcp_s {f g : Nat → Int32} {i j k : Nat} (hk : 0 < k) (h : f i = g j) : lcp f g i j k = lcp f g (i + 1) (j + 1) (k - 1) + 1 := by
  obtain ⟨t, rfl⟩ : ∃ t, k = t + 1 := ⟨k - 1, by omega⟩
  simp [lcp, h]
theorem lcp_n {f g : Nat → Int32} {i j k : Nat} (h : ¬ f i = g j) : lcp f g i j k = 0 := by
  cases k with
  | zero => rfl
  | succ k => simp [lcp, h]
theorem lcp_0 {f g : Nat → Int32} {i j k : Nat} (h : k = 0) : lcp f g i j k = 0 := by subst h; rfl
/-! arrays of numbers -/
def kA (P : Nat → Int) : Nat → Int32 := fun i => iI (P i)
def uZ (P : Nat → Int) (k : Nat) (v : Int) : Nat → Int := fun j => if j = k then v else P j
theorem kA_upd (P : Nat → Int) (k : Nat) (v : Int) : upd (kA P) k (iI v) = kA (uZ P k v) := by
  funext j
  unfold upd kA uZ
  by_cases h : j = k
  · simp [h]
  · simp [h]
theorem uZ_s (P : Nat → Int) (k : Nat) (v : Int) : uZ P k v k = v := by simp [uZ]
theorem uZ_n {P : Nat → Int} {k j : Nat} {v : Int} (h : j ≠ k) : uZ P k v j = P j := by simp [uZ, h]
def rZ (P : Nat → Int) (n : Nat) (z : Int) : Int := if 0 ≤ z ∧ z < (n : Int) then P z.toNat else -1
theorem rZ_in {P : Nat → Int} {n k : Nat} (h : k < n) : rZ P n (k : Int) = P k := by
  unfold rZ
  rw [if_pos (by omega)]
  rfl
theorem rZ_rng {P : Nat → Int} {n : Nat} {z b : Int} (hb : -1 ≤ b) (h : ∀ i, i < n → -1 ≤ P i ∧ P i ≤ b) : -1 ≤ rZ P n z ∧ rZ P n z ≤ b := by
  unfold rZ
  split
  · exact h _ (by omega)
  · exact ⟨by omega, hb⟩
theorem kb1 {P : Prop} [Decidable P] (h : P) : iI 1 = kb (decide P) := by rw [decide_eq_true h]; rfl
theorem kb0 {P : Prop} [Decidable P] (h : ¬ P) : iI 0 = kb (decide P) := by rw [decide_eq_false h]; rfl
theorem rZ_last {P : Nat → Int} {n : Nat} (h : 0 < n) : rZ P n (((n : Nat) : Int) - 1) = P (n - 1) := by
  unfold rZ
  rw [if_pos (by omega)]
  congr 1
  omega
/-- one more byte that is added -/
def adB (P L S : Nat → Int) (cnt p : Nat) : (Nat → Int) × (Nat → Int) × (Nat → Int) × Nat := if 0 < cnt ∧ S (cnt - 1) = -1 ∧ L (cnt - 1) < 40 then (P, uZ L (cnt - 1) (L (cnt - 1) + 1), S, cnt) else (uZ P cnt ((p : Nat) : Int), uZ L cnt 1, uZ S cnt (-1), cnt + 1)
/-- the longest run and its least place -/
def lr (fg fb : Nat → Int32) (ng nb p q : Nat) : Nat := lcp fg fb p q (min (ng - p) (nb - q))
def mxR (r : Nat → Nat) : Nat → Nat
  | 0 => 0
  | k + 1 => if mxR r k < r k then r k else mxR r k
def lsQ (r : Nat → Nat) : Nat → Nat
  | 0 => 0
  | k + 1 => if mxR r k < r k then k else lsQ r k
theorem lcp_le (f g : Nat → Int32) (k : Nat) : ∀ i j : Nat, lcp f g i j k ≤ k := by
  induction k with
  | zero => intro i j; exact Nat.le_refl _
  | succ k ih =>
    intro i j
    unfold lcp
    split
    · have := ih (i + 1) (j + 1); omega
    · omega
theorem lr_le' {fg fb : Nat → Int32} {ng nb p q : Nat} : lr fg fb ng nb p q ≤ nb - q := Nat.le_trans (lcp_le _ _ _ _ _) (Nat.min_le_right _ _)
theorem lr_le {fg fb : Nat → Int32} {ng nb p q : Nat} : lr fg fb ng nb p q ≤ nb := Nat.le_trans lr_le' (Nat.sub_le _ _)
theorem lr_leg {fg fb : Nat → Int32} {ng nb p q : Nat} : lr fg fb ng nb p q ≤ ng - p := Nat.le_trans (lcp_le _ _ _ _ _) (Nat.min_le_left _ _)
theorem mxR_le {r : Nat → Nat} {b : Nat} (h : ∀ q, r q ≤ b) : ∀ k, mxR r k ≤ b := by
  intro k
  induction k with
  | zero => exact Nat.zero_le _
  | succ k ih =>
    unfold mxR
    split
    · exact h k
    · exact ih
theorem mxR_f {r : Nat → Nat} {k : Nat} (h : mxR r k < r k) : mxR r (k + 1) = r k := by rw [mxR, if_pos h]
theorem mxR_t {r : Nat → Nat} {k : Nat} (h : r k ≤ mxR r k) : mxR r (k + 1) = mxR r k := by rw [mxR, if_neg (by omega)]
theorem lsQ_f {r : Nat → Nat} {k : Nat} (h : mxR r k < r k) : lsQ r (k + 1) = k := by rw [lsQ, if_pos h]
theorem lsQ_t {r : Nat → Nat} {k : Nat} (h : r k ≤ mxR r k) : lsQ r (k + 1) = lsQ r k := by rw [lsQ, if_neg (by omega)]
theorem mx_stop {r : Nat → Nat} {k : Nat} (n : Nat) (h : ∀ j, k ≤ j → j < k + n → r j ≤ mxR r k) : mxR r (k + n) = mxR r k ∧ lsQ r (k + n) = lsQ r k := by
  induction n with
  | zero => exact ⟨rfl, rfl⟩
  | succ n ih =>
    obtain ⟨h1, h2⟩ := ih (fun j a b => h j a (by omega))
    have h3 : r (k + n) ≤ mxR r (k + n) := by rw [h1]; exact h _ (by omega) (by omega)
    exact ⟨by rw [← Nat.add_assoc, mxR_t h3, h1], by rw [← Nat.add_assoc, lsQ_t h3, h2]⟩
theorem lsQ_stop {r : Nat → Nat} {k b : Nat} (hk : k ≤ b) (h : ∀ j, k ≤ j → j < b → r j ≤ mxR r k) : lsQ r b = lsQ r k := by
  have := (mx_stop (r := r) (k := k) (b - k) (fun j a c => h j a (by omega))).2
  rwa [show k + (b - k) = b by omega] at this
theorem lsQ_le (r : Nat → Nat) : ∀ k, lsQ r k ≤ k := by
  intro k
  induction k with
  | zero => exact Nat.le_refl _
  | succ k ih =>
    unfold lsQ
    split <;> omega
theorem mxR_max (r : Nat → Nat) : ∀ k j, j < k → r j ≤ mxR r k := by
  intro k
  induction k with
  | zero => intro j h; omega
  | succ k ih =>
    intro j h
    rcases Nat.lt_or_ge j k with q | q
    · have := ih j q
      unfold mxR
      split <;> omega
    · have e : j = k := by omega
      subst e
      unfold mxR
      split <;> omega
theorem lsQ_at (r : Nat → Nat) (h0 : r 0 = 0 ∨ 0 < 1) : ∀ k, 0 < mxR r k → r (lsQ r k) = mxR r k ∧ lsQ r k < k := by
  intro k
  induction k with
  | zero => intro h; exact absurd h (Nat.lt_irrefl _)
  | succ k ih =>
    intro h
    rcases Nat.lt_or_ge (mxR r k) (r k) with q | q
    · rw [mxR_f q, lsQ_f q]; exact ⟨rfl, Nat.lt_succ_self _⟩
    · rw [mxR_t q, lsQ_t q] at *
      obtain ⟨a, b⟩ := ih h
      exact ⟨a, by omega⟩
/-- the steps, from place p on, with so many turns left -/
def layF (r : Nat → Nat → Nat) (nb ng : Nat) : Nat → Nat → (Nat → Int) → (Nat → Int) → (Nat → Int) → Nat → (Nat → Int) × (Nat → Int) × (Nat → Int) × Nat
  | 0, _, P, L, S, cnt => (P, L, S, cnt)
  | t + 1, p, P, L, S, cnt =>
    if p < ng then
      if 4 ≤ mxR (r p) nb then layF r nb ng t (p + mxR (r p) nb) (uZ P cnt ((p : Nat) : Int)) (uZ L cnt ((mxR (r p) nb : Nat) : Int)) (uZ S cnt ((lsQ (r p) nb : Nat) : Int)) (cnt + 1)
      else layF r nb ng t (p + 1) (adB P L S cnt p).1 (adB P L S cnt p).2.1 (adB P L S cnt p).2.2.1 (adB P L S cnt p).2.2.2
    else (P, L, S, cnt)
theorem layF_c {r : Nat → Nat → Nat} {nb ng t p : Nat} {P L S : Nat → Int} {cnt : Nat} (ht : t < 300) (h : p < ng) (h4 : 4 ≤ mxR (r p) nb) : layF r nb ng (300 - t) p P L S cnt = layF r nb ng (300 - (t + 1)) (p + mxR (r p) nb) (uZ P cnt ((p : Nat) : Int)) (uZ L cnt ((mxR (r p) nb : Nat) : Int)) (uZ S cnt ((lsQ (r p) nb : Nat) : Int)) (cnt + 1) := by
  rw [show 300 - t = (300 - (t + 1)) + 1 by omega, layF, if_pos h, if_pos h4]
theorem layF_a {r : Nat → Nat → Nat} {nb ng t p : Nat} {P L S : Nat → Int} {cnt : Nat} (ht : t < 300) (h : p < ng) (h4 : ¬ 4 ≤ mxR (r p) nb) : layF r nb ng (300 - t) p P L S cnt = layF r nb ng (300 - (t + 1)) (p + 1) (adB P L S cnt p).1 (adB P L S cnt p).2.1 (adB P L S cnt p).2.2.1 (adB P L S cnt p).2.2.2 := by
  rw [show 300 - t = (300 - (t + 1)) + 1 by omega, layF, if_pos h, if_neg h4]
theorem layF_e {r : Nat → Nat → Nat} {nb ng t p : Nat} {P L S : Nat → Int} {cnt : Nat} (h : t = 0 ∨ ¬ p < ng) : layF r nb ng t p P L S cnt = (P, L, S, cnt) := by
  cases t with
  | zero => rfl
  | succ t => rw [layF, if_neg (by omega)]
/-- what holds of steps while they are laid out -/
def LW (P L S : Nat → Int) (cnt nb p : Nat) : Prop :=
  (∀ i, i < cnt → 0 ≤ P i ∧ 1 ≤ L i ∧ P i + L i ≤ p ∧ ((S i = -1 ∧ L i ≤ 40) ∨ (0 ≤ S i ∧ 4 ≤ L i ∧ S i + L i ≤ nb))) ∧ (∀ i, i + 1 < cnt → P (i + 1) = P i + L i) ∧ (0 < cnt → P 0 = 0 ∧ P (cnt - 1) + L (cnt - 1) = p) ∧ (cnt = 0 → p = 0) ∧ cnt ≤ p
theorem LW_0 (P L S : Nat → Int) (nb : Nat) : LW P L S 0 nb 0 := ⟨fun i h => absurd h (Nat.not_lt_zero _), fun i h => absurd h (Nat.not_lt_zero _), fun h => absurd h (Nat.lt_irrefl _), fun _ => rfl, Nat.le_refl _⟩
theorem LW_push {P L S : Nat → Int} {cnt nb p : Nat} {x : Nat} {v : Int} (h : LW P L S cnt nb p) (hx : 1 ≤ x) (hv : (v = -1 ∧ x ≤ 40) ∨ (0 ≤ v ∧ 4 ≤ x ∧ v + x ≤ nb)) : LW (uZ P cnt ((p : Nat) : Int)) (uZ L cnt ((x : Nat) : Int)) (uZ S cnt v) (cnt + 1) nb (p + x) := by
  obtain ⟨h1, h2, h3, h4, h5⟩ := h
  refine ⟨fun i hi => ?_, fun i hi => ?_, fun _ => ⟨?_, ?_⟩, fun h => absurd h (Nat.succ_ne_zero _), by omega⟩
  · rcases Nat.lt_or_ge i cnt with q | q
    · rw [uZ_n (by omega), uZ_n (by omega), uZ_n (by omega)]
      have := h1 i q
      omega
    · obtain rfl : i = cnt := by omega
      rw [uZ_s, uZ_s, uZ_s]
      omega
  · rcases Nat.lt_or_ge (i + 1) cnt with q | q
    · rw [uZ_n (by omega), uZ_n (by omega), uZ_n (by omega)]
      exact h2 i q
    · obtain rfl : i + 1 = cnt := by omega
      rw [uZ_s, uZ_n (by omega), uZ_n (by omega)]
      have := (h3 (by omega)).2
      rw [Nat.add_sub_cancel] at this
      omega
  · rcases Nat.eq_zero_or_pos cnt with q | q
    · subst q
      rw [uZ_s, h4 rfl]
      rfl
    · rw [uZ_n (by omega)]
      exact (h3 q).1
  · rw [Nat.add_sub_cancel, uZ_s, uZ_s]
    omega
theorem LW_inc {P L S : Nat → Int} {cnt nb p : Nat} (h : LW P L S cnt nb p) (h0 : 0 < cnt) (hS : S (cnt - 1) = -1) (hL : L (cnt - 1) < 40) : LW P (uZ L (cnt - 1) (L (cnt - 1) + 1)) S cnt nb (p + 1) := by
  obtain ⟨h1, h2, h3, h4, h5⟩ := h
  have e := h3 h0
  refine ⟨fun i hi => ?_, fun i hi => ?_, fun _ => ⟨e.1, ?_⟩, fun h => by omega, by omega⟩
  · have := h1 i hi
    by_cases q : i = cnt - 1
    · subst q
      rw [uZ_s]
      omega
    · rw [uZ_n q]
      omega
  · rw [uZ_n (by omega)]
    exact h2 i hi
  · rw [uZ_s]
    omega
theorem LW_adB {P L S : Nat → Int} {cnt nb p : Nat} (h : LW P L S cnt nb p) : LW (adB P L S cnt p).1 (adB P L S cnt p).2.1 (adB P L S cnt p).2.2.1 (adB P L S cnt p).2.2.2 nb (p + 1) := by
  unfold adB
  split
  next q => exact LW_inc h q.1 q.2.1 q.2.2
  next q => exact LW_push (x := 1) h (Nat.le_refl _) (Or.inl ⟨rfl, by omega⟩)
theorem lr_at {fg fb : Nat → Int32} {ng nb p : Nat} : lr fg fb ng nb p (lsQ (lr fg fb ng nb p) nb) = mxR (lr fg fb ng nb p) nb := by
  rcases Nat.eq_zero_or_pos (mxR (lr fg fb ng nb p) nb) with h | h
  · rw [h]
    rcases Nat.lt_or_ge (lsQ (lr fg fb ng nb p) nb) nb with q | q
    · have := mxR_max (lr fg fb ng nb p) nb _ q
      omega
    · have := lr_le' (fg := fg) (fb := fb) (ng := ng) (nb := nb) (p := p) (q := lsQ (lr fg fb ng nb p) nb)
      omega
  · exact (lsQ_at _ (Or.inr (by decide)) nb h).1
theorem adB_c (P L S : Nat → Int) (cnt p : Nat) : (adB P L S cnt p).2.2.2 ≤ cnt + 1 := by
  unfold adB
  split <;> simp
/-! the patch's bytes -/
def zz (v : Int) : Nat := if v < 0 then (-2 * v - 1).toNat else (2 * v).toNat
def stB (fg : Nat → Int32) (P L S : Nat → Int) (i : Nat) (bh : Int) : List Int32 := if S i = -1 then vb 3 (2 * L i).toNat ++ sl fg (P i).toNat (L i).toNat else vb 3 (2 * L i + 1).toNat ++ vb 3 (zz (S i - bh))
def bhN (L S : Nat → Int) (i : Nat) (bh : Int) : Int := if S i = -1 then bh else S i + L i
def wrS (fg : Nat → Int32) (P L S : Nat → Int) : Nat → Nat → Int → List Int32
  | 0, _, _ => []
  | n + 1, i, bh => stB fg P L S i bh ++ wrS fg P L S n (i + 1) (bhN L S i bh)
def hdB (fb fg : Nat → Int32) (nb ng : Nat) : List Int32 := vb 3 nb ++ vb 3 ng ++ wL (dg fb nb) ++ wL (dg fg ng)
theorem wrS_s {fg : Nat → Int32} {P L S : Nat → Int} {cnt i : Nat} {bh : Int} (h : i < cnt) : wrS fg P L S (cnt - i) i bh = stB fg P L S i bh ++ wrS fg P L S (cnt - (i + 1)) (i + 1) (bhN L S i bh) := by
  rw [show cnt - i = (cnt - (i + 1)) + 1 by omega, wrS]
/-- where the steps before end -/
def eP (P L : Nat → Int) (i : Nat) : Int := if i = 0 then 0 else P (i - 1) + L (i - 1)
theorem eP_s (P L : Nat → Int) (i : Nat) : eP P L (i + 1) = P i + L i := by simp [eP]
theorem LW_eP {P L S : Nat → Int} {cnt nb p i : Nat} (h : LW P L S cnt nb p) (hi : i < cnt) : P i = eP P L i := by
  unfold eP
  split
  next q => subst q; exact (h.2.2.1 hi).1
  next q =>
    have := h.2.1 (i - 1) (by omega)
    rw [show i - 1 + 1 = i by omega] at this
    exact this
theorem vb_1 {t v : Nat} (h : v ≤ 127) : (vb t v).length = 1 := by
  cases t with
  | zero => rfl
  | succ t => rw [vb, if_neg (by omega)]; rfl
theorem stB_len {fg : Nat → Int32} {P L S : Nat → Int} {cnt nb p i : Nat} (h : LW P L S cnt nb p) (hi : i < cnt) (bh : Int) : ((stB fg P L S i bh).length : Int) ≤ 2 * L i := by
  have h1 := h.1 i hi
  unfold stB
  split
  next q =>
    rw [List.length_append, sl_len, vb_1 (by omega)]
    omega
  next q =>
    rw [List.length_append]
    have a := (vb_len 3 (2 * L i + 1).toNat).1
    have b := (vb_len 3 (zz (S i - bh))).1
    omega
theorem hdB_len (fb fg : Nat → Int32) (nb ng : Nat) : (hdB fb fg nb ng).length ≤ 16 := by
  have a := (vb_len 3 nb).1
  have b := (vb_len 3 ng).1
  simp [hdB, wL]
  omega
theorem zz_lt {v : Int} (h : -400 ≤ v ∧ v ≤ 400) : zz v < 1000 := by
  unfold zz
  split <;> omega
theorem apL0 {f : Nat → Int32} {L M : List Int32} : apL (apL f 0 L) L.length M = apL f 0 (L ++ M) := by
  have := apL_app f 0 L M
  rwa [Nat.zero_add] at this
theorem len_v {T X : List Int32} : iI ((T.length + X.length : Nat) : Int) = iI (((T ++ X).length : Nat) : Int) := by rw [List.length_append]
theorem len_w {T : List Int32} {w : Int32} : iI ((T.length + 4 : Nat) : Int) = iI (((T ++ wL w).length : Nat) : Int) := by rw [List.length_append]; rfl
theorem len_s {T : List Int32} {g : Nat → Int32} {st k : Nat} : iI ((T.length + k : Nat) : Int) = iI (((T ++ sl g st k).length : Nat) : Int) := by rw [List.length_append, sl_len]
end
section
abbrev rm_c_Row_init300 : Room := { frames := 1, cells := 1, slots := 300, locals := 16 }
set_option maxHeartbeats 4000000 in
set_option maxRecDepth 100000 in
theorem c_Row_init300 (l : Launch) (D : va_G) (cI cZ : ClassId) (h : Nat) (v0 : Int32)  : MV l yX3_init wsX3_init rm_c_Row_init300 D (kT cI cZ) [.ref h, .int (iI ((300 : Nat) : Int))] [(h, .inr (3, [.null, .int v0]))] (fun (_ : Nat) => True) (fun (u : Nat) => match u with | a => [(h, .inr (3, [.ref a, .int (iI ((0 : Nat) : Int))])), (a, .inl (cI, 300, .inl (fun _ => (0 : Int32))))]) 1 300 := by
  intro sz
  refine k_of (cc := cX3_init) (maxL := 2) (ret := none) (by decide) rfl (Nat.le_of_ble_eq_true rfl) ?_
  intro p e s m args below meth c A Q hAe hQ hx hb hr hml hts hown hlocks hnm hP hK hD hS hA ls hl
  have hl : lv_has ls 2 [(0, .ref h), (1, .int (iI ((300 : Nat) : Int)))] := hl
  have hi_X3 : ∀ w ∈ u_ws RX3 TX3 2, w ∈ wsX3_init := fun w h => km (ikX3 w h)
  have fl15 := hts _ (km wm62)
  have fl21 := hts _ (km wm63)
  refine lv_aload_n hx hb dX3_init_0 rfl (lv_at hl 0 rfl) ?_
  refine W.objInit hx hb hown (hts _ (km wm58)) (hts _ (km wm51)) (hts _ (km wm52)) rfl (by rw [hml]; exact hl.1) rfl dX3_init_1 (Nat.le_of_ble_eq_true rfl) (Nat.le_of_ble_eq_true rfl) ?_
  refine W.eq (g2 := F0 m 4 ls []) rfl ?_
  refine lv_aload_n hx hb dX3_init_4 rfl (lv_at hl 0 rfl) ?_
  refine lv_iload_n hx hb dX3_init_5 rfl (lv_at hl 1 rfl) ?_
  refine lv_iconst (v := iI (0 : Int)) hx hb dX3_init_6 rfl ?_
  refine va_mmax hx hb (by rw [hml]; exact hl.1.symm) hown (hts _ (km wm59)) (hts _ (km wm60)) (hts _ (km wm40)) (hts _ (km wm61)) (Nat.le_of_ble_eq_true rfl) (Nat.le_of_ble_eq_true rfl) (Nat.zero_le _) (Nat.zero_le _) dX3_init_7 ?_
  refine kn_i (imax (c := ((300 : Nat) : Int)) (by omega) (by omega)) ?_
  refine k_newa (atype := .int) (N' := 300) hx hb (hts _ (km wm69)) rfl hK 0 rfl (fun _ => rfl) hP hD hS hA (fun _ => rfl) (by omega) (Nat.le_of_ble_eq_true rfl) (Nat.le_of_ble_eq_true rfl) (Nat.le_of_ble_eq_true rfl) dX3_init_10 (fun q10 H hP hD hS => ?_)
  have hP : va_P D vwCl [(h, .inr (3, [.null, .int v0])), (q10, .inl (cI, 300, .inl (fun _ => (0 : Int32))))] H := hP
  have hD : va_D A [(h, .inr (3, [.null, .int v0])), (q10, .inl (cI, 300, .inl (fun _ => (0 : Int32))))] := hD
  refine W.widen (k := 1) (n := 300) (Nat.le_of_ble_eq_true rfl) (Nat.le_of_ble_eq_true rfl) ?_
  refine va_putF (D := D) (ci := 3) (v := .ref q10) (ty := (.array .int)) (C := RX3) (T := TX3) (N := 2) hx hb hts hi_X3 tyX3 tyX3_ok nmX3 hown hK hP hD hS 0 rfl rfl 0 (by decide) fl15 (fun _ h9 => h9) rfl hnm rfl (by decide +kernel) rfl rfl (Nat.le_of_ble_eq_true rfl) dX3_init_12 (fun H locs hP hD hS => ?_)
  have hP : va_P D vwCl [(h, .inr (3, [.ref q10, .int v0])), (q10, .inl (cI, 300, .inl (fun _ => (0 : Int32))))] H := hP
  have hD : va_D A [(h, .inr (3, [.ref q10, .int v0])), (q10, .inl (cI, 300, .inl (fun _ => (0 : Int32))))] := hD
  refine lv_aload_n hx hb dX3_init_15 rfl (lv_at hl 0 rfl) ?_
  refine lv_iconst (v := iI ((0 : Nat) : Int)) hx hb dX3_init_16 rfl ?_
  refine va_put (D := D) (ci := 3) (v := .int (iI ((0 : Nat) : Int))) (ty := .int) (C := RX3) (T := TX3) (N := 2) hx hb hts hi_X3 tyX3 tyX3_ok nmX3 hown hK hP hD hS 0 rfl rfl 1 (by decide) fl21 (fun _ h9 => h9) rfl (by decide +kernel) rfl rfl (Nat.le_of_ble_eq_true rfl) dX3_init_17 (fun H locs hP hD hS => ?_)
  have hP : va_P D vwCl [(h, .inr (3, [.ref q10, .int (iI ((0 : Nat) : Int))])), (q10, .inl (cI, 300, .inl (fun _ => (0 : Int32))))] H := hP
  have hD : va_D A [(h, .inr (3, [.ref q10, .int (iI ((0 : Nat) : Int))])), (q10, .inl (cI, 300, .inl (fun _ => (0 : Int32))))] := hD
  exact k_vret q10 hx hb hr hlocks hK hP hD hS [0, 1] (by decide) rfl rfl (trivial) hAe hQ dX3_init_20

abbrev rm_c_Row_init900 : Room := { frames := 1, cells := 1, slots := 900, locals := 16 }
set_option maxHeartbeats 4000000 in
set_option maxRecDepth 100000 in
theorem c_Row_init900 (l : Launch) (D : va_G) (cI cZ : ClassId) (h : Nat) (v0 : Int32)  : MV l yX3_init wsX3_init rm_c_Row_init900 D (kT cI cZ) [.ref h, .int (iI ((900 : Nat) : Int))] [(h, .inr (3, [.null, .int v0]))] (fun (_ : Nat) => True) (fun (u : Nat) => match u with | a => [(h, .inr (3, [.ref a, .int (iI ((0 : Nat) : Int))])), (a, .inl (cI, 900, .inl (fun _ => (0 : Int32))))]) 1 900 := by
  intro sz
  refine k_of (cc := cX3_init) (maxL := 2) (ret := none) (by decide) rfl (Nat.le_of_ble_eq_true rfl) ?_
  intro p e s m args below meth c A Q hAe hQ hx hb hr hml hts hown hlocks hnm hP hK hD hS hA ls hl
  have hl : lv_has ls 2 [(0, .ref h), (1, .int (iI ((900 : Nat) : Int)))] := hl
  have hi_X3 : ∀ w ∈ u_ws RX3 TX3 2, w ∈ wsX3_init := fun w h => km (ikX3 w h)
  have fl15 := hts _ (km wm62)
  have fl21 := hts _ (km wm63)
  refine lv_aload_n hx hb dX3_init_0 rfl (lv_at hl 0 rfl) ?_
  refine W.objInit hx hb hown (hts _ (km wm58)) (hts _ (km wm51)) (hts _ (km wm52)) rfl (by rw [hml]; exact hl.1) rfl dX3_init_1 (Nat.le_of_ble_eq_true rfl) (Nat.le_of_ble_eq_true rfl) ?_
  refine W.eq (g2 := F0 m 4 ls []) rfl ?_
  refine lv_aload_n hx hb dX3_init_4 rfl (lv_at hl 0 rfl) ?_
  refine lv_iload_n hx hb dX3_init_5 rfl (lv_at hl 1 rfl) ?_
  refine lv_iconst (v := iI (0 : Int)) hx hb dX3_init_6 rfl ?_
  refine va_mmax hx hb (by rw [hml]; exact hl.1.symm) hown (hts _ (km wm59)) (hts _ (km wm60)) (hts _ (km wm40)) (hts _ (km wm61)) (Nat.le_of_ble_eq_true rfl) (Nat.le_of_ble_eq_true rfl) (Nat.zero_le _) (Nat.zero_le _) dX3_init_7 ?_
  refine kn_i (imax (c := ((900 : Nat) : Int)) (by omega) (by omega)) ?_
  refine k_newa (atype := .int) (N' := 900) hx hb (hts _ (km wm69)) rfl hK 0 rfl (fun _ => rfl) hP hD hS hA (fun _ => rfl) (by omega) (Nat.le_of_ble_eq_true rfl) (Nat.le_of_ble_eq_true rfl) (Nat.le_of_ble_eq_true rfl) dX3_init_10 (fun q10 H hP hD hS => ?_)
  have hP : va_P D vwCl [(h, .inr (3, [.null, .int v0])), (q10, .inl (cI, 900, .inl (fun _ => (0 : Int32))))] H := hP
  have hD : va_D A [(h, .inr (3, [.null, .int v0])), (q10, .inl (cI, 900, .inl (fun _ => (0 : Int32))))] := hD
  refine W.widen (k := 1) (n := 900) (Nat.le_of_ble_eq_true rfl) (Nat.le_of_ble_eq_true rfl) ?_
  refine va_putF (D := D) (ci := 3) (v := .ref q10) (ty := (.array .int)) (C := RX3) (T := TX3) (N := 2) hx hb hts hi_X3 tyX3 tyX3_ok nmX3 hown hK hP hD hS 0 rfl rfl 0 (by decide) fl15 (fun _ h9 => h9) rfl hnm rfl (by decide +kernel) rfl rfl (Nat.le_of_ble_eq_true rfl) dX3_init_12 (fun H locs hP hD hS => ?_)
  have hP : va_P D vwCl [(h, .inr (3, [.ref q10, .int v0])), (q10, .inl (cI, 900, .inl (fun _ => (0 : Int32))))] H := hP
  have hD : va_D A [(h, .inr (3, [.ref q10, .int v0])), (q10, .inl (cI, 900, .inl (fun _ => (0 : Int32))))] := hD
  refine lv_aload_n hx hb dX3_init_15 rfl (lv_at hl 0 rfl) ?_
  refine lv_iconst (v := iI ((0 : Nat) : Int)) hx hb dX3_init_16 rfl ?_
  refine va_put (D := D) (ci := 3) (v := .int (iI ((0 : Nat) : Int))) (ty := .int) (C := RX3) (T := TX3) (N := 2) hx hb hts hi_X3 tyX3 tyX3_ok nmX3 hown hK hP hD hS 0 rfl rfl 1 (by decide) fl21 (fun _ h9 => h9) rfl (by decide +kernel) rfl rfl (Nat.le_of_ble_eq_true rfl) dX3_init_17 (fun H locs hP hD hS => ?_)
  have hP : va_P D vwCl [(h, .inr (3, [.ref q10, .int (iI ((0 : Nat) : Int))])), (q10, .inl (cI, 900, .inl (fun _ => (0 : Int32))))] H := hP
  have hD : va_D A [(h, .inr (3, [.ref q10, .int (iI ((0 : Nat) : Int))])), (q10, .inl (cI, 900, .inl (fun _ => (0 : Int32))))] := hD
  exact k_vret q10 hx hb hr hlocks hK hP hD hS [0, 1] (by decide) rfl rfl (trivial) hAe hQ dX3_init_20
end
section
abbrev rm_c_Row_most : Room := { frames := 0, cells := 0, slots := 0, locals := 0 }
set_option maxHeartbeats 4000000 in
set_option maxRecDepth 100000 in
theorem c_Row_most (l : Launch) (D : va_G) (cI cZ : ClassId) (h : Nat) (a : Nat) (M : Nat) (n : Nat) (f : Nat → Int32)  : MI l yX3_most wsX3_most rm_c_Row_most D (kT cI cZ) [.ref h] [(h, .inr (3, [.ref a, .int (iI ((n : Nat) : Int))])), (a, .inl (cI, M, .inl f))] (fun (r : Int32) (_ : Unit) => r = iI ((M : Nat) : Int)) (fun (u : Unit) => match u with | _ => [(h, .inr (3, [.ref a, .int (iI ((n : Nat) : Int))])), (a, .inl (cI, M, .inl f))]) 0 0 := by
  intro sz
  refine k_of (cc := cX3_most) (maxL := 1) (ret := (some .int)) (by decide) rfl (Nat.le_of_ble_eq_true rfl) ?_
  intro p e s m args below meth c A Q hAe hQ hx hb hr hml hts hown hlocks hnm hP hK hD hS hA ls hl
  have hl : lv_has ls 1 [(0, .ref h)] := hl
  have hi_X3 : ∀ w ∈ u_ws RX3 TX3 2, w ∈ wsX3_most := fun w h => km (ikX3 w h)
  have fl15 := hts _ (km wm62)
  refine lv_aload_n hx hb dX3_most_0 rfl (lv_at hl 0 rfl) ?_
  refine va_get (D := D) (ci := 3) (v := .ref a) (C := RX3) (T := TX3) (N := 2) hx hb hts hi_X3 hown hK hP 0 rfl rfl 0 (by decide) fl15 (fun _ h9 => h9) rfl dX3_most_1 ?_
  refine k_alen hx hb hK hP 1 0 rfl rfl dX3_most_4 ?_
  exact k_iret () hx hb hr hlocks hK hP hD hS [0, 1] (by decide) rfl rfl (rfl) hAe hQ dX3_most_5

abbrev rm_c_Row_count : Room := { frames := 0, cells := 0, slots := 0, locals := 0 }
set_option maxHeartbeats 4000000 in
set_option maxRecDepth 100000 in
theorem c_Row_count (l : Launch) (D : va_G) (cI cZ : ClassId) (h : Nat) (a : Nat) (M : Nat) (n : Nat) (f : Nat → Int32)  : MI l yX3_count wsX3_count rm_c_Row_count D (kT cI cZ) [.ref h] [(h, .inr (3, [.ref a, .int (iI ((n : Nat) : Int))])), (a, .inl (cI, M, .inl f))] (fun (r : Int32) (_ : Unit) => r = iI ((n : Nat) : Int)) (fun (u : Unit) => match u with | _ => [(h, .inr (3, [.ref a, .int (iI ((n : Nat) : Int))])), (a, .inl (cI, M, .inl f))]) 0 0 := by
  intro sz
  refine k_of (cc := cX3_count) (maxL := 1) (ret := (some .int)) (by decide) rfl (Nat.le_of_ble_eq_true rfl) ?_
  intro p e s m args below meth c A Q hAe hQ hx hb hr hml hts hown hlocks hnm hP hK hD hS hA ls hl
  have hl : lv_has ls 1 [(0, .ref h)] := hl
  have hi_X3 : ∀ w ∈ u_ws RX3 TX3 2, w ∈ wsX3_count := fun w h => km (ikX3 w h)
  have fl21 := hts _ (km wm63)
  refine lv_aload_n hx hb dX3_count_0 rfl (lv_at hl 0 rfl) ?_
  refine va_get (D := D) (ci := 3) (v := .int (iI ((n : Nat) : Int))) (C := RX3) (T := TX3) (N := 2) hx hb hts hi_X3 hown hK hP 0 rfl rfl 1 (by decide) fl21 (fun _ h9 => h9) rfl dX3_count_1 ?_
  exact k_iret () hx hb hr hlocks hK hP hD hS [0, 1] (by decide) rfl rfl (rfl) hAe hQ dX3_count_4

abbrev rm_c_Row_at : Room := { frames := 0, cells := 0, slots := 0, locals := 0 }
set_option maxHeartbeats 4000000 in
set_option maxRecDepth 100000 in
theorem c_Row_at (l : Launch) (D : va_G) (cI cZ : ClassId) (h : Nat) (a : Nat) (M : Nat) (n : Nat) (f : Nat → Int32) (z : Int) (hM : M ≤ 900) (hn : n ≤ M) (hz : -2147483648 ≤ z ∧ z < 2147483648) : MI l yX3_at wsX3_at rm_c_Row_at D (kT cI cZ) [.ref h, .int (iI (z : Int))] [(h, .inr (3, [.ref a, .int (iI ((n : Nat) : Int))])), (a, .inl (cI, M, .inl f))] (fun (r : Int32) (_ : Unit) => r = (rAt f n z)) (fun (u : Unit) => match u with | _ => [(h, .inr (3, [.ref a, .int (iI ((n : Nat) : Int))])), (a, .inl (cI, M, .inl f))]) 0 0 := by
  intro sz
  refine k_of (cc := cX3_at) (maxL := 2) (ret := (some .int)) (by decide) rfl (Nat.le_of_ble_eq_true rfl) ?_
  intro p e s m args below meth c A Q hAe hQ hx hb hr hml hts hown hlocks hnm hP hK hD hS hA ls hl
  have hl : lv_has ls 2 [(0, .ref h), (1, .int (iI (z : Int)))] := hl
  have hi_X3 : ∀ w ∈ u_ws RX3 TX3 2, w ∈ wsX3_at := fun w h => km (ikX3 w h)
  have fl21 := hts _ (km wm63)
  have fl15 := hts _ (km wm62)
  refine lv_iload_n hx hb dX3_at_0 rfl (lv_at hl 1 rfl) ?_
  refine lv_if_lt (tgt := 21) hx hb dX3_at_1 (by decide) (fun c1 => ?_) (fun c1 => ?_)
  · skip
    have c1 := iI_ltT (a := (z : Int)) (b := (0 : Int)) c1 (by omega)
    refine lv_iconst (v := iI (-1 : Int)) hx hb dX3_at_21 rfl ?_
    exact k_iret () hx hb hr hlocks hK hP hD hS [0, 1] (by decide) rfl rfl (by unfold rAt; first | rw [if_pos (by omega)] | rw [if_neg (by omega)]) hAe hQ dX3_at_22
  · skip
    have c1 := iI_ltF (a := (z : Int)) (b := (0 : Int)) c1 (by omega)
    refine lv_iload_n hx hb dX3_at_4 rfl (lv_at hl 1 rfl) ?_
    refine lv_aload_n hx hb dX3_at_5 rfl (lv_at hl 0 rfl) ?_
    refine va_get (D := D) (ci := 3) (v := .int (iI ((n : Nat) : Int))) (C := RX3) (T := TX3) (N := 2) hx hb hts hi_X3 hown hK hP 0 rfl rfl 1 (by decide) fl21 (fun _ h9 => h9) rfl dX3_at_6 ?_
    refine lv_icmp_ge (tgt := 21) hx hb dX3_at_9 (by decide) (fun c9 => ?_) (fun c9 => ?_)
    · skip
      have c9 := iI_leT (a := ((n : Nat) : Int)) (b := (z : Int)) c9 (by omega)
      refine lv_iconst (v := iI (-1 : Int)) hx hb dX3_at_21 rfl ?_
      exact k_iret () hx hb hr hlocks hK hP hD hS [0, 1] (by decide) rfl rfl (by unfold rAt; first | rw [if_pos (by omega)] | rw [if_neg (by omega)]) hAe hQ dX3_at_22
    · skip
      have c9 := iI_leF (a := ((n : Nat) : Int)) (b := (z : Int)) c9 (by omega)
      refine lv_aload_n hx hb dX3_at_12 rfl (lv_at hl 0 rfl) ?_
      refine va_get (D := D) (ci := 3) (v := .ref a) (C := RX3) (T := TX3) (N := 2) hx hb hts hi_X3 hown hK hP 0 rfl rfl 0 (by decide) fl15 (fun _ h9 => h9) rfl dX3_at_13 ?_
      refine lv_iload_n hx hb dX3_at_16 rfl (lv_at hl 1 rfl) ?_
      refine k_iald hx hb hK hP 1 0 rfl rfl z.toNat (by omega) dX3_at_17 ?_
      refine lv_goto (tgt := 22) hx hb dX3_at_18 (by decide) ?_
      exact k_iret () hx hb hr hlocks hK hP hD hS [0, 1] (by decide) rfl rfl (by unfold rAt; first | rw [if_pos (by omega)] | rw [if_neg (by omega)]) hAe hQ dX3_at_22

abbrev rm_c_Row_atk : Room := { frames := 0, cells := 0, slots := 0, locals := 0 }
set_option maxHeartbeats 4000000 in
set_option maxRecDepth 100000 in
theorem c_Row_atk (l : Launch) (D : va_G) (cI cZ : ClassId) (h : Nat) (a : Nat) (M : Nat) (n : Nat) (f : Nat → Int32) (k : Nat) (hM : M ≤ 900) (hn : n ≤ M) (hk : k < n) : MI l yX3_at wsX3_at rm_c_Row_atk D (kT cI cZ) [.ref h, .int (iI ((k : Nat) : Int))] [(h, .inr (3, [.ref a, .int (iI ((n : Nat) : Int))])), (a, .inl (cI, M, .inl f))] (fun (r : Int32) (_ : Unit) => r = (f k)) (fun (u : Unit) => match u with | _ => [(h, .inr (3, [.ref a, .int (iI ((n : Nat) : Int))])), (a, .inl (cI, M, .inl f))]) 0 0 := by
  intro sz
  refine k_of (cc := cX3_at) (maxL := 2) (ret := (some .int)) (by decide) rfl (Nat.le_of_ble_eq_true rfl) ?_
  intro p e s m args below meth c A Q hAe hQ hx hb hr hml hts hown hlocks hnm hP hK hD hS hA ls hl
  have hl : lv_has ls 2 [(0, .ref h), (1, .int (iI ((k : Nat) : Int)))] := hl
  have hi_X3 : ∀ w ∈ u_ws RX3 TX3 2, w ∈ wsX3_at := fun w h => km (ikX3 w h)
  have fl21 := hts _ (km wm63)
  have fl15 := hts _ (km wm62)
  refine lv_iload_n hx hb dX3_at_0 rfl (lv_at hl 1 rfl) ?_
  refine lv_if_lt (tgt := 21) hx hb dX3_at_1 (by decide) (fun c1 => ?_) (fun c1 => ?_)
  · skip
    have c1 := iI_ltT (a := ((k : Nat) : Int)) (b := (0 : Int)) c1 (by omega)
    omega
  · skip
    have c1 := iI_ltF (a := ((k : Nat) : Int)) (b := (0 : Int)) c1 (by omega)
    refine lv_iload_n hx hb dX3_at_4 rfl (lv_at hl 1 rfl) ?_
    refine lv_aload_n hx hb dX3_at_5 rfl (lv_at hl 0 rfl) ?_
    refine va_get (D := D) (ci := 3) (v := .int (iI ((n : Nat) : Int))) (C := RX3) (T := TX3) (N := 2) hx hb hts hi_X3 hown hK hP 0 rfl rfl 1 (by decide) fl21 (fun _ h9 => h9) rfl dX3_at_6 ?_
    refine lv_icmp_ge (tgt := 21) hx hb dX3_at_9 (by decide) (fun c9 => ?_) (fun c9 => ?_)
    · skip
      have c9 := iI_leT (a := ((n : Nat) : Int)) (b := ((k : Nat) : Int)) c9 (by omega)
      omega
    · skip
      have c9 := iI_leF (a := ((n : Nat) : Int)) (b := ((k : Nat) : Int)) c9 (by omega)
      refine lv_aload_n hx hb dX3_at_12 rfl (lv_at hl 0 rfl) ?_
      refine va_get (D := D) (ci := 3) (v := .ref a) (C := RX3) (T := TX3) (N := 2) hx hb hts hi_X3 hown hK hP 0 rfl rfl 0 (by decide) fl15 (fun _ h9 => h9) rfl dX3_at_13 ?_
      refine lv_iload_n hx hb dX3_at_16 rfl (lv_at hl 1 rfl) ?_
      refine k_iald hx hb hK hP 1 0 rfl rfl k (by omega) dX3_at_17 ?_
      refine lv_goto (tgt := 22) hx hb dX3_at_18 (by decide) ?_
      exact k_iret () hx hb hr hlocks hK hP hD hS [0, 1] (by decide) rfl rfl (rfl) hAe hQ dX3_at_22

abbrev rm_c_Row_put : Room := { frames := 0, cells := 0, slots := 0, locals := 0 }
set_option maxHeartbeats 4000000 in
set_option maxRecDepth 100000 in
theorem c_Row_put (l : Launch) (D : va_G) (cI cZ : ClassId) (h : Nat) (a : Nat) (M : Nat) (n : Nat) (f : Nat → Int32) (k : Nat) (x : Int32) (hM : M ≤ 900) (hn : n ≤ M) (hk : k < n) : MV l yX3_put wsX3_put rm_c_Row_put D (kT cI cZ) [.ref h, .int (iI ((k : Nat) : Int)), .int x] [(h, .inr (3, [.ref a, .int (iI ((n : Nat) : Int))])), (a, .inl (cI, M, .inl f))] (fun (_ : Unit) => True) (fun (u : Unit) => match u with | _ => [(h, .inr (3, [.ref a, .int (iI ((n : Nat) : Int))])), (a, .inl (cI, M, .inl (upd f k x)))]) 0 0 := by
  intro sz
  refine k_of (cc := cX3_put) (maxL := 3) (ret := none) (by decide) rfl (Nat.le_of_ble_eq_true rfl) ?_
  intro p e s m args below meth c A Q hAe hQ hx hb hr hml hts hown hlocks hnm hP hK hD hS hA ls hl
  have hl : lv_has ls 3 [(0, .ref h), (1, .int (iI ((k : Nat) : Int))), (2, .int x)] := hl
  have hi_X3 : ∀ w ∈ u_ws RX3 TX3 2, w ∈ wsX3_put := fun w h => km (ikX3 w h)
  have fl21 := hts _ (km wm63)
  have fl15 := hts _ (km wm62)
  refine lv_iload_n hx hb dX3_put_0 rfl (lv_at hl 1 rfl) ?_
  refine lv_if_lt (tgt := 19) hx hb dX3_put_1 (by decide) (fun c1 => ?_) (fun c1 => ?_)
  · skip
    have c1 := iI_ltT (a := ((k : Nat) : Int)) (b := (0 : Int)) c1 (by omega)
    omega
  · skip
    have c1 := iI_ltF (a := ((k : Nat) : Int)) (b := (0 : Int)) c1 (by omega)
    refine lv_iload_n hx hb dX3_put_4 rfl (lv_at hl 1 rfl) ?_
    refine lv_aload_n hx hb dX3_put_5 rfl (lv_at hl 0 rfl) ?_
    refine va_get (D := D) (ci := 3) (v := .int (iI ((n : Nat) : Int))) (C := RX3) (T := TX3) (N := 2) hx hb hts hi_X3 hown hK hP 0 rfl rfl 1 (by decide) fl21 (fun _ h9 => h9) rfl dX3_put_6 ?_
    refine lv_icmp_ge (tgt := 19) hx hb dX3_put_9 (by decide) (fun c9 => ?_) (fun c9 => ?_)
    · skip
      have c9 := iI_leT (a := ((n : Nat) : Int)) (b := ((k : Nat) : Int)) c9 (by omega)
      omega
    · skip
      have c9 := iI_leF (a := ((n : Nat) : Int)) (b := ((k : Nat) : Int)) c9 (by omega)
      refine lv_aload_n hx hb dX3_put_12 rfl (lv_at hl 0 rfl) ?_
      refine va_get (D := D) (ci := 3) (v := .ref a) (C := RX3) (T := TX3) (N := 2) hx hb hts hi_X3 hown hK hP 0 rfl rfl 0 (by decide) fl15 (fun _ h9 => h9) rfl dX3_put_13 ?_
      refine lv_iload_n hx hb dX3_put_16 rfl (lv_at hl 1 rfl) ?_
      refine lv_iload_n hx hb dX3_put_17 rfl (lv_at hl 2 rfl) ?_
      refine k_iast hx hb hK hP hD hS 1 0 rfl rfl k (by omega) dX3_put_18 (fun H locs hP hD hS => ?_)
      have hP : va_P D vwCl [(h, .inr (3, [.ref a, .int (iI ((n : Nat) : Int))])), (a, .inl (cI, M, .inl (upd f k (x))))] H := hP
      have hD : va_D A [(h, .inr (3, [.ref a, .int (iI ((n : Nat) : Int))])), (a, .inl (cI, M, .inl (upd f k (x))))] := hD
      exact k_vret () hx hb hr hlocks hK hP hD hS [0, 1] (by decide) rfl rfl (trivial) hAe hQ dX3_put_19

abbrev rm_c_Row_clear : Room := { frames := 0, cells := 0, slots := 0, locals := 0 }
set_option maxHeartbeats 4000000 in
set_option maxRecDepth 100000 in
theorem c_Row_clear (l : Launch) (D : va_G) (cI cZ : ClassId) (h : Nat) (a : Nat) (M : Nat) (n : Nat) (f : Nat → Int32)  : MV l yX3_clear wsX3_clear rm_c_Row_clear D (kT cI cZ) [.ref h] [(h, .inr (3, [.ref a, .int (iI ((n : Nat) : Int))])), (a, .inl (cI, M, .inl f))] (fun (_ : Unit) => True) (fun (u : Unit) => match u with | _ => [(h, .inr (3, [.ref a, .int (iI ((0 : Nat) : Int))])), (a, .inl (cI, M, .inl f))]) 0 0 := by
  intro sz
  refine k_of (cc := cX3_clear) (maxL := 1) (ret := none) (by decide) rfl (Nat.le_of_ble_eq_true rfl) ?_
  intro p e s m args below meth c A Q hAe hQ hx hb hr hml hts hown hlocks hnm hP hK hD hS hA ls hl
  have hl : lv_has ls 1 [(0, .ref h)] := hl
  have hi_X3 : ∀ w ∈ u_ws RX3 TX3 2, w ∈ wsX3_clear := fun w h => km (ikX3 w h)
  have fl21 := hts _ (km wm63)
  refine lv_aload_n hx hb dX3_clear_0 rfl (lv_at hl 0 rfl) ?_
  refine lv_iconst (v := iI ((0 : Nat) : Int)) hx hb dX3_clear_1 rfl ?_
  refine va_put (D := D) (ci := 3) (v := .int (iI ((0 : Nat) : Int))) (ty := .int) (C := RX3) (T := TX3) (N := 2) hx hb hts hi_X3 tyX3 tyX3_ok nmX3 hown hK hP hD hS 0 rfl rfl 1 (by decide) fl21 (fun _ h9 => h9) rfl (by decide +kernel) rfl rfl (Nat.le_of_ble_eq_true rfl) dX3_clear_2 (fun H locs hP hD hS => ?_)
  have hP : va_P D vwCl [(h, .inr (3, [.ref a, .int (iI ((0 : Nat) : Int))])), (a, .inl (cI, M, .inl f))] H := hP
  have hD : va_D A [(h, .inr (3, [.ref a, .int (iI ((0 : Nat) : Int))])), (a, .inl (cI, M, .inl f))] := hD
  exact k_vret () hx hb hr hlocks hK hP hD hS [0, 1] (by decide) rfl rfl (trivial) hAe hQ dX3_clear_5

abbrev rm_c_Row_setCount : Room := { frames := 1, cells := 0, slots := 0, locals := 17 }
set_option maxHeartbeats 4000000 in
set_option maxRecDepth 100000 in
theorem c_Row_setCount (l : Launch) (D : va_G) (cI cZ : ClassId) (h : Nat) (a : Nat) (M : Nat) (n : Nat) (f : Nat → Int32) (k : Nat) (hM : M ≤ 900) (hk : k ≤ M) : MV l yX3_setCount wsX3_setCount rm_c_Row_setCount D (kT cI cZ) [.ref h, .int (iI ((k : Nat) : Int))] [(h, .inr (3, [.ref a, .int (iI ((n : Nat) : Int))])), (a, .inl (cI, M, .inl f))] (fun (_ : Unit) => True) (fun (u : Unit) => match u with | _ => [(h, .inr (3, [.ref a, .int (iI ((k : Nat) : Int))])), (a, .inl (cI, M, .inl f))]) 0 0 := by
  intro sz
  refine k_of (cc := cX3_setCount) (maxL := 2) (ret := none) (by decide) rfl (Nat.le_of_ble_eq_true rfl) ?_
  intro p e s m args below meth c A Q hAe hQ hx hb hr hml hts hown hlocks hnm hP hK hD hS hA ls hl
  have hl : lv_has ls 2 [(0, .ref h), (1, .int (iI ((k : Nat) : Int)))] := hl
  have hi_X3 : ∀ w ∈ u_ws RX3 TX3 2, w ∈ wsX3_setCount := fun w h => km (ikX3 w h)
  have fl15 := hts _ (km wm62)
  have fl21 := hts _ (km wm63)
  refine lv_aload_n hx hb dX3_setCount_0 rfl (lv_at hl 0 rfl) ?_
  refine lv_iconst (v := iI (0 : Int)) hx hb dX3_setCount_1 rfl ?_
  refine lv_iload_n hx hb dX3_setCount_2 rfl (lv_at hl 1 rfl) ?_
  refine lv_aload_n hx hb dX3_setCount_3 rfl (lv_at hl 0 rfl) ?_
  refine va_get (D := D) (ci := 3) (v := .ref a) (C := RX3) (T := TX3) (N := 2) hx hb hts hi_X3 hown hK hP 0 rfl rfl 0 (by decide) fl15 (fun _ h9 => h9) rfl dX3_setCount_4 ?_
  refine k_alen hx hb hK hP 1 0 rfl rfl dX3_setCount_7 ?_
  refine va_mmin hx hb (by rw [hml]; exact hl.1.symm) hown (hts _ (km wm221)) (hts _ (km wm222)) (hts _ (km wm40)) (hts _ (km wm223)) (Nat.le_of_ble_eq_true rfl) (Nat.le_of_ble_eq_true rfl) (Nat.zero_le _) (Nat.zero_le _) dX3_setCount_8 ?_
  refine kn_i (imin (c := ((k : Nat) : Int)) (by omega) (by omega)) ?_
  refine va_mmax hx hb (by rw [hml]; exact hl.1.symm) hown (hts _ (km wm59)) (hts _ (km wm60)) (hts _ (km wm40)) (hts _ (km wm61)) (Nat.le_of_ble_eq_true rfl) (Nat.le_of_ble_eq_true rfl) (Nat.zero_le _) (Nat.zero_le _) dX3_setCount_11 ?_
  refine kn_i (imax (c := ((k : Nat) : Int)) (by omega) (by omega)) ?_
  refine va_put (D := D) (ci := 3) (v := .int (iI ((k : Nat) : Int))) (ty := .int) (C := RX3) (T := TX3) (N := 2) hx hb hts hi_X3 tyX3 tyX3_ok nmX3 hown hK hP hD hS 0 rfl rfl 1 (by decide) fl21 (fun _ h9 => h9) rfl (by decide +kernel) rfl rfl (Nat.le_of_ble_eq_true rfl) dX3_setCount_14 (fun H locs hP hD hS => ?_)
  have hP : va_P D vwCl [(h, .inr (3, [.ref a, .int (iI ((k : Nat) : Int))])), (a, .inl (cI, M, .inl f))] H := hP
  have hD : va_D A [(h, .inr (3, [.ref a, .int (iI ((k : Nat) : Int))])), (a, .inl (cI, M, .inl f))] := hD
  exact k_vret () hx hb hr hlocks hK hP hD hS [0, 1] (by decide) rfl rfl (trivial) hAe hQ dX3_setCount_17

abbrev rm_c_Row_add : Room := { frames := 0, cells := 0, slots := 0, locals := 0 }
set_option maxHeartbeats 4000000 in
set_option maxRecDepth 100000 in
theorem c_Row_add (l : Launch) (D : va_G) (cI cZ : ClassId) (h : Nat) (a : Nat) (M : Nat) (n : Nat) (f : Nat → Int32) (x : Int32) (hM : M ≤ 900) (hn : n < M) : MV l yX3_add wsX3_add rm_c_Row_add D (kT cI cZ) [.ref h, .int x] [(h, .inr (3, [.ref a, .int (iI ((n : Nat) : Int))])), (a, .inl (cI, M, .inl f))] (fun (_ : Unit) => True) (fun (u : Unit) => match u with | _ => [(h, .inr (3, [.ref a, .int (iI ((n + 1 : Nat) : Int))])), (a, .inl (cI, M, .inl (apL f n [x])))]) 0 0 := by
  intro sz
  refine k_of (cc := cX3_add) (maxL := 2) (ret := none) (by decide) rfl (Nat.le_of_ble_eq_true rfl) ?_
  intro p e s m args below meth c A Q hAe hQ hx hb hr hml hts hown hlocks hnm hP hK hD hS hA ls hl
  have hl : lv_has ls 2 [(0, .ref h), (1, .int x)] := hl
  have hi_X3 : ∀ w ∈ u_ws RX3 TX3 2, w ∈ wsX3_add := fun w h => km (ikX3 w h)
  have fl21 := hts _ (km wm63)
  have fl15 := hts _ (km wm62)
  refine lv_aload_n hx hb dX3_add_0 rfl (lv_at hl 0 rfl) ?_
  refine va_get (D := D) (ci := 3) (v := .int (iI ((n : Nat) : Int))) (C := RX3) (T := TX3) (N := 2) hx hb hts hi_X3 hown hK hP 0 rfl rfl 1 (by decide) fl21 (fun _ h9 => h9) rfl dX3_add_1 ?_
  refine lv_aload_n hx hb dX3_add_4 rfl (lv_at hl 0 rfl) ?_
  refine va_get (D := D) (ci := 3) (v := .ref a) (C := RX3) (T := TX3) (N := 2) hx hb hts hi_X3 hown hK hP 0 rfl rfl 0 (by decide) fl15 (fun _ h9 => h9) rfl dX3_add_5 ?_
  refine k_alen hx hb hK hP 1 0 rfl rfl dX3_add_8 ?_
  refine lv_icmp_ge (tgt := 32) hx hb dX3_add_9 (by decide) (fun c9 => ?_) (fun c9 => ?_)
  · skip
    have c9 := iI_leT (a := ((M : Nat) : Int)) (b := ((n : Nat) : Int)) c9 (by omega)
    omega
  · skip
    have c9 := iI_leF (a := ((M : Nat) : Int)) (b := ((n : Nat) : Int)) c9 (by omega)
    refine lv_aload_n hx hb dX3_add_12 rfl (lv_at hl 0 rfl) ?_
    refine va_get (D := D) (ci := 3) (v := .ref a) (C := RX3) (T := TX3) (N := 2) hx hb hts hi_X3 hown hK hP 0 rfl rfl 0 (by decide) fl15 (fun _ h9 => h9) rfl dX3_add_13 ?_
    refine lv_aload_n hx hb dX3_add_16 rfl (lv_at hl 0 rfl) ?_
    refine va_get (D := D) (ci := 3) (v := .int (iI ((n : Nat) : Int))) (C := RX3) (T := TX3) (N := 2) hx hb hts hi_X3 hown hK hP 0 rfl rfl 1 (by decide) fl21 (fun _ h9 => h9) rfl dX3_add_17 ?_
    refine lv_iload_n hx hb dX3_add_20 rfl (lv_at hl 1 rfl) ?_
    refine k_iast hx hb hK hP hD hS 1 0 rfl rfl n (by omega) dX3_add_21 (fun H locs hP hD hS => ?_)
    have hP : va_P D vwCl [(h, .inr (3, [.ref a, .int (iI ((n : Nat) : Int))])), (a, .inl (cI, M, .inl (upd f n (x))))] H := hP
    have hD : va_D A [(h, .inr (3, [.ref a, .int (iI ((n : Nat) : Int))])), (a, .inl (cI, M, .inl (upd f n (x))))] := hD
    rw [show (upd f n (x)) = (apL f n [x]) from apL_one f n x] at hP hD
    refine lv_aload_n hx hb dX3_add_22 rfl (lv_at hl 0 rfl) ?_
    refine lv_dup hx hb dX3_add_23 rfl ?_
    refine va_get (D := D) (ci := 3) (v := .int (iI ((n : Nat) : Int))) (C := RX3) (T := TX3) (N := 2) hx hb hts hi_X3 hown hK hP 0 rfl rfl 1 (by decide) fl21 (fun _ h9 => h9) rfl dX3_add_24 ?_
    refine lv_iconst (v := iI (1 : Int)) hx hb dX3_add_27 rfl ?_
    refine lv_iadd hx hb dX3_add_28 ?_
    refine kn_i (iA (c := ((n + 1 : Nat) : Int)) (by omega)) ?_
    refine va_put (D := D) (ci := 3) (v := .int (iI ((n + 1 : Nat) : Int))) (ty := .int) (C := RX3) (T := TX3) (N := 2) hx hb hts hi_X3 tyX3 tyX3_ok nmX3 hown hK hP hD hS 0 rfl rfl 1 (by decide) fl21 (fun _ h9 => h9) rfl (by decide +kernel) rfl rfl (Nat.le_of_ble_eq_true rfl) dX3_add_29 (fun H locs hP hD hS => ?_)
    have hP : va_P D vwCl [(h, .inr (3, [.ref a, .int (iI ((n + 1 : Nat) : Int))])), (a, .inl (cI, M, .inl (apL f n [x])))] H := hP
    have hD : va_D A [(h, .inr (3, [.ref a, .int (iI ((n + 1 : Nat) : Int))])), (a, .inl (cI, M, .inl (apL f n [x])))] := hD
    exact k_vret () hx hb hr hlocks hK hP hD hS [0, 1] (by decide) rfl rfl (trivial) hAe hQ dX3_add_32

abbrev rm_c_Row_addFrom : Room := { frames := 1, cells := 0, slots := 0, locals := 21 }
set_option maxHeartbeats 4000000 in
set_option maxRecDepth 100000 in
theorem c_Row_addFrom (l : Launch) (D : va_G) (cI cZ : ClassId) (h : Nat) (a : Nat) (M : Nat) (n : Nat) (f : Nat → Int32) (h2 : Nat) (a2 : Nat) (M2 : Nat) (n2 : Nat) (g : Nat → Int32) (st : Nat) (k : Nat) (hM : M ≤ 900) (hM2 : M2 ≤ 900) (hn2 : n2 ≤ M2) (hst : st + k ≤ n2) (hk : n + k ≤ M) : MV l yX3_addFrom wsX3_addFrom rm_c_Row_addFrom D (kT cI cZ) [.ref h, .ref h2, .int (iI ((st : Nat) : Int)), .int (iI ((k : Nat) : Int))] [(h, .inr (3, [.ref a, .int (iI ((n : Nat) : Int))])), (a, .inl (cI, M, .inl f)), (h2, .inr (3, [.ref a2, .int (iI ((n2 : Nat) : Int))])), (a2, .inl (cI, M2, .inl g))] (fun (_ : Unit) => True) (fun (u : Unit) => match u with | _ => [(h, .inr (3, [.ref a, .int (iI ((n + k : Nat) : Int))])), (a, .inl (cI, M, .inl (apL f n (sl g st k)))), (h2, .inr (3, [.ref a2, .int (iI ((n2 : Nat) : Int))])), (a2, .inl (cI, M2, .inl g))]) 0 0 := by
  intro sz
  refine k_of (cc := cX3_addFrom) (maxL := 6) (ret := none) (by decide) rfl (Nat.le_of_ble_eq_true rfl) ?_
  intro p e s m args below meth c A Q hAe hQ hx hb hr hml hts hown hlocks hnm hP hK hD hS hA ls hl
  have hl : lv_has ls 6 [(0, .ref h), (1, .ref h2), (2, .int (iI ((st : Nat) : Int))), (3, .int (iI ((k : Nat) : Int)))] := hl
  refine lv_iload_n hx hb dX3_addFrom_0 rfl (lv_at hl 3 rfl) ?_
  refine lv_aload_n hx hb dX3_addFrom_1 rfl (lv_at hl 1 rfl) ?_
  refine k_calli (wc := [(h2, .inr (3, [.ref a2, .int (iI ((n2 : Nat) : Int))])), (a2, .inl (cI, M2, .inl g))]) (wr := [(h, .inr (3, [.ref a, .int (iI ((n : Nat) : Int))])), (a, .inl (cI, M, .inl f))]) (wf := fun _ => [(h, .inr (3, [.ref a, .int (iI ((n : Nat) : Int))])), (a, .inl (cI, M, .inl f)), (h2, .inr (3, [.ref a2, .int (iI ((n2 : Nat) : Int))])), (a2, .inl (cI, M2, .inl g))]) hK hP hD hS hA [2, 3] [0, 1] [0, 1, 2, 3] ⟨⟨rfl, rfl, by decide⟩, rfl, by decide, by decide⟩ (fun _ => ⟨rfl, rfl⟩) (by decide) (fun hPc hDc => va_runV (As := []) (rest := [.int (iI ((k : Nat) : Int))]) ⟨hx, hb, hml, hown, hts⟩ (c_Row_count l D cI cZ (h := h2) (a := a2) (M := M2) (n := n2) (f := g)  _) (cwV 0 hts (kgV wm216 wm193 wm194 wm39 wmcX3_count) rfl rfl rfl (by decide +kernel) ⟨Nat.le_of_ble_eq_true rfl, Nat.le_of_ble_eq_true rfl⟩) (k_preV hK hPc hDc (ci := 3) (q0 := 0) rfl rfl) rfl rfl hl.1 rfl (lv_room (Nat.le_of_ble_eq_true rfl)) dX3_addFrom_2 ⟨Nat.le_of_ble_eq_true rfl, Nat.le_of_ble_eq_true rfl⟩) (fun r2 u H locs hw hP hD hS => ?_)
  have hP : va_P D vwCl [(h, .inr (3, [.ref a, .int (iI ((n : Nat) : Int))])), (a, .inl (cI, M, .inl f)), (h2, .inr (3, [.ref a2, .int (iI ((n2 : Nat) : Int))])), (a2, .inl (cI, M2, .inl g))] H := hP
  have hD : va_D A [(h, .inr (3, [.ref a, .int (iI ((n : Nat) : Int))])), (a, .inl (cI, M, .inl f)), (h2, .inr (3, [.ref a2, .int (iI ((n2 : Nat) : Int))])), (a2, .inl (cI, M2, .inl g))] := hD
  refine W.widen (k := 0) (n := 0) (Nat.le_of_ble_eq_true rfl) (Nat.le_of_ble_eq_true rfl) ?_
  have hw : r2 = iI ((n2 : Nat) : Int) := hw
  subst hw
  refine lv_iload_n hx hb dX3_addFrom_5 rfl (lv_at hl 2 rfl) ?_
  refine lv_isub hx hb dX3_addFrom_6 ?_
  refine kn_i (iB (c := (((n2 : Nat) : Int) - ((st : Nat) : Int) : Int)) (by omega)) ?_
  refine va_mmin hx hb (by rw [hml]; exact hl.1.symm) hown (hts _ (km wm221)) (hts _ (km wm222)) (hts _ (km wm40)) (hts _ (km wm223)) (Nat.le_of_ble_eq_true rfl) (Nat.le_of_ble_eq_true rfl) (Nat.zero_le _) (Nat.zero_le _) dX3_addFrom_7 ?_
  refine kn_i (imin (c := ((k : Nat) : Int)) (by omega) (by omega)) ?_
  refine lv_istore (lv' := [(4, .int (iI ((k : Nat) : Int))), (0, .ref h), (1, .ref h2), (2, .int (iI ((st : Nat) : Int))), (3, .int (iI ((k : Nat) : Int)))]) hx hb dX3_addFrom_10 hl (by decide) rfl (fun ls hl => ?_)
  refine lv_iconst (v := iI ((0 : Nat) : Int)) hx hb dX3_addFrom_12 rfl ?_
  refine lv_istore (lv' := [(5, .int (iI ((0 : Nat) : Int))), (4, .int (iI ((k : Nat) : Int))), (0, .ref h), (1, .ref h2), (2, .int (iI ((st : Nat) : Int))), (3, .int (iI ((k : Nat) : Int)))]) hx hb dX3_addFrom_13 hl (by decide) rfl (fun ls hl => ?_)
  have lp15 : ∀ (fu : Nat) (i : Nat) (H : Heap) (locs : List Loc) (ls : Array Slot), k - i < fu → (i ≤ k) → va_P D vwCl [(h, .inr (3, [.ref a, .int (iI ((n + i : Nat) : Int))])), (a, .inl (cI, M, .inl (apL f n (sl g st i)))), (h2, .inr (3, [.ref a2, .int (iI ((n2 : Nat) : Int))])), (a2, .inl (cI, M2, .inl g))] H → va_D A [(h, .inr (3, [.ref a, .int (iI ((n + i : Nat) : Int))])), (a, .inl (cI, M, .inl (apL f n (sl g st i)))), (h2, .inr (3, [.ref a2, .int (iI ((n2 : Nat) : Int))])), (a2, .inl (cI, M2, .inl g))] → va_S A s.heap H locs → lv_has ls 6 [(0, .ref h), (1, .ref h2), (2, .int (iI ((st : Nat) : Int))), (4, .int (iI ((k : Nat) : Int))), (5, .int (iI ((i : Nat) : Int)))] → W p l e rm_c_Row_addFrom s m args below meth c H locs 0 0 Q (F0 m 15 ls []) := by
    intro fu
    induction fu with
    | zero => intro i H locs ls hfu; exact absurd hfu (Nat.not_lt_zero _)
    | succ fu ih15 =>
      intro i H locs ls hfu hi hP hD hS hl
      refine lv_iload hx hb dX3_addFrom_15 (lv_at hl 4 rfl) ?_
      refine lv_iload hx hb dX3_addFrom_17 (lv_at hl 3 rfl) ?_
      refine lv_icmp_ge (tgt := 40) hx hb dX3_addFrom_19 (by decide) (fun c19 => ?_) (fun c19 => ?_)
      · skip
        have c19 := iI_leT (a := ((k : Nat) : Int)) (b := ((i : Nat) : Int)) c19 (by omega)
        obtain rfl : i = k := by omega
        exact k_vret () hx hb hr hlocks hK hP hD hS [0, 1, 2, 3] (by decide) rfl rfl (trivial) hAe hQ dX3_addFrom_40
      · skip
        have c19 := iI_leF (a := ((k : Nat) : Int)) (b := ((i : Nat) : Int)) c19 (by omega)
        refine lv_aload_n hx hb dX3_addFrom_22 rfl (lv_at hl 0 rfl) ?_
        refine lv_aload_n hx hb dX3_addFrom_23 rfl (lv_at hl 1 rfl) ?_
        refine lv_iload_n hx hb dX3_addFrom_24 rfl (lv_at hl 2 rfl) ?_
        refine lv_iload hx hb dX3_addFrom_25 (lv_at hl 4 rfl) ?_
        refine lv_iadd hx hb dX3_addFrom_27 ?_
        refine kn_i (iA (c := (((st + i) : Nat) : Int)) (by omega)) ?_
        refine k_calli (wc := [(h2, .inr (3, [.ref a2, .int (iI ((n2 : Nat) : Int))])), (a2, .inl (cI, M2, .inl g))]) (wr := [(h, .inr (3, [.ref a, .int (iI ((n + i : Nat) : Int))])), (a, .inl (cI, M, .inl (apL f n (sl g st i))))]) (wf := fun _ => [(h, .inr (3, [.ref a, .int (iI ((n + i : Nat) : Int))])), (a, .inl (cI, M, .inl (apL f n (sl g st i)))), (h2, .inr (3, [.ref a2, .int (iI ((n2 : Nat) : Int))])), (a2, .inl (cI, M2, .inl g))]) hK hP hD hS hA [2, 3] [0, 1] [0, 1, 2, 3] ⟨⟨rfl, rfl, by decide⟩, rfl, by decide, by decide⟩ (fun _ => ⟨rfl, rfl⟩) (by decide) (fun hPc hDc => va_runV (As := [.int (iI (((st + i) : Nat) : Int))]) (rest := [.ref h]) ⟨hx, hb, hml, hown, hts⟩ (c_Row_atk l D cI cZ (h := h2) (a := a2) (M := M2) (n := n2) (f := g) (k := (st + i)) (hM := by omega) (hn := by omega) (hk := by omega) _) (cwV 1 hts (kgV wm224 wm225 wm226 wm39 wmcX3_at) rfl rfl rfl (by decide +kernel) ⟨Nat.le_of_ble_eq_true rfl, Nat.le_of_ble_eq_true rfl⟩) (k_preV hK hPc hDc (ci := 3) (q0 := 0) rfl rfl) rfl rfl hl.1 rfl (lv_room (Nat.le_of_ble_eq_true rfl)) dX3_addFrom_28 ⟨Nat.le_of_ble_eq_true rfl, Nat.le_of_ble_eq_true rfl⟩) (fun r28 u H locs hw hP hD hS => ?_)
        have hP : va_P D vwCl [(h, .inr (3, [.ref a, .int (iI ((n + i : Nat) : Int))])), (a, .inl (cI, M, .inl (apL f n (sl g st i)))), (h2, .inr (3, [.ref a2, .int (iI ((n2 : Nat) : Int))])), (a2, .inl (cI, M2, .inl g))] H := hP
        have hD : va_D A [(h, .inr (3, [.ref a, .int (iI ((n + i : Nat) : Int))])), (a, .inl (cI, M, .inl (apL f n (sl g st i)))), (h2, .inr (3, [.ref a2, .int (iI ((n2 : Nat) : Int))])), (a2, .inl (cI, M2, .inl g))] := hD
        refine W.widen (k := 0) (n := 0) (Nat.le_of_ble_eq_true rfl) (Nat.le_of_ble_eq_true rfl) ?_
        have hw : r28 = (g (st + i)) := hw
        subst hw
        refine k_callv (wc := [(h, .inr (3, [.ref a, .int (iI ((n + i : Nat) : Int))])), (a, .inl (cI, M, .inl (apL f n (sl g st i))))]) (wr := [(h2, .inr (3, [.ref a2, .int (iI ((n2 : Nat) : Int))])), (a2, .inl (cI, M2, .inl g))]) (wf := fun _ => [(h, .inr (3, [.ref a, .int (iI (((n + i) + 1 : Nat) : Int))])), (a, .inl (cI, M, .inl (apL (apL f n (sl g st i)) (n + i) [(g (st + i))]))), (h2, .inr (3, [.ref a2, .int (iI ((n2 : Nat) : Int))])), (a2, .inl (cI, M2, .inl g))]) hK hP hD hS hA [0, 1] [2, 3] [2, 3, 0, 1] ⟨⟨rfl, rfl, by decide⟩, rfl, by decide, by decide⟩ (fun _ => ⟨rfl, rfl⟩) (by decide) (fun hPc hDc => va_runV (As := [.int (g (st + i))]) (rest := []) ⟨hx, hb, hml, hown, hts⟩ (c_Row_add l D cI cZ (h := h) (a := a) (M := M) (n := n + i) (f := (apL f n (sl g st i))) (x := (g (st + i))) (hM := by omega) (hn := by omega) _) (cwV 1 hts (kgV wm228 wm197 wm198 wm39 wmcX3_add) rfl rfl rfl (by decide +kernel) ⟨Nat.le_of_ble_eq_true rfl, Nat.le_of_ble_eq_true rfl⟩) (k_preV hK hPc hDc (ci := 3) (q0 := 0) rfl rfl) rfl rfl hl.1 rfl (lv_room (Nat.le_of_ble_eq_true rfl)) dX3_addFrom_31 ⟨Nat.le_of_ble_eq_true rfl, Nat.le_of_ble_eq_true rfl⟩) (fun u H locs hw hP hD hS => ?_)
        have hP : va_P D vwCl [(h, .inr (3, [.ref a, .int (iI (((n + i) + 1 : Nat) : Int))])), (a, .inl (cI, M, .inl (apL (apL f n (sl g st i)) (n + i) [(g (st + i))]))), (h2, .inr (3, [.ref a2, .int (iI ((n2 : Nat) : Int))])), (a2, .inl (cI, M2, .inl g))] H := hP
        have hD : va_D A [(h, .inr (3, [.ref a, .int (iI (((n + i) + 1 : Nat) : Int))])), (a, .inl (cI, M, .inl (apL (apL f n (sl g st i)) (n + i) [(g (st + i))]))), (h2, .inr (3, [.ref a2, .int (iI ((n2 : Nat) : Int))])), (a2, .inl (cI, M2, .inl g))] := hD
        refine W.widen (k := 0) (n := 0) (Nat.le_of_ble_eq_true rfl) (Nat.le_of_ble_eq_true rfl) ?_
        rw [show (apL (apL f n (sl g st i)) (n + i) [(g (st + i))]) = (apL f n (sl g st (i + 1))) from apL_sl] at hP hD
        refine lv_iinc (v := iI ((i + 1 : Nat) : Int)) (lv' := [(5, .int (iI ((i + 1 : Nat) : Int))), (0, .ref h), (1, .ref h2), (2, .int (iI ((st : Nat) : Int))), (4, .int (iI ((k : Nat) : Int)))]) hx hb dX3_addFrom_34 hl (k := 4) rfl (iA (by omega)) (by decide) rfl (fun ls hl => ?_)
        refine lv_goto (tgt := 15) hx hb dX3_addFrom_37 (by decide) ?_
        exact ih15 (i + 1) _ _ _ (by omega) (by omega) hP hD hS (lv_sub hl [1, 2, 3, 4, 0] rfl)
  rw [show f = (apL f n (sl g st 0)) from (apL_nil f n).symm] at hP hD
  exact lp15 _ 0 _ _ _ (Nat.lt_succ_self _) (by omega) hP hD hS (lv_sub hl [2, 3, 4, 1, 0] rfl)

abbrev rm_c_Row_become : Room := { frames := 2, cells := 0, slots := 0, locals := 46 }
set_option maxHeartbeats 4000000 in
set_option maxRecDepth 100000 in
theorem c_Row_become (l : Launch) (D : va_G) (cI cZ : ClassId) (h : Nat) (a : Nat) (M : Nat) (n : Nat) (f : Nat → Int32) (h2 : Nat) (a2 : Nat) (M2 : Nat) (n2 : Nat) (g : Nat → Int32) (hM : M ≤ 900) (hM2 : M2 ≤ 900) (hn2 : n2 ≤ M2) (hk : n2 ≤ M) : MV l yX3_become wsX3_become rm_c_Row_become D (kT cI cZ) [.ref h, .ref h2] [(h, .inr (3, [.ref a, .int (iI ((n : Nat) : Int))])), (a, .inl (cI, M, .inl f)), (h2, .inr (3, [.ref a2, .int (iI ((n2 : Nat) : Int))])), (a2, .inl (cI, M2, .inl g))] (fun (_ : Unit) => True) (fun (u : Unit) => match u with | _ => [(h, .inr (3, [.ref a, .int (iI ((n2 : Nat) : Int))])), (a, .inl (cI, M, .inl (apL f 0 (sl g 0 n2)))), (h2, .inr (3, [.ref a2, .int (iI ((n2 : Nat) : Int))])), (a2, .inl (cI, M2, .inl g))]) 0 0 := by
  intro sz
  refine k_of (cc := cX3_become) (maxL := 2) (ret := none) (by decide) rfl (Nat.le_of_ble_eq_true rfl) ?_
  intro p e s m args below meth c A Q hAe hQ hx hb hr hml hts hown hlocks hnm hP hK hD hS hA ls hl
  have hl : lv_has ls 2 [(0, .ref h), (1, .ref h2)] := hl
  refine lv_aload_n hx hb dX3_become_0 rfl (lv_at hl 0 rfl) ?_
  refine k_callv (wc := [(h, .inr (3, [.ref a, .int (iI ((n : Nat) : Int))])), (a, .inl (cI, M, .inl f))]) (wr := [(h2, .inr (3, [.ref a2, .int (iI ((n2 : Nat) : Int))])), (a2, .inl (cI, M2, .inl g))]) (wf := fun _ => [(h, .inr (3, [.ref a, .int (iI ((0 : Nat) : Int))])), (a, .inl (cI, M, .inl f)), (h2, .inr (3, [.ref a2, .int (iI ((n2 : Nat) : Int))])), (a2, .inl (cI, M2, .inl g))]) hK hP hD hS hA [0, 1] [2, 3] [2, 3, 0, 1] ⟨⟨rfl, rfl, by decide⟩, rfl, by decide, by decide⟩ (fun _ => ⟨rfl, rfl⟩) (by decide) (fun hPc hDc => va_runV (As := []) (rest := []) ⟨hx, hb, hml, hown, hts⟩ (c_Row_clear l D cI cZ (h := h) (a := a) (M := M) (n := n) (f := f)  _) (cwV 0 hts (kgV wm212 wm213 wm214 wm39 wmcX3_clear) rfl rfl rfl (by decide +kernel) ⟨Nat.le_of_ble_eq_true rfl, Nat.le_of_ble_eq_true rfl⟩) (k_preV hK hPc hDc (ci := 3) (q0 := 0) rfl rfl) rfl rfl hl.1 rfl (lv_room (Nat.le_of_ble_eq_true rfl)) dX3_become_1 ⟨Nat.le_of_ble_eq_true rfl, Nat.le_of_ble_eq_true rfl⟩) (fun u H locs hw hP hD hS => ?_)
  have hP : va_P D vwCl [(h, .inr (3, [.ref a, .int (iI ((0 : Nat) : Int))])), (a, .inl (cI, M, .inl f)), (h2, .inr (3, [.ref a2, .int (iI ((n2 : Nat) : Int))])), (a2, .inl (cI, M2, .inl g))] H := hP
  have hD : va_D A [(h, .inr (3, [.ref a, .int (iI ((0 : Nat) : Int))])), (a, .inl (cI, M, .inl f)), (h2, .inr (3, [.ref a2, .int (iI ((n2 : Nat) : Int))])), (a2, .inl (cI, M2, .inl g))] := hD
  refine W.widen (k := 0) (n := 0) (Nat.le_of_ble_eq_true rfl) (Nat.le_of_ble_eq_true rfl) ?_
  refine lv_aload_n hx hb dX3_become_4 rfl (lv_at hl 0 rfl) ?_
  refine lv_aload_n hx hb dX3_become_5 rfl (lv_at hl 1 rfl) ?_
  refine lv_iconst (v := iI ((0 : Nat) : Int)) hx hb dX3_become_6 rfl ?_
  refine lv_aload_n hx hb dX3_become_7 rfl (lv_at hl 1 rfl) ?_
  refine k_calli (wc := [(h2, .inr (3, [.ref a2, .int (iI ((n2 : Nat) : Int))])), (a2, .inl (cI, M2, .inl g))]) (wr := [(h, .inr (3, [.ref a, .int (iI ((0 : Nat) : Int))])), (a, .inl (cI, M, .inl f))]) (wf := fun _ => [(h, .inr (3, [.ref a, .int (iI ((0 : Nat) : Int))])), (a, .inl (cI, M, .inl f)), (h2, .inr (3, [.ref a2, .int (iI ((n2 : Nat) : Int))])), (a2, .inl (cI, M2, .inl g))]) hK hP hD hS hA [2, 3] [0, 1] [0, 1, 2, 3] ⟨⟨rfl, rfl, by decide⟩, rfl, by decide, by decide⟩ (fun _ => ⟨rfl, rfl⟩) (by decide) (fun hPc hDc => va_runV (As := []) (rest := [.int (iI ((0 : Nat) : Int)), .ref h2, .ref h]) ⟨hx, hb, hml, hown, hts⟩ (c_Row_count l D cI cZ (h := h2) (a := a2) (M := M2) (n := n2) (f := g)  _) (cwV 0 hts (kgV wm216 wm193 wm194 wm39 wmcX3_count) rfl rfl rfl (by decide +kernel) ⟨Nat.le_of_ble_eq_true rfl, Nat.le_of_ble_eq_true rfl⟩) (k_preV hK hPc hDc (ci := 3) (q0 := 0) rfl rfl) rfl rfl hl.1 rfl (lv_room (Nat.le_of_ble_eq_true rfl)) dX3_become_8 ⟨Nat.le_of_ble_eq_true rfl, Nat.le_of_ble_eq_true rfl⟩) (fun r8 u H locs hw hP hD hS => ?_)
  have hP : va_P D vwCl [(h, .inr (3, [.ref a, .int (iI ((0 : Nat) : Int))])), (a, .inl (cI, M, .inl f)), (h2, .inr (3, [.ref a2, .int (iI ((n2 : Nat) : Int))])), (a2, .inl (cI, M2, .inl g))] H := hP
  have hD : va_D A [(h, .inr (3, [.ref a, .int (iI ((0 : Nat) : Int))])), (a, .inl (cI, M, .inl f)), (h2, .inr (3, [.ref a2, .int (iI ((n2 : Nat) : Int))])), (a2, .inl (cI, M2, .inl g))] := hD
  refine W.widen (k := 0) (n := 0) (Nat.le_of_ble_eq_true rfl) (Nat.le_of_ble_eq_true rfl) ?_
  have hw : r8 = iI ((n2 : Nat) : Int) := hw
  subst hw
  refine k_callv (wc := [(h, .inr (3, [.ref a, .int (iI ((0 : Nat) : Int))])), (a, .inl (cI, M, .inl f)), (h2, .inr (3, [.ref a2, .int (iI ((n2 : Nat) : Int))])), (a2, .inl (cI, M2, .inl g))]) (wr := []) (wf := fun _ => [(h, .inr (3, [.ref a, .int (iI ((0 + n2 : Nat) : Int))])), (a, .inl (cI, M, .inl (apL f 0 (sl g 0 n2)))), (h2, .inr (3, [.ref a2, .int (iI ((n2 : Nat) : Int))])), (a2, .inl (cI, M2, .inl g))]) hK hP hD hS hA [0, 1, 2, 3] [] [0, 1, 2, 3] ⟨⟨rfl, rfl, by decide⟩, rfl, by decide, by decide⟩ (fun _ => ⟨rfl, rfl⟩) (by decide) (fun hPc hDc => va_runV (As := [.ref h2, .int (iI ((0 : Nat) : Int)), .int (iI ((n2 : Nat) : Int))]) (rest := []) ⟨hx, hb, hml, hown, hts⟩ (c_Row_addFrom l D cI cZ (h := h) (a := a) (M := M) (n := 0) (f := f) (h2 := h2) (a2 := a2) (M2 := M2) (n2 := n2) (g := g) (st := 0) (k := n2) (hM := by omega) (hM2 := by omega) (hn2 := by omega) (hst := by omega) (hk := by omega) _) (cwV 3 hts (kgV wm217 wm218 wm219 wm39 wmcX3_addFrom) rfl rfl rfl (by decide +kernel) ⟨Nat.le_of_ble_eq_true rfl, Nat.le_of_ble_eq_true rfl⟩) (k_preV hK hPc hDc (ci := 3) (q0 := 0) rfl rfl) rfl rfl hl.1 rfl (lv_room (Nat.le_of_ble_eq_true rfl)) dX3_become_11 ⟨Nat.le_of_ble_eq_true rfl, Nat.le_of_ble_eq_true rfl⟩) (fun u H locs hw hP hD hS => ?_)
  have hP : va_P D vwCl [(h, .inr (3, [.ref a, .int (iI ((0 + n2 : Nat) : Int))])), (a, .inl (cI, M, .inl (apL f 0 (sl g 0 n2)))), (h2, .inr (3, [.ref a2, .int (iI ((n2 : Nat) : Int))])), (a2, .inl (cI, M2, .inl g))] H := hP
  have hD : va_D A [(h, .inr (3, [.ref a, .int (iI ((0 + n2 : Nat) : Int))])), (a, .inl (cI, M, .inl (apL f 0 (sl g 0 n2)))), (h2, .inr (3, [.ref a2, .int (iI ((n2 : Nat) : Int))])), (a2, .inl (cI, M2, .inl g))] := hD
  refine W.widen (k := 0) (n := 0) (Nat.le_of_ble_eq_true rfl) (Nat.le_of_ble_eq_true rfl) ?_
  rw [show iI ((0 + n2 : Nat) : Int) = iI ((n2 : Nat) : Int) from by rw [Nat.zero_add]] at hP hD
  exact k_vret () hx hb hr hlocks hK hP hD hS [0, 1, 2, 3] (by decide) rfl rfl (trivial) hAe hQ dX3_become_14
end
section
abbrev rm_c_Row_sameFrom : Room := { frames := 1, cells := 0, slots := 0, locals := 15 }
set_option maxHeartbeats 4000000 in
set_option maxRecDepth 100000 in
theorem c_Row_sameFrom (l : Launch) (D : va_G) (cI cZ : ClassId) (h : Nat) (a : Nat) (M : Nat) (n : Nat) (f : Nat → Int32) (h2 : Nat) (a2 : Nat) (M2 : Nat) (n2 : Nat) (g : Nat → Int32) (i : Nat) (j : Nat) (hM : M ≤ 900) (hn : n ≤ M) (hM2 : M2 ≤ 900) (hn2 : n2 ≤ M2) (hi : i ≤ n) (hj : j ≤ n2) : MI l yX3_sameFrom wsX3_sameFrom rm_c_Row_sameFrom D (kT cI cZ) [.ref h, .int (iI ((i : Nat) : Int)), .ref h2, .int (iI ((j : Nat) : Int))] [(h, .inr (3, [.ref a, .int (iI ((n : Nat) : Int))])), (a, .inl (cI, M, .inl f)), (h2, .inr (3, [.ref a2, .int (iI ((n2 : Nat) : Int))])), (a2, .inl (cI, M2, .inl g))] (fun (r : Int32) (_ : Unit) => r = iI ((lcp f g i j (min (n - i) (n2 - j)) : Nat) : Int)) (fun (u : Unit) => match u with | _ => [(h, .inr (3, [.ref a, .int (iI ((n : Nat) : Int))])), (a, .inl (cI, M, .inl f)), (h2, .inr (3, [.ref a2, .int (iI ((n2 : Nat) : Int))])), (a2, .inl (cI, M2, .inl g))]) 0 0 := by
  intro sz
  refine k_of (cc := cX3_sameFrom) (maxL := 6) (ret := (some .int)) (by decide) rfl (Nat.le_of_ble_eq_true rfl) ?_
  intro p e s m args below meth c A Q hAe hQ hx hb hr hml hts hown hlocks hnm hP hK hD hS hA ls hl
  have hl : lv_has ls 6 [(0, .ref h), (1, .int (iI ((i : Nat) : Int))), (2, .ref h2), (3, .int (iI ((j : Nat) : Int)))] := hl
  have hi_X3 : ∀ w ∈ u_ws RX3 TX3 2, w ∈ wsX3_sameFrom := fun w h => km (ikX3 w h)
  have fl21 := hts _ (km wm63)
  have fl15 := hts _ (km wm62)
  refine lv_iload_n hx hb dX3_sameFrom_0 rfl (lv_at hl 1 rfl) ?_
  refine lv_if_lt (tgt := 8) hx hb dX3_sameFrom_1 (by decide) (fun c1 => ?_) (fun c1 => ?_)
  · skip
    have c1 := iI_ltT (a := ((i : Nat) : Int)) (b := (0 : Int)) c1 (by omega)
    omega
  · skip
    have c1 := iI_ltF (a := ((i : Nat) : Int)) (b := (0 : Int)) c1 (by omega)
    refine lv_iload_n hx hb dX3_sameFrom_4 rfl (lv_at hl 3 rfl) ?_
    refine lv_if_ge (tgt := 10) hx hb dX3_sameFrom_5 (by decide) (fun c5 => ?_) (fun c5 => ?_)
    · skip
      have c5 := iI_leT (a := (0 : Int)) (b := ((j : Nat) : Int)) c5 (by omega)
      refine lv_aload_n hx hb dX3_sameFrom_10 rfl (lv_at hl 0 rfl) ?_
      refine va_get (D := D) (ci := 3) (v := .int (iI ((n : Nat) : Int))) (C := RX3) (T := TX3) (N := 2) hx hb hts hi_X3 hown hK hP 0 rfl rfl 1 (by decide) fl21 (fun _ h9 => h9) rfl dX3_sameFrom_11 ?_
      refine lv_iload_n hx hb dX3_sameFrom_14 rfl (lv_at hl 1 rfl) ?_
      refine lv_isub hx hb dX3_sameFrom_15 ?_
      refine kn_i (iB (c := (((n - i) : Nat) : Int)) (by omega)) ?_
      refine lv_aload_n hx hb dX3_sameFrom_16 rfl (lv_at hl 2 rfl) ?_
      refine va_get (D := D) (ci := 3) (v := .int (iI ((n2 : Nat) : Int))) (C := RX3) (T := TX3) (N := 2) hx hb hts hi_X3 hown hK hP 2 rfl rfl 1 (by decide) fl21 (fun _ h9 => h9) rfl dX3_sameFrom_17 ?_
      refine lv_iload_n hx hb dX3_sameFrom_20 rfl (lv_at hl 3 rfl) ?_
      refine lv_isub hx hb dX3_sameFrom_21 ?_
      refine kn_i (iB (c := (((n2 - j) : Nat) : Int)) (by omega)) ?_
      refine va_mmin hx hb (by rw [hml]; exact hl.1.symm) hown (hts _ (km wm221)) (hts _ (km wm222)) (hts _ (km wm40)) (hts _ (km wm223)) (Nat.le_of_ble_eq_true rfl) (Nat.le_of_ble_eq_true rfl) (Nat.zero_le _) (Nat.zero_le _) dX3_sameFrom_22 ?_
      refine kn_i (imin (c := ((min (n - i) (n2 - j) : Nat) : Int)) (by omega) (by omega)) ?_
      refine lv_istore (lv' := [(4, .int (iI ((min (n - i) (n2 - j) : Nat) : Int))), (0, .ref h), (1, .int (iI ((i : Nat) : Int))), (2, .ref h2), (3, .int (iI ((j : Nat) : Int)))]) hx hb dX3_sameFrom_25 hl (by decide) rfl (fun ls hl => ?_)
      refine lv_iconst (v := iI ((0 : Nat) : Int)) hx hb dX3_sameFrom_27 rfl ?_
      refine lv_istore (lv' := [(5, .int (iI ((0 : Nat) : Int))), (4, .int (iI ((min (n - i) (n2 - j) : Nat) : Int))), (0, .ref h), (1, .int (iI ((i : Nat) : Int))), (2, .ref h2), (3, .int (iI ((j : Nat) : Int)))]) hx hb dX3_sameFrom_28 hl (by decide) rfl (fun ls hl => ?_)
      have lp30 : ∀ (fu : Nat) (t : Nat) (H : Heap) (locs : List Loc) (ls : Array Slot), min (n - i) (n2 - j) - t < fu → (t ≤ min (n - i) (n2 - j)) → (lcp f g i j (min (n - i) (n2 - j)) = t + lcp f g (i + t) (j + t) (min (n - i) (n2 - j) - t)) → va_P D vwCl [(h, .inr (3, [.ref a, .int (iI ((n : Nat) : Int))])), (a, .inl (cI, M, .inl f)), (h2, .inr (3, [.ref a2, .int (iI ((n2 : Nat) : Int))])), (a2, .inl (cI, M2, .inl g))] H → va_D A [(h, .inr (3, [.ref a, .int (iI ((n : Nat) : Int))])), (a, .inl (cI, M, .inl f)), (h2, .inr (3, [.ref a2, .int (iI ((n2 : Nat) : Int))])), (a2, .inl (cI, M2, .inl g))] → va_S A s.heap H locs → lv_has ls 6 [(0, .ref h), (1, .int (iI ((i : Nat) : Int))), (2, .ref h2), (3, .int (iI ((j : Nat) : Int))), (4, .int (iI ((min (n - i) (n2 - j) : Nat) : Int))), (5, .int (iI ((t : Nat) : Int)))] → W p l e rm_c_Row_sameFrom s m args below meth c H locs 0 0 Q (F0 m 30 ls []) := by
        intro fu
        induction fu with
        | zero => intro t H locs ls hfu; exact absurd hfu (Nat.not_lt_zero _)
        | succ fu ih30 =>
          intro t H locs ls hfu ht hI hP hD hS hl
          refine lv_iload hx hb dX3_sameFrom_30 (lv_at hl 5 rfl) ?_
          refine lv_iload hx hb dX3_sameFrom_32 (lv_at hl 4 rfl) ?_
          refine lv_icmp_ge (tgt := 64) hx hb dX3_sameFrom_34 (by decide) (fun c34 => ?_) (fun c34 => ?_)
          · skip
            have c34 := iI_leT (a := ((min (n - i) (n2 - j) : Nat) : Int)) (b := ((t : Nat) : Int)) c34 (by omega)
            refine lv_iload hx hb dX3_sameFrom_64 (lv_at hl 5 rfl) ?_
            exact k_iret () hx hb hr hlocks hK hP hD hS [0, 1, 2, 3] (by decide) rfl rfl (by rw [hI]; first | (rw [lcp_n c55]; rfl) | (rw [lcp_0 (by omega)]; rfl)) hAe hQ dX3_sameFrom_66
          · skip
            have c34 := iI_leF (a := ((min (n - i) (n2 - j) : Nat) : Int)) (b := ((t : Nat) : Int)) c34 (by omega)
            refine lv_aload_n hx hb dX3_sameFrom_37 rfl (lv_at hl 0 rfl) ?_
            refine va_get (D := D) (ci := 3) (v := .ref a) (C := RX3) (T := TX3) (N := 2) hx hb hts hi_X3 hown hK hP 0 rfl rfl 0 (by decide) fl15 (fun _ h9 => h9) rfl dX3_sameFrom_38 ?_
            refine lv_iload_n hx hb dX3_sameFrom_41 rfl (lv_at hl 1 rfl) ?_
            refine lv_iload hx hb dX3_sameFrom_42 (lv_at hl 5 rfl) ?_
            refine lv_iadd hx hb dX3_sameFrom_44 ?_
            refine kn_i (iA (c := (((i + t) : Nat) : Int)) (by omega)) ?_
            refine k_iald hx hb hK hP 1 0 rfl rfl (i + t) (by omega) dX3_sameFrom_45 ?_
            refine lv_aload_n hx hb dX3_sameFrom_46 rfl (lv_at hl 2 rfl) ?_
            refine va_get (D := D) (ci := 3) (v := .ref a2) (C := RX3) (T := TX3) (N := 2) hx hb hts hi_X3 hown hK hP 2 rfl rfl 0 (by decide) fl15 (fun _ h9 => h9) rfl dX3_sameFrom_47 ?_
            refine lv_iload_n hx hb dX3_sameFrom_50 rfl (lv_at hl 3 rfl) ?_
            refine lv_iload hx hb dX3_sameFrom_51 (lv_at hl 5 rfl) ?_
            refine lv_iadd hx hb dX3_sameFrom_53 ?_
            refine kn_i (iA (c := (((j + t) : Nat) : Int)) (by omega)) ?_
            refine k_iald hx hb hK hP 3 0 rfl rfl (j + t) (by omega) dX3_sameFrom_54 ?_
            refine lv_icmp_ne (tgt := 64) hx hb dX3_sameFrom_55 (by decide) (fun c55 => ?_) (fun c55 => ?_)
            · skip
              refine lv_iload hx hb dX3_sameFrom_64 (lv_at hl 5 rfl) ?_
              exact k_iret () hx hb hr hlocks hK hP hD hS [0, 1, 2, 3] (by decide) rfl rfl (by rw [hI]; first | (rw [lcp_n c55]; rfl) | (rw [lcp_0 (by omega)]; rfl)) hAe hQ dX3_sameFrom_66
            · skip
              refine lv_iinc (v := iI ((t + 1 : Nat) : Int)) (lv' := [(5, .int (iI ((t + 1 : Nat) : Int))), (0, .ref h), (1, .int (iI ((i : Nat) : Int))), (2, .ref h2), (3, .int (iI ((j : Nat) : Int))), (4, .int (iI ((min (n - i) (n2 - j) : Nat) : Int)))]) hx hb dX3_sameFrom_58 hl (k := 5) rfl (iA (by omega)) (by decide) rfl (fun ls hl => ?_)
              refine lv_goto (tgt := 30) hx hb dX3_sameFrom_61 (by decide) ?_
              exact ih30 (t + 1) _ _ _ (by omega) (by omega) (by rw [hI, lcp_s (by omega) c55]; simp only [Nat.sub_sub, Nat.add_assoc]; omega) hP hD hS (lv_sub hl [1, 2, 3, 4, 5, 0] rfl)
      exact lp30 _ 0 _ _ _ (Nat.lt_succ_self _) (by omega) (by simp) hP hD hS (lv_sub hl [2, 3, 4, 5, 1, 0] rfl)
    · skip
      have c5 := iI_leF (a := (0 : Int)) (b := ((j : Nat) : Int)) c5 (by omega)
      omega

abbrev rm_c_Row_addVarint : Room := { frames := 1, cells := 0, slots := 0, locals := 21 }
set_option maxHeartbeats 4000000 in
set_option maxRecDepth 100000 in
theorem c_Row_addVarint (l : Launch) (D : va_G) (cI cZ : ClassId) (h : Nat) (a : Nat) (M : Nat) (n : Nat) (f : Nat → Int32) (v : Nat) (hM : M ≤ 900) (hn : n + 4 ≤ M) (hv : v < 268435456) : MV l yX3_addVarint wsX3_addVarint rm_c_Row_addVarint D (kT cI cZ) [.ref h, .int (iI ((v : Nat) : Int))] [(h, .inr (3, [.ref a, .int (iI ((n : Nat) : Int))])), (a, .inl (cI, M, .inl f))] (fun (_ : Unit) => True) (fun (u : Unit) => match u with | _ => [(h, .inr (3, [.ref a, .int (iI ((n + (vb 3 v).length : Nat) : Int))])), (a, .inl (cI, M, .inl (apL f n (vb 3 v))))]) 0 0 := by
  intro sz
  refine k_of (cc := cX3_addVarint) (maxL := 4) (ret := none) (by decide) rfl (Nat.le_of_ble_eq_true rfl) ?_
  intro p e s m args below meth c A Q hAe hQ hx hb hr hml hts hown hlocks hnm hP hK hD hS hA ls hl
  have hl : lv_has ls 4 [(0, .ref h), (1, .int (iI ((v : Nat) : Int)))] := hl
  refine lv_iload_n hx hb dX3_addVarint_0 rfl (lv_at hl 1 rfl) ?_
  refine lv_istore_n (lv' := [(2, .int (iI ((v : Nat) : Int))), (0, .ref h), (1, .int (iI ((v : Nat) : Int)))]) hx hb dX3_addVarint_1 rfl hl (by decide) rfl (fun ls hl => ?_)
  refine lv_iconst (v := iI ((1 : Nat) : Int)) hx hb dX3_addVarint_2 rfl ?_
  refine lv_istore_n (lv' := [(3, .int (iI ((1 : Nat) : Int))), (2, .int (iI ((v : Nat) : Int))), (0, .ref h), (1, .int (iI ((v : Nat) : Int)))]) hx hb dX3_addVarint_3 rfl hl (by decide) rfl (fun ls hl => ?_)
  have lp4 : ∀ (fu : Nat) (k : Nat) (w : Nat) (P : List Int32) (H : Heap) (locs : List Loc) (ls : Array Slot), 4 - k < fu → (1 ≤ k ∧ k ≤ 4) → (w < 268435456) → (vb 3 v = P ++ vb (4 - k) w) → (P.length + 1 = k) → va_P D vwCl [(h, .inr (3, [.ref a, .int (iI ((n + P.length : Nat) : Int))])), (a, .inl (cI, M, .inl (apL f n P)))] H → va_D A [(h, .inr (3, [.ref a, .int (iI ((n + P.length : Nat) : Int))])), (a, .inl (cI, M, .inl (apL f n P)))] → va_S A s.heap H locs → lv_has ls 4 [(0, .ref h), (2, .int (iI ((w : Nat) : Int))), (3, .int (iI ((k : Nat) : Int)))] → W p l e rm_c_Row_addVarint s m args below meth c H locs 0 0 Q (F0 m 4 ls []) := by
    intro fu
    induction fu with
    | zero => intro k w P H locs ls hfu; exact absurd hfu (Nat.not_lt_zero _)
    | succ fu ih4 =>
      intro k w P H locs ls hfu hk hw hPv hL hP hD hS hl
      refine lv_iload_n hx hb dX3_addVarint_4 rfl (lv_at hl 2 rfl) ?_
      refine lv_iconst (v := iI (4 : Int)) hx hb dX3_addVarint_5 rfl ?_
      refine lv_icmp_ge (tgt := 38) hx hb dX3_addVarint_6 (by decide) (fun c6 => ?_) (fun c6 => ?_)
      · skip
        have c6 := iI_leT (a := (4 : Int)) (b := ((k : Nat) : Int)) c6 (by omega)
        refine lv_aload_n hx hb dX3_addVarint_38 rfl (lv_at hl 0 rfl) ?_
        refine lv_iload_n hx hb dX3_addVarint_39 rfl (lv_at hl 1 rfl) ?_
        refine lv_bipush (v := iI (127 : Int)) hx hb dX3_addVarint_40 (by decide) ?_
        refine lv_iand hx hb dX3_addVarint_42 ?_
        refine kn_i (y := iI ((w % 128 : Nat) : Int)) (b_and127 (by omega)) ?_
        have hE : vb 3 v = P ++ [iI ((w % 128 : Nat) : Int)] := by rw [hPv, vb_stop (by omega)]
        refine k_callv (wc := [(h, .inr (3, [.ref a, .int (iI ((n + P.length : Nat) : Int))])), (a, .inl (cI, M, .inl (apL f n P)))]) (wr := []) (wf := fun _ => [(h, .inr (3, [.ref a, .int (iI (((n + P.length) + 1 : Nat) : Int))])), (a, .inl (cI, M, .inl (apL (apL f n P) (n + P.length) [(iI ((w % 128 : Nat) : Int))])))]) hK hP hD hS hA [0, 1] [] [0, 1] ⟨⟨rfl, rfl, by decide⟩, rfl, by decide, by decide⟩ (fun _ => ⟨rfl, rfl⟩) (by decide) (fun hPc hDc => va_runV (As := [.int (iI ((w % 128 : Nat) : Int))]) (rest := []) ⟨hx, hb, hml, hown, hts⟩ (c_Row_add l D cI cZ (h := h) (a := a) (M := M) (n := n + P.length) (f := (apL f n P)) (x := iI ((w % 128 : Nat) : Int)) (hM := by omega) (hn := by omega) _) (cwV 1 hts (kgV wm228 wm197 wm198 wm39 wmcX3_add) rfl rfl rfl (by decide +kernel) ⟨Nat.le_of_ble_eq_true rfl, Nat.le_of_ble_eq_true rfl⟩) (k_preV hK hPc hDc (ci := 3) (q0 := 0) rfl rfl) rfl rfl hl.1 rfl (lv_room (Nat.le_of_ble_eq_true rfl)) dX3_addVarint_43 ⟨Nat.le_of_ble_eq_true rfl, Nat.le_of_ble_eq_true rfl⟩) (fun u H locs hw hP hD hS => ?_)
        have hP : va_P D vwCl [(h, .inr (3, [.ref a, .int (iI (((n + P.length) + 1 : Nat) : Int))])), (a, .inl (cI, M, .inl (apL (apL f n P) (n + P.length) [(iI ((w % 128 : Nat) : Int))])))] H := hP
        have hD : va_D A [(h, .inr (3, [.ref a, .int (iI (((n + P.length) + 1 : Nat) : Int))])), (a, .inl (cI, M, .inl (apL (apL f n P) (n + P.length) [(iI ((w % 128 : Nat) : Int))])))] := hD
        refine W.widen (k := 0) (n := 0) (Nat.le_of_ble_eq_true rfl) (Nat.le_of_ble_eq_true rfl) ?_
        rw [show (apL (apL f n P) (n + P.length) [(iI ((w % 128 : Nat) : Int))]) = (apL f n (vb 3 v)) from (by rw [hE]; exact apL_at rfl _)] at hP hD
        rw [show iI (((n + P.length) + 1 : Nat) : Int) = iI ((n + (vb 3 v).length : Nat) : Int) from (by rw [hE, List.length_append]; rfl)] at hP hD
        exact k_vret () hx hb hr hlocks hK hP hD hS [0, 1] (by decide) rfl rfl (trivial) hAe hQ dX3_addVarint_46
      · skip
        have c6 := iI_leF (a := (4 : Int)) (b := ((k : Nat) : Int)) c6 (by omega)
        refine lv_iload_n hx hb dX3_addVarint_9 rfl (lv_at hl 1 rfl) ?_
        refine lv_bipush (v := iI (127 : Int)) hx hb dX3_addVarint_10 (by decide) ?_
        refine lv_icmp_le (tgt := 38) hx hb dX3_addVarint_12 (by decide) (fun c12 => ?_) (fun c12 => ?_)
        · skip
          have c12 := iI_leT (a := ((w : Nat) : Int)) (b := (127 : Int)) c12 (by omega)
          refine lv_aload_n hx hb dX3_addVarint_38 rfl (lv_at hl 0 rfl) ?_
          refine lv_iload_n hx hb dX3_addVarint_39 rfl (lv_at hl 1 rfl) ?_
          refine lv_bipush (v := iI (127 : Int)) hx hb dX3_addVarint_40 (by decide) ?_
          refine lv_iand hx hb dX3_addVarint_42 ?_
          refine kn_i (y := iI ((w % 128 : Nat) : Int)) (b_and127 (by omega)) ?_
          have hE : vb 3 v = P ++ [iI ((w % 128 : Nat) : Int)] := by rw [hPv, vb_stop (by omega)]
          refine k_callv (wc := [(h, .inr (3, [.ref a, .int (iI ((n + P.length : Nat) : Int))])), (a, .inl (cI, M, .inl (apL f n P)))]) (wr := []) (wf := fun _ => [(h, .inr (3, [.ref a, .int (iI (((n + P.length) + 1 : Nat) : Int))])), (a, .inl (cI, M, .inl (apL (apL f n P) (n + P.length) [(iI ((w % 128 : Nat) : Int))])))]) hK hP hD hS hA [0, 1] [] [0, 1] ⟨⟨rfl, rfl, by decide⟩, rfl, by decide, by decide⟩ (fun _ => ⟨rfl, rfl⟩) (by decide) (fun hPc hDc => va_runV (As := [.int (iI ((w % 128 : Nat) : Int))]) (rest := []) ⟨hx, hb, hml, hown, hts⟩ (c_Row_add l D cI cZ (h := h) (a := a) (M := M) (n := n + P.length) (f := (apL f n P)) (x := iI ((w % 128 : Nat) : Int)) (hM := by omega) (hn := by omega) _) (cwV 1 hts (kgV wm228 wm197 wm198 wm39 wmcX3_add) rfl rfl rfl (by decide +kernel) ⟨Nat.le_of_ble_eq_true rfl, Nat.le_of_ble_eq_true rfl⟩) (k_preV hK hPc hDc (ci := 3) (q0 := 0) rfl rfl) rfl rfl hl.1 rfl (lv_room (Nat.le_of_ble_eq_true rfl)) dX3_addVarint_43 ⟨Nat.le_of_ble_eq_true rfl, Nat.le_of_ble_eq_true rfl⟩) (fun u H locs hw hP hD hS => ?_)
          have hP : va_P D vwCl [(h, .inr (3, [.ref a, .int (iI (((n + P.length) + 1 : Nat) : Int))])), (a, .inl (cI, M, .inl (apL (apL f n P) (n + P.length) [(iI ((w % 128 : Nat) : Int))])))] H := hP
          have hD : va_D A [(h, .inr (3, [.ref a, .int (iI (((n + P.length) + 1 : Nat) : Int))])), (a, .inl (cI, M, .inl (apL (apL f n P) (n + P.length) [(iI ((w % 128 : Nat) : Int))])))] := hD
          refine W.widen (k := 0) (n := 0) (Nat.le_of_ble_eq_true rfl) (Nat.le_of_ble_eq_true rfl) ?_
          rw [show (apL (apL f n P) (n + P.length) [(iI ((w % 128 : Nat) : Int))]) = (apL f n (vb 3 v)) from (by rw [hE]; exact apL_at rfl _)] at hP hD
          rw [show iI (((n + P.length) + 1 : Nat) : Int) = iI ((n + (vb 3 v).length : Nat) : Int) from (by rw [hE, List.length_append]; rfl)] at hP hD
          exact k_vret () hx hb hr hlocks hK hP hD hS [0, 1] (by decide) rfl rfl (trivial) hAe hQ dX3_addVarint_46
        · skip
          have c12 := iI_leF (a := ((w : Nat) : Int)) (b := (127 : Int)) c12 (by omega)
          refine lv_aload_n hx hb dX3_addVarint_15 rfl (lv_at hl 0 rfl) ?_
          refine lv_iload_n hx hb dX3_addVarint_16 rfl (lv_at hl 1 rfl) ?_
          refine lv_bipush (v := iI (127 : Int)) hx hb dX3_addVarint_17 (by decide) ?_
          refine lv_iand hx hb dX3_addVarint_19 ?_
          refine kn_i (y := iI ((w % 128 : Nat) : Int)) (b_and127 (by omega)) ?_
          refine lv_sipush (v := iI (128 : Int)) hx hb dX3_addVarint_20 (by decide) ?_
          refine lv_ior hx hb dX3_addVarint_23 ?_
          refine kn_i (y := iI ((w % 128 + 128 : Nat) : Int)) (b_or128 _ (Nat.mod_lt _ (by decide))) ?_
          refine k_callv (wc := [(h, .inr (3, [.ref a, .int (iI ((n + P.length : Nat) : Int))])), (a, .inl (cI, M, .inl (apL f n P)))]) (wr := []) (wf := fun _ => [(h, .inr (3, [.ref a, .int (iI (((n + P.length) + 1 : Nat) : Int))])), (a, .inl (cI, M, .inl (apL (apL f n P) (n + P.length) [(iI ((w % 128 + 128 : Nat) : Int))])))]) hK hP hD hS hA [0, 1] [] [0, 1] ⟨⟨rfl, rfl, by decide⟩, rfl, by decide, by decide⟩ (fun _ => ⟨rfl, rfl⟩) (by decide) (fun hPc hDc => va_runV (As := [.int (iI ((w % 128 + 128 : Nat) : Int))]) (rest := []) ⟨hx, hb, hml, hown, hts⟩ (c_Row_add l D cI cZ (h := h) (a := a) (M := M) (n := n + P.length) (f := (apL f n P)) (x := iI ((w % 128 + 128 : Nat) : Int)) (hM := by omega) (hn := by omega) _) (cwV 1 hts (kgV wm228 wm197 wm198 wm39 wmcX3_add) rfl rfl rfl (by decide +kernel) ⟨Nat.le_of_ble_eq_true rfl, Nat.le_of_ble_eq_true rfl⟩) (k_preV hK hPc hDc (ci := 3) (q0 := 0) rfl rfl) rfl rfl hl.1 rfl (lv_room (Nat.le_of_ble_eq_true rfl)) dX3_addVarint_24 ⟨Nat.le_of_ble_eq_true rfl, Nat.le_of_ble_eq_true rfl⟩) (fun u H locs hw hP hD hS => ?_)
          have hP : va_P D vwCl [(h, .inr (3, [.ref a, .int (iI (((n + P.length) + 1 : Nat) : Int))])), (a, .inl (cI, M, .inl (apL (apL f n P) (n + P.length) [(iI ((w % 128 + 128 : Nat) : Int))])))] H := hP
          have hD : va_D A [(h, .inr (3, [.ref a, .int (iI (((n + P.length) + 1 : Nat) : Int))])), (a, .inl (cI, M, .inl (apL (apL f n P) (n + P.length) [(iI ((w % 128 + 128 : Nat) : Int))])))] := hD
          refine W.widen (k := 0) (n := 0) (Nat.le_of_ble_eq_true rfl) (Nat.le_of_ble_eq_true rfl) ?_
          rw [show (apL (apL f n P) (n + P.length) [(iI ((w % 128 + 128 : Nat) : Int))]) = (apL f n (P ++ [iI ((w % 128 + 128 : Nat) : Int)])) from apL_at rfl _] at hP hD
          rw [show iI (((n + P.length) + 1 : Nat) : Int) = iI ((n + (P ++ [iI ((w % 128 + 128 : Nat) : Int)]).length : Nat) : Int) from by rw [List.length_append]; rfl] at hP hD
          refine lv_iload_n hx hb dX3_addVarint_27 rfl (lv_at hl 1 rfl) ?_
          refine lv_bipush (v := iI (7 : Int)) hx hb dX3_addVarint_28 (by decide) ?_
          refine lv_iushr hx hb dX3_addVarint_30 rfl ?_
          refine kn_i (y := iI ((w / 128 : Nat) : Int)) (b_ushr7 (by omega)) ?_
          refine lv_istore_n (lv' := [(2, .int (iI ((w / 128 : Nat) : Int))), (0, .ref h), (3, .int (iI ((k : Nat) : Int)))]) hx hb dX3_addVarint_31 rfl hl (by decide) rfl (fun ls hl => ?_)
          refine lv_iinc (v := iI ((k + 1 : Nat) : Int)) (lv' := [(3, .int (iI ((k + 1 : Nat) : Int))), (2, .int (iI ((w / 128 : Nat) : Int))), (0, .ref h)]) hx hb dX3_addVarint_32 hl (k := 2) rfl (iA (by omega)) (by decide) rfl (fun ls hl => ?_)
          refine lv_goto (tgt := 4) hx hb dX3_addVarint_35 (by decide) ?_
          exact ih4 (k + 1) (w / 128) (P ++ [iI ((w % 128 + 128 : Nat) : Int)]) _ _ _ (by omega) (by omega) (by omega) (by rw [hPv, vb_step (by omega) (by omega), List.append_assoc]; rfl) (by rw [List.length_append]; show P.length + 1 + 1 = k + 1; omega) hP hD hS (lv_sub hl [2, 1, 0] rfl)
  rw [show f = (apL f n []) from (apL_nil f n).symm] at hP hD
  exact lp4 _ 1 v ([]) _ _ _ (Nat.lt_succ_self _) (by omega) (by omega) (by rfl) (by rfl) hP hD hS (lv_sub hl [2, 1, 0] rfl)

abbrev rm_c_Row_addWord : Room := { frames := 1, cells := 0, slots := 0, locals := 21 }
set_option maxHeartbeats 4000000 in
set_option maxRecDepth 100000 in
theorem c_Row_addWord (l : Launch) (D : va_G) (cI cZ : ClassId) (h : Nat) (a : Nat) (M : Nat) (n : Nat) (f : Nat → Int32) (w : Int32) (hM : M ≤ 900) (hn : n + 4 ≤ M) : MV l yX3_addWord wsX3_addWord rm_c_Row_addWord D (kT cI cZ) [.ref h, .int w] [(h, .inr (3, [.ref a, .int (iI ((n : Nat) : Int))])), (a, .inl (cI, M, .inl f))] (fun (_ : Unit) => True) (fun (u : Unit) => match u with | _ => [(h, .inr (3, [.ref a, .int (iI ((n + 4 : Nat) : Int))])), (a, .inl (cI, M, .inl (apL f n (wL w))))]) 0 0 := by
  intro sz
  refine k_of (cc := cX3_addWord) (maxL := 3) (ret := none) (by decide) rfl (Nat.le_of_ble_eq_true rfl) ?_
  intro p e s m args below meth c A Q hAe hQ hx hb hr hml hts hown hlocks hnm hP hK hD hS hA ls hl
  have hl : lv_has ls 3 [(0, .ref h), (1, .int w)] := hl
  refine lv_iconst (v := iI (3 : Int)) hx hb dX3_addWord_0 rfl ?_
  refine lv_istore_n (lv' := [(2, .int (iI (3 : Int))), (0, .ref h), (1, .int w)]) hx hb dX3_addWord_1 rfl hl (by decide) rfl (fun ls hl => ?_)
  refine lv_iload_n hx hb dX3_addWord_2 rfl (lv_at hl 0 rfl) ?_
  refine lv_if_lt (tgt := 26) hx hb dX3_addWord_3 (by decide) (fun c3 => ?_) (fun c3 => ?_)
  · skip
    have c3 := iI_ltT (a := (3 : Int)) (b := (0 : Int)) c3 (by omega)
    omega
  · skip
    have c3 := iI_ltF (a := (3 : Int)) (b := (0 : Int)) c3 (by omega)
    refine lv_aload_n hx hb dX3_addWord_6 rfl (lv_at hl 1 rfl) ?_
    refine lv_iload_n hx hb dX3_addWord_7 rfl (lv_at hl 2 rfl) ?_
    refine lv_bipush (v := iI (8 : Int)) hx hb dX3_addWord_8 (by decide) ?_
    refine lv_iload_n hx hb dX3_addWord_10 rfl (lv_at hl 0 rfl) ?_
    refine lv_imul hx hb dX3_addWord_11 ?_
    refine kn_i (iM (c := (24 : Int)) (by omega)) ?_
    refine lv_iushr hx hb dX3_addWord_12 rfl ?_
    refine lv_sipush (v := iI (255 : Int)) hx hb dX3_addWord_13 (by decide) ?_
    refine lv_iand hx hb dX3_addWord_16 ?_
    refine kn_i (y := (wB w 24)) (rfl) ?_
    refine k_callv (wc := [(h, .inr (3, [.ref a, .int (iI ((n : Nat) : Int))])), (a, .inl (cI, M, .inl f))]) (wr := []) (wf := fun _ => [(h, .inr (3, [.ref a, .int (iI ((n + 1 : Nat) : Int))])), (a, .inl (cI, M, .inl (apL f n [(wB w 24)])))]) hK hP hD hS hA [0, 1] [] [0, 1] ⟨⟨rfl, rfl, by decide⟩, rfl, by decide, by decide⟩ (fun _ => ⟨rfl, rfl⟩) (by decide) (fun hPc hDc => va_runV (As := [.int (wB w 24)]) (rest := []) ⟨hx, hb, hml, hown, hts⟩ (c_Row_add l D cI cZ (h := h) (a := a) (M := M) (n := n) (f := f) (x := (wB w 24)) (hM := by omega) (hn := by omega) _) (cwV 1 hts (kgV wm228 wm197 wm198 wm39 wmcX3_add) rfl rfl rfl (by decide +kernel) ⟨Nat.le_of_ble_eq_true rfl, Nat.le_of_ble_eq_true rfl⟩) (k_preV hK hPc hDc (ci := 3) (q0 := 0) rfl rfl) rfl rfl hl.1 rfl (lv_room (Nat.le_of_ble_eq_true rfl)) dX3_addWord_17 ⟨Nat.le_of_ble_eq_true rfl, Nat.le_of_ble_eq_true rfl⟩) (fun u H locs hw hP hD hS => ?_)
    have hP : va_P D vwCl [(h, .inr (3, [.ref a, .int (iI ((n + 1 : Nat) : Int))])), (a, .inl (cI, M, .inl (apL f n [(wB w 24)])))] H := hP
    have hD : va_D A [(h, .inr (3, [.ref a, .int (iI ((n + 1 : Nat) : Int))])), (a, .inl (cI, M, .inl (apL f n [(wB w 24)])))] := hD
    refine W.widen (k := 0) (n := 0) (Nat.le_of_ble_eq_true rfl) (Nat.le_of_ble_eq_true rfl) ?_
    refine lv_iinc (v := iI (2 : Int)) (lv' := [(2, .int (iI (2 : Int))), (0, .ref h), (1, .int w)]) hx hb dX3_addWord_20 hl (k := 0) rfl (iA (by omega)) (by decide) rfl (fun ls hl => ?_)
    refine lv_goto (tgt := 2) hx hb dX3_addWord_23 (by decide) ?_
    refine lv_iload_n hx hb dX3_addWord_2 rfl (lv_at hl 0 rfl) ?_
    refine lv_if_lt (tgt := 26) hx hb dX3_addWord_3 (by decide) (fun c3 => ?_) (fun c3 => ?_)
    · skip
      have c3 := iI_ltT (a := (2 : Int)) (b := (0 : Int)) c3 (by omega)
      omega
    · skip
      have c3 := iI_ltF (a := (2 : Int)) (b := (0 : Int)) c3 (by omega)
      refine lv_aload_n hx hb dX3_addWord_6 rfl (lv_at hl 1 rfl) ?_
      refine lv_iload_n hx hb dX3_addWord_7 rfl (lv_at hl 2 rfl) ?_
      refine lv_bipush (v := iI (8 : Int)) hx hb dX3_addWord_8 (by decide) ?_
      refine lv_iload_n hx hb dX3_addWord_10 rfl (lv_at hl 0 rfl) ?_
      refine lv_imul hx hb dX3_addWord_11 ?_
      refine kn_i (iM (c := (16 : Int)) (by omega)) ?_
      refine lv_iushr hx hb dX3_addWord_12 rfl ?_
      refine lv_sipush (v := iI (255 : Int)) hx hb dX3_addWord_13 (by decide) ?_
      refine lv_iand hx hb dX3_addWord_16 ?_
      refine kn_i (y := (wB w 16)) (rfl) ?_
      refine k_callv (wc := [(h, .inr (3, [.ref a, .int (iI ((n + 1 : Nat) : Int))])), (a, .inl (cI, M, .inl (apL f n [(wB w 24)])))]) (wr := []) (wf := fun _ => [(h, .inr (3, [.ref a, .int (iI (((n + 1) + 1 : Nat) : Int))])), (a, .inl (cI, M, .inl (apL (apL f n [(wB w 24)]) (n + 1) [(wB w 16)])))]) hK hP hD hS hA [0, 1] [] [0, 1] ⟨⟨rfl, rfl, by decide⟩, rfl, by decide, by decide⟩ (fun _ => ⟨rfl, rfl⟩) (by decide) (fun hPc hDc => va_runV (As := [.int (wB w 16)]) (rest := []) ⟨hx, hb, hml, hown, hts⟩ (c_Row_add l D cI cZ (h := h) (a := a) (M := M) (n := n + 1) (f := (apL f n [(wB w 24)])) (x := (wB w 16)) (hM := by omega) (hn := by omega) _) (cwV 1 hts (kgV wm228 wm197 wm198 wm39 wmcX3_add) rfl rfl rfl (by decide +kernel) ⟨Nat.le_of_ble_eq_true rfl, Nat.le_of_ble_eq_true rfl⟩) (k_preV hK hPc hDc (ci := 3) (q0 := 0) rfl rfl) rfl rfl hl.1 rfl (lv_room (Nat.le_of_ble_eq_true rfl)) dX3_addWord_17 ⟨Nat.le_of_ble_eq_true rfl, Nat.le_of_ble_eq_true rfl⟩) (fun u H locs hw hP hD hS => ?_)
      have hP : va_P D vwCl [(h, .inr (3, [.ref a, .int (iI (((n + 1) + 1 : Nat) : Int))])), (a, .inl (cI, M, .inl (apL (apL f n [(wB w 24)]) (n + 1) [(wB w 16)])))] H := hP
      have hD : va_D A [(h, .inr (3, [.ref a, .int (iI (((n + 1) + 1 : Nat) : Int))])), (a, .inl (cI, M, .inl (apL (apL f n [(wB w 24)]) (n + 1) [(wB w 16)])))] := hD
      refine W.widen (k := 0) (n := 0) (Nat.le_of_ble_eq_true rfl) (Nat.le_of_ble_eq_true rfl) ?_
      rw [show (apL (apL f n [(wB w 24)]) (n + 1) [(wB w 16)]) = (apL f n [wB w 24, wB w 16]) from apL_at rfl _] at hP hD
      refine lv_iinc (v := iI (1 : Int)) (lv' := [(2, .int (iI (1 : Int))), (0, .ref h), (1, .int w)]) hx hb dX3_addWord_20 hl (k := 0) rfl (iA (by omega)) (by decide) rfl (fun ls hl => ?_)
      refine lv_goto (tgt := 2) hx hb dX3_addWord_23 (by decide) ?_
      refine lv_iload_n hx hb dX3_addWord_2 rfl (lv_at hl 0 rfl) ?_
      refine lv_if_lt (tgt := 26) hx hb dX3_addWord_3 (by decide) (fun c3 => ?_) (fun c3 => ?_)
      · skip
        have c3 := iI_ltT (a := (1 : Int)) (b := (0 : Int)) c3 (by omega)
        omega
      · skip
        have c3 := iI_ltF (a := (1 : Int)) (b := (0 : Int)) c3 (by omega)
        refine lv_aload_n hx hb dX3_addWord_6 rfl (lv_at hl 1 rfl) ?_
        refine lv_iload_n hx hb dX3_addWord_7 rfl (lv_at hl 2 rfl) ?_
        refine lv_bipush (v := iI (8 : Int)) hx hb dX3_addWord_8 (by decide) ?_
        refine lv_iload_n hx hb dX3_addWord_10 rfl (lv_at hl 0 rfl) ?_
        refine lv_imul hx hb dX3_addWord_11 ?_
        refine kn_i (iM (c := (8 : Int)) (by omega)) ?_
        refine lv_iushr hx hb dX3_addWord_12 rfl ?_
        refine lv_sipush (v := iI (255 : Int)) hx hb dX3_addWord_13 (by decide) ?_
        refine lv_iand hx hb dX3_addWord_16 ?_
        refine kn_i (y := (wB w 8)) (rfl) ?_
        refine k_callv (wc := [(h, .inr (3, [.ref a, .int (iI (((n + 1) + 1 : Nat) : Int))])), (a, .inl (cI, M, .inl (apL f n [wB w 24, wB w 16])))]) (wr := []) (wf := fun _ => [(h, .inr (3, [.ref a, .int (iI ((((n + 1) + 1) + 1 : Nat) : Int))])), (a, .inl (cI, M, .inl (apL (apL f n [wB w 24, wB w 16]) ((n + 1) + 1) [(wB w 8)])))]) hK hP hD hS hA [0, 1] [] [0, 1] ⟨⟨rfl, rfl, by decide⟩, rfl, by decide, by decide⟩ (fun _ => ⟨rfl, rfl⟩) (by decide) (fun hPc hDc => va_runV (As := [.int (wB w 8)]) (rest := []) ⟨hx, hb, hml, hown, hts⟩ (c_Row_add l D cI cZ (h := h) (a := a) (M := M) (n := (n + 1) + 1) (f := (apL f n [wB w 24, wB w 16])) (x := (wB w 8)) (hM := by omega) (hn := by omega) _) (cwV 1 hts (kgV wm228 wm197 wm198 wm39 wmcX3_add) rfl rfl rfl (by decide +kernel) ⟨Nat.le_of_ble_eq_true rfl, Nat.le_of_ble_eq_true rfl⟩) (k_preV hK hPc hDc (ci := 3) (q0 := 0) rfl rfl) rfl rfl hl.1 rfl (lv_room (Nat.le_of_ble_eq_true rfl)) dX3_addWord_17 ⟨Nat.le_of_ble_eq_true rfl, Nat.le_of_ble_eq_true rfl⟩) (fun u H locs hw hP hD hS => ?_)
        have hP : va_P D vwCl [(h, .inr (3, [.ref a, .int (iI ((((n + 1) + 1) + 1 : Nat) : Int))])), (a, .inl (cI, M, .inl (apL (apL f n [wB w 24, wB w 16]) ((n + 1) + 1) [(wB w 8)])))] H := hP
        have hD : va_D A [(h, .inr (3, [.ref a, .int (iI ((((n + 1) + 1) + 1 : Nat) : Int))])), (a, .inl (cI, M, .inl (apL (apL f n [wB w 24, wB w 16]) ((n + 1) + 1) [(wB w 8)])))] := hD
        refine W.widen (k := 0) (n := 0) (Nat.le_of_ble_eq_true rfl) (Nat.le_of_ble_eq_true rfl) ?_
        rw [show (apL (apL f n [wB w 24, wB w 16]) ((n + 1) + 1) [(wB w 8)]) = (apL f n [wB w 24, wB w 16, wB w 8]) from apL_at rfl _] at hP hD
        refine lv_iinc (v := iI (0 : Int)) (lv' := [(2, .int (iI (0 : Int))), (0, .ref h), (1, .int w)]) hx hb dX3_addWord_20 hl (k := 0) rfl (iA (by omega)) (by decide) rfl (fun ls hl => ?_)
        refine lv_goto (tgt := 2) hx hb dX3_addWord_23 (by decide) ?_
        refine lv_iload_n hx hb dX3_addWord_2 rfl (lv_at hl 0 rfl) ?_
        refine lv_if_lt (tgt := 26) hx hb dX3_addWord_3 (by decide) (fun c3 => ?_) (fun c3 => ?_)
        · skip
          have c3 := iI_ltT (a := (0 : Int)) (b := (0 : Int)) c3 (by omega)
          omega
        · skip
          have c3 := iI_ltF (a := (0 : Int)) (b := (0 : Int)) c3 (by omega)
          refine lv_aload_n hx hb dX3_addWord_6 rfl (lv_at hl 1 rfl) ?_
          refine lv_iload_n hx hb dX3_addWord_7 rfl (lv_at hl 2 rfl) ?_
          refine lv_bipush (v := iI (8 : Int)) hx hb dX3_addWord_8 (by decide) ?_
          refine lv_iload_n hx hb dX3_addWord_10 rfl (lv_at hl 0 rfl) ?_
          refine lv_imul hx hb dX3_addWord_11 ?_
          refine kn_i (iM (c := (0 : Int)) (by omega)) ?_
          refine lv_iushr hx hb dX3_addWord_12 rfl ?_
          refine lv_sipush (v := iI (255 : Int)) hx hb dX3_addWord_13 (by decide) ?_
          refine lv_iand hx hb dX3_addWord_16 ?_
          refine kn_i (y := (wB w 0)) (rfl) ?_
          refine k_callv (wc := [(h, .inr (3, [.ref a, .int (iI ((((n + 1) + 1) + 1 : Nat) : Int))])), (a, .inl (cI, M, .inl (apL f n [wB w 24, wB w 16, wB w 8])))]) (wr := []) (wf := fun _ => [(h, .inr (3, [.ref a, .int (iI (((((n + 1) + 1) + 1) + 1 : Nat) : Int))])), (a, .inl (cI, M, .inl (apL (apL f n [wB w 24, wB w 16, wB w 8]) (((n + 1) + 1) + 1) [(wB w 0)])))]) hK hP hD hS hA [0, 1] [] [0, 1] ⟨⟨rfl, rfl, by decide⟩, rfl, by decide, by decide⟩ (fun _ => ⟨rfl, rfl⟩) (by decide) (fun hPc hDc => va_runV (As := [.int (wB w 0)]) (rest := []) ⟨hx, hb, hml, hown, hts⟩ (c_Row_add l D cI cZ (h := h) (a := a) (M := M) (n := ((n + 1) + 1) + 1) (f := (apL f n [wB w 24, wB w 16, wB w 8])) (x := (wB w 0)) (hM := by omega) (hn := by omega) _) (cwV 1 hts (kgV wm228 wm197 wm198 wm39 wmcX3_add) rfl rfl rfl (by decide +kernel) ⟨Nat.le_of_ble_eq_true rfl, Nat.le_of_ble_eq_true rfl⟩) (k_preV hK hPc hDc (ci := 3) (q0 := 0) rfl rfl) rfl rfl hl.1 rfl (lv_room (Nat.le_of_ble_eq_true rfl)) dX3_addWord_17 ⟨Nat.le_of_ble_eq_true rfl, Nat.le_of_ble_eq_true rfl⟩) (fun u H locs hw hP hD hS => ?_)
          have hP : va_P D vwCl [(h, .inr (3, [.ref a, .int (iI (((((n + 1) + 1) + 1) + 1 : Nat) : Int))])), (a, .inl (cI, M, .inl (apL (apL f n [wB w 24, wB w 16, wB w 8]) (((n + 1) + 1) + 1) [(wB w 0)])))] H := hP
          have hD : va_D A [(h, .inr (3, [.ref a, .int (iI (((((n + 1) + 1) + 1) + 1 : Nat) : Int))])), (a, .inl (cI, M, .inl (apL (apL f n [wB w 24, wB w 16, wB w 8]) (((n + 1) + 1) + 1) [(wB w 0)])))] := hD
          refine W.widen (k := 0) (n := 0) (Nat.le_of_ble_eq_true rfl) (Nat.le_of_ble_eq_true rfl) ?_
          rw [show (apL (apL f n [wB w 24, wB w 16, wB w 8]) (((n + 1) + 1) + 1) [(wB w 0)]) = (apL f n [wB w 24, wB w 16, wB w 8, wB w 0]) from apL_at rfl _] at hP hD
          refine lv_iinc (v := iI (-1 : Int)) (lv' := [(2, .int (iI (-1 : Int))), (0, .ref h), (1, .int w)]) hx hb dX3_addWord_20 hl (k := 0) rfl (iA (by omega)) (by decide) rfl (fun ls hl => ?_)
          refine lv_goto (tgt := 2) hx hb dX3_addWord_23 (by decide) ?_
          refine lv_iload_n hx hb dX3_addWord_2 rfl (lv_at hl 0 rfl) ?_
          refine lv_if_lt (tgt := 26) hx hb dX3_addWord_3 (by decide) (fun c3 => ?_) (fun c3 => ?_)
          · skip
            have c3 := iI_ltT (a := (-1 : Int)) (b := (0 : Int)) c3 (by omega)
            exact k_vret () hx hb hr hlocks hK hP hD hS [0, 1] (by decide) rfl rfl (trivial) hAe hQ dX3_addWord_26
          · skip
            have c3 := iI_ltF (a := (-1 : Int)) (b := (0 : Int)) c3 (by omega)
            omega

abbrev rm_c_Row_digest : Room := { frames := 0, cells := 0, slots := 0, locals := 0 }
set_option maxHeartbeats 4000000 in
set_option maxRecDepth 100000 in
theorem c_Row_digest (l : Launch) (D : va_G) (cI cZ : ClassId) (h : Nat) (a : Nat) (M : Nat) (n : Nat) (f : Nat → Int32) (hM : M ≤ 900) (hn : n ≤ M) : MI l yX3_digest wsX3_digest rm_c_Row_digest D (kT cI cZ) [.ref h] [(h, .inr (3, [.ref a, .int (iI ((n : Nat) : Int))])), (a, .inl (cI, M, .inl f))] (fun (r : Int32) (_ : Unit) => r = (dg f n)) (fun (u : Unit) => match u with | _ => [(h, .inr (3, [.ref a, .int (iI ((n : Nat) : Int))])), (a, .inl (cI, M, .inl f))]) 0 0 := by
  intro sz
  refine k_of (cc := cX3_digest) (maxL := 4) (ret := (some .int)) (by decide) rfl (Nat.le_of_ble_eq_true rfl) ?_
  intro p e s m args below meth c A Q hAe hQ hx hb hr hml hts hown hlocks hnm hP hK hD hS hA ls hl
  have hl : lv_has ls 4 [(0, .ref h)] := hl
  have hi_X3 : ∀ w ∈ u_ws RX3 TX3 2, w ∈ wsX3_digest := fun w h => km (ikX3 w h)
  have fl21 := hts _ (km wm63)
  have fl15 := hts _ (km wm62)
  refine lv_iconst (v := iI (0 : Int)) hx hb dX3_digest_0 rfl ?_
  refine lv_istore_n (lv' := [(1, .int (iI (0 : Int))), (0, .ref h)]) hx hb dX3_digest_1 rfl hl (by decide) rfl (fun ls hl => ?_)
  refine lv_iconst (v := iI ((0 : Nat) : Int)) hx hb dX3_digest_2 rfl ?_
  refine lv_istore_n (lv' := [(2, .int (iI ((0 : Nat) : Int))), (1, .int (iI (0 : Int))), (0, .ref h)]) hx hb dX3_digest_3 rfl hl (by decide) rfl (fun ls hl => ?_)
  have lp4 : ∀ (fu : Nat) (k : Nat) (H : Heap) (locs : List Loc) (ls : Array Slot), n - k < fu → (k ≤ n) → va_P D vwCl [(h, .inr (3, [.ref a, .int (iI ((n : Nat) : Int))])), (a, .inl (cI, M, .inl f))] H → va_D A [(h, .inr (3, [.ref a, .int (iI ((n : Nat) : Int))])), (a, .inl (cI, M, .inl f))] → va_S A s.heap H locs → lv_has ls 4 [(0, .ref h), (1, .int (dg f k)), (2, .int (iI ((k : Nat) : Int)))] → W p l e rm_c_Row_digest s m args below meth c H locs 0 0 Q (F0 m 4 ls []) := by
    intro fu
    induction fu with
    | zero => intro k H locs ls hfu; exact absurd hfu (Nat.not_lt_zero _)
    | succ fu ih4 =>
      intro k H locs ls hfu hk hP hD hS hl
      refine lv_iload_n hx hb dX3_digest_4 rfl (lv_at hl 2 rfl) ?_
      refine lv_aload_n hx hb dX3_digest_5 rfl (lv_at hl 0 rfl) ?_
      refine va_get (D := D) (ci := 3) (v := .int (iI ((n : Nat) : Int))) (C := RX3) (T := TX3) (N := 2) hx hb hts hi_X3 hown hK hP 0 rfl rfl 1 (by decide) fl21 (fun _ h9 => h9) rfl dX3_digest_6 ?_
      refine lv_icmp_ge (tgt := 48) hx hb dX3_digest_9 (by decide) (fun c9 => ?_) (fun c9 => ?_)
      · skip
        have c9 := iI_leT (a := ((n : Nat) : Int)) (b := ((k : Nat) : Int)) c9 (by omega)
        refine lv_iload_n hx hb dX3_digest_48 rfl (lv_at hl 1 rfl) ?_
        exact k_iret () hx hb hr hlocks hK hP hD hS [0, 1] (by decide) rfl rfl ((by rw [show k = n by omega])) hAe hQ dX3_digest_49
      · skip
        have c9 := iI_leF (a := ((n : Nat) : Int)) (b := ((k : Nat) : Int)) c9 (by omega)
        refine lv_iload_n hx hb dX3_digest_12 rfl (lv_at hl 2 rfl) ?_
        refine lv_aload_n hx hb dX3_digest_13 rfl (lv_at hl 0 rfl) ?_
        refine va_get (D := D) (ci := 3) (v := .ref a) (C := RX3) (T := TX3) (N := 2) hx hb hts hi_X3 hown hK hP 0 rfl rfl 0 (by decide) fl15 (fun _ h9 => h9) rfl dX3_digest_14 ?_
        refine k_alen hx hb hK hP 1 0 rfl rfl dX3_digest_17 ?_
        refine lv_icmp_ge (tgt := 48) hx hb dX3_digest_18 (by decide) (fun c18 => ?_) (fun c18 => ?_)
        · skip
          have c18 := iI_leT (a := ((M : Nat) : Int)) (b := ((k : Nat) : Int)) c18 (by omega)
          omega
        · skip
          have c18 := iI_leF (a := ((M : Nat) : Int)) (b := ((k : Nat) : Int)) c18 (by omega)
          refine lv_iload_n hx hb dX3_digest_21 rfl (lv_at hl 1 rfl) ?_
          refine lv_aload_n hx hb dX3_digest_22 rfl (lv_at hl 0 rfl) ?_
          refine va_get (D := D) (ci := 3) (v := .ref a) (C := RX3) (T := TX3) (N := 2) hx hb hts hi_X3 hown hK hP 0 rfl rfl 0 (by decide) fl15 (fun _ h9 => h9) rfl dX3_digest_23 ?_
          refine lv_iload_n hx hb dX3_digest_26 rfl (lv_at hl 2 rfl) ?_
          refine k_iald hx hb hK hP 1 0 rfl rfl k (by omega) dX3_digest_27 ?_
          refine lv_ixor hx hb dX3_digest_28 ?_
          refine lv_istore_n (lv' := [(3, .int (((dg f k)) ^^^ ((f k)))), (0, .ref h), (1, .int (dg f k)), (2, .int (iI ((k : Nat) : Int)))]) hx hb dX3_digest_29 rfl hl (by decide) rfl (fun ls hl => ?_)
          refine lv_iload_n hx hb dX3_digest_30 rfl (lv_at hl 0 rfl) ?_
          refine lv_iconst (v := iI (5 : Int)) hx hb dX3_digest_31 rfl ?_
          refine lv_ishl hx hb dX3_digest_32 ?_
          refine lv_iload_n hx hb dX3_digest_33 rfl (lv_at hl 0 rfl) ?_
          refine lv_bipush (v := iI (27 : Int)) hx hb dX3_digest_34 (by decide) ?_
          refine lv_iushr hx hb dX3_digest_36 rfl ?_
          refine lv_ior hx hb dX3_digest_37 ?_
          refine lv_ldc (v := (-2048144777)) hx hb hown (hts _ (km wm289)) dX3_digest_38 ?_
          refine lv_imul hx hb dX3_digest_40 ?_
          refine kn_i (y := (dg f (k + 1))) (rfl) ?_
          refine lv_istore_n (lv' := [(1, .int (dg f (k + 1))), (3, .int (((dg f k)) ^^^ ((f k)))), (0, .ref h), (2, .int (iI ((k : Nat) : Int)))]) hx hb dX3_digest_41 rfl hl (by decide) rfl (fun ls hl => ?_)
          refine lv_iinc (v := iI ((k + 1 : Nat) : Int)) (lv' := [(2, .int (iI ((k + 1 : Nat) : Int))), (1, .int (dg f (k + 1))), (3, .int (((dg f k)) ^^^ ((f k)))), (0, .ref h)]) hx hb dX3_digest_42 hl (k := 3) rfl (iA (by omega)) (by decide) rfl (fun ls hl => ?_)
          refine lv_goto (tgt := 4) hx hb dX3_digest_45 (by decide) ?_
          exact ih4 (k + 1) _ _ _ (by omega) (by omega) hP hD hS (lv_sub hl [3, 1, 0] rfl)
  exact lp4 _ 0 _ _ _ (Nat.lt_succ_self _) (by omega) hP hD hS (lv_sub hl [2, 1, 0] rfl)
end
section
abbrev rm_c_Plan_base : Room := { frames := 0, cells := 0, slots := 0, locals := 0 }
set_option maxHeartbeats 4000000 in
set_option maxRecDepth 100000 in
theorem c_Plan_base (l : Launch) (D : va_G) (cI cZ : ClassId) (hp : Nat) (ob : Nat) (og : Nat) (ap : Nat) (al : Nat) (aq : Nat) (cnt : Nat)  : MQq l yX2_base wsX2_base rm_c_Plan_base D (kT cI cZ) [.ref hp] [(hp, .inr (2, [.ref ob, .ref og, .ref ap, .ref al, .ref aq, .int (iI ((cnt : Nat) : Int))]))] (fun (r : Option Nat) (_ : Unit) => r = some ob) (fun (u : Unit) => match u with | _ => [(hp, .inr (2, [.ref ob, .ref og, .ref ap, .ref al, .ref aq, .int (iI ((cnt : Nat) : Int))]))]) 0 0 := by
  intro sz
  refine k_of (cc := cX2_base) (maxL := 1) (ret := (some (.object "DeltaMaker$Row"))) (by decide) rfl (Nat.le_of_ble_eq_true rfl) ?_
  intro p e s m args below meth c A Q hAe hQ hx hb hr hml hts hown hlocks hnm hP hK hD hS hA ls hl
  have hl : lv_has ls 1 [(0, .ref hp)] := hl
  have hi_X2 : ∀ w ∈ u_ws RX2 TX2 6, w ∈ wsX2_base := fun w h => km (ikX2 w h)
  have fl14 := hts _ (km wm78)
  refine lv_aload_n hx hb dX2_base_0 rfl (lv_at hl 0 rfl) ?_
  refine va_get (D := D) (ci := 2) (v := .ref ob) (C := RX2) (T := TX2) (N := 6) hx hb hts hi_X2 hown hK hP 0 rfl rfl 0 (by decide) fl14 (fun _ h9 => h9) rfl dX2_base_1 ?_
  exact k_aret (r := some ob) () hx hb hr hlocks hK hP hD hS [0] (by decide) rfl rfl (rfl) hAe hQ rfl dX2_base_4

abbrev rm_c_Plan_goal : Room := { frames := 0, cells := 0, slots := 0, locals := 0 }
set_option maxHeartbeats 4000000 in
set_option maxRecDepth 100000 in
theorem c_Plan_goal (l : Launch) (D : va_G) (cI cZ : ClassId) (hp : Nat) (ob : Nat) (og : Nat) (ap : Nat) (al : Nat) (aq : Nat) (cnt : Nat)  : MQq l yX2_goal wsX2_goal rm_c_Plan_goal D (kT cI cZ) [.ref hp] [(hp, .inr (2, [.ref ob, .ref og, .ref ap, .ref al, .ref aq, .int (iI ((cnt : Nat) : Int))]))] (fun (r : Option Nat) (_ : Unit) => r = some og) (fun (u : Unit) => match u with | _ => [(hp, .inr (2, [.ref ob, .ref og, .ref ap, .ref al, .ref aq, .int (iI ((cnt : Nat) : Int))]))]) 0 0 := by
  intro sz
  refine k_of (cc := cX2_goal) (maxL := 1) (ret := (some (.object "DeltaMaker$Row"))) (by decide) rfl (Nat.le_of_ble_eq_true rfl) ?_
  intro p e s m args below meth c A Q hAe hQ hx hb hr hml hts hown hlocks hnm hP hK hD hS hA ls hl
  have hl : lv_has ls 1 [(0, .ref hp)] := hl
  have hi_X2 : ∀ w ∈ u_ws RX2 TX2 6, w ∈ wsX2_goal := fun w h => km (ikX2 w h)
  have fl20 := hts _ (km wm79)
  refine lv_aload_n hx hb dX2_goal_0 rfl (lv_at hl 0 rfl) ?_
  refine va_get (D := D) (ci := 2) (v := .ref og) (C := RX2) (T := TX2) (N := 6) hx hb hts hi_X2 hown hK hP 0 rfl rfl 1 (by decide) fl20 (fun _ h9 => h9) rfl dX2_goal_1 ?_
  exact k_aret (r := some og) () hx hb hr hlocks hK hP hD hS [0] (by decide) rfl rfl (rfl) hAe hQ rfl dX2_goal_4

abbrev rm_c_Plan_count : Room := { frames := 0, cells := 0, slots := 0, locals := 0 }
set_option maxHeartbeats 4000000 in
set_option maxRecDepth 100000 in
theorem c_Plan_count (l : Launch) (D : va_G) (cI cZ : ClassId) (hp : Nat) (ob : Nat) (og : Nat) (ap : Nat) (al : Nat) (aq : Nat) (cnt : Nat)  : MI l yX2_count wsX2_count rm_c_Plan_count D (kT cI cZ) [.ref hp] [(hp, .inr (2, [.ref ob, .ref og, .ref ap, .ref al, .ref aq, .int (iI ((cnt : Nat) : Int))]))] (fun (r : Int32) (_ : Unit) => r = iI ((cnt : Nat) : Int)) (fun (u : Unit) => match u with | _ => [(hp, .inr (2, [.ref ob, .ref og, .ref ap, .ref al, .ref aq, .int (iI ((cnt : Nat) : Int))]))]) 0 0 := by
  intro sz
  refine k_of (cc := cX2_count) (maxL := 1) (ret := (some .int)) (by decide) rfl (Nat.le_of_ble_eq_true rfl) ?_
  intro p e s m args below meth c A Q hAe hQ hx hb hr hml hts hown hlocks hnm hP hK hD hS hA ls hl
  have hl : lv_has ls 1 [(0, .ref hp)] := hl
  have hi_X2 : ∀ w ∈ u_ws RX2 TX2 6, w ∈ wsX2_count := fun w h => km (ikX2 w h)
  have fl33 := hts _ (km wm83)
  refine lv_aload_n hx hb dX2_count_0 rfl (lv_at hl 0 rfl) ?_
  refine va_get (D := D) (ci := 2) (v := .int (iI ((cnt : Nat) : Int))) (C := RX2) (T := TX2) (N := 6) hx hb hts hi_X2 hown hK hP 0 rfl rfl 5 (by decide) fl33 (fun _ h9 => h9) rfl dX2_count_1 ?_
  exact k_iret () hx hb hr hlocks hK hP hD hS [0] (by decide) rfl rfl (rfl) hAe hQ dX2_count_4

abbrev rm_c_Plan_has : Room := { frames := 0, cells := 0, slots := 0, locals := 0 }
set_option maxHeartbeats 4000000 in
set_option maxRecDepth 100000 in
theorem c_Plan_has (l : Launch) (D : va_G) (cI cZ : ClassId) (hp : Nat) (ob : Nat) (og : Nat) (ap : Nat) (al : Nat) (aq : Nat) (cnt : Nat) (z : Int) (hc : cnt ≤ 300) (hz : -2147483648 ≤ z ∧ z < 2147483648) : MI l yX2_has wsX2_has rm_c_Plan_has D (kT cI cZ) [.ref hp, .int (iI (z : Int))] [(hp, .inr (2, [.ref ob, .ref og, .ref ap, .ref al, .ref aq, .int (iI ((cnt : Nat) : Int))]))] (fun (r : Int32) (_ : Unit) => r = kb (decide (0 ≤ z ∧ z < ((cnt : Nat) : Int)))) (fun (u : Unit) => match u with | _ => [(hp, .inr (2, [.ref ob, .ref og, .ref ap, .ref al, .ref aq, .int (iI ((cnt : Nat) : Int))]))]) 0 0 := by
  intro sz
  refine k_of (cc := cX2_has) (maxL := 2) (ret := (some .boolean)) (by decide) rfl (Nat.le_of_ble_eq_true rfl) ?_
  intro p e s m args below meth c A Q hAe hQ hx hb hr hml hts hown hlocks hnm hP hK hD hS hA ls hl
  have hl : lv_has ls 2 [(0, .ref hp), (1, .int (iI (z : Int)))] := hl
  have hi_X2 : ∀ w ∈ u_ws RX2 TX2 6, w ∈ wsX2_has := fun w h => km (ikX2 w h)
  have fl33 := hts _ (km wm83)
  refine lv_iload_n hx hb dX2_has_0 rfl (lv_at hl 1 rfl) ?_
  refine lv_if_lt (tgt := 16) hx hb dX2_has_1 (by decide) (fun c1 => ?_) (fun c1 => ?_)
  · skip
    have c1 := iI_ltT (a := (z : Int)) (b := (0 : Int)) c1 (by omega)
    refine lv_iconst (v := iI (0 : Int)) hx hb dX2_has_16 rfl ?_
    exact k_zret () hx hb hr (by decide) hlocks hK hP hD hS [0] (by decide) rfl rfl (by first | exact kb1 (by omega) | exact kb0 (by omega)) hAe hQ dX2_has_17
  · skip
    have c1 := iI_ltF (a := (z : Int)) (b := (0 : Int)) c1 (by omega)
    refine lv_iload_n hx hb dX2_has_4 rfl (lv_at hl 1 rfl) ?_
    refine lv_aload_n hx hb dX2_has_5 rfl (lv_at hl 0 rfl) ?_
    refine va_get (D := D) (ci := 2) (v := .int (iI ((cnt : Nat) : Int))) (C := RX2) (T := TX2) (N := 6) hx hb hts hi_X2 hown hK hP 0 rfl rfl 5 (by decide) fl33 (fun _ h9 => h9) rfl dX2_has_6 ?_
    refine lv_icmp_ge (tgt := 16) hx hb dX2_has_9 (by decide) (fun c9 => ?_) (fun c9 => ?_)
    · skip
      have c9 := iI_leT (a := ((cnt : Nat) : Int)) (b := (z : Int)) c9 (by omega)
      refine lv_iconst (v := iI (0 : Int)) hx hb dX2_has_16 rfl ?_
      exact k_zret () hx hb hr (by decide) hlocks hK hP hD hS [0] (by decide) rfl rfl (by first | exact kb1 (by omega) | exact kb0 (by omega)) hAe hQ dX2_has_17
    · skip
      have c9 := iI_leF (a := ((cnt : Nat) : Int)) (b := (z : Int)) c9 (by omega)
      refine lv_iconst (v := iI (1 : Int)) hx hb dX2_has_12 rfl ?_
      refine lv_goto (tgt := 17) hx hb dX2_has_13 (by decide) ?_
      exact k_zret () hx hb hr (by decide) hlocks hK hP hD hS [0] (by decide) rfl rfl (by first | exact kb1 (by omega) | exact kb0 (by omega)) hAe hQ dX2_has_17

abbrev rm_c_Plan_place : Room := { frames := 1, cells := 0, slots := 0, locals := 21 }
set_option maxHeartbeats 4000000 in
set_option maxRecDepth 100000 in
theorem c_Plan_place (l : Launch) (D : va_G) (cI cZ : ClassId) (hp : Nat) (ob : Nat) (og : Nat) (ap : Nat) (al : Nat) (aq : Nat) (cnt : Nat) (F : Nat → Int) (z : Int) (hc : cnt ≤ 300) (hz : -2147483648 ≤ z ∧ z < 2147483648) : MI l yX2_place wsX2_place rm_c_Plan_place D (kT cI cZ) [.ref hp, .int (iI (z : Int))] [(hp, .inr (2, [.ref ob, .ref og, .ref ap, .ref al, .ref aq, .int (iI ((cnt : Nat) : Int))])), (ap, .inl (cI, 300, .inl (kA F)))] (fun (r : Int32) (_ : Unit) => r = iI (rZ F cnt z : Int)) (fun (u : Unit) => match u with | _ => [(hp, .inr (2, [.ref ob, .ref og, .ref ap, .ref al, .ref aq, .int (iI ((cnt : Nat) : Int))])), (ap, .inl (cI, 300, .inl (kA F)))]) 0 0 := by
  intro sz
  refine k_of (cc := cX2_place) (maxL := 2) (ret := (some .int)) (by decide) rfl (Nat.le_of_ble_eq_true rfl) ?_
  intro p e s m args below meth c A Q hAe hQ hx hb hr hml hts hown hlocks hnm hP hK hD hS hA ls hl
  have hl : lv_has ls 2 [(0, .ref hp), (1, .int (iI (z : Int)))] := hl
  have hi_X2 : ∀ w ∈ u_ws RX2 TX2 6, w ∈ wsX2_place := fun w h => km (ikX2 w h)
  have fl23 := hts _ (km wm80)
  refine lv_aload_n hx hb dX2_place_0 rfl (lv_at hl 0 rfl) ?_
  refine lv_iload_n hx hb dX2_place_1 rfl (lv_at hl 1 rfl) ?_
  refine k_calli (wc := [(hp, .inr (2, [.ref ob, .ref og, .ref ap, .ref al, .ref aq, .int (iI ((cnt : Nat) : Int))]))]) (wr := [(ap, .inl (cI, 300, .inl (kA F)))]) (wf := fun _ => [(hp, .inr (2, [.ref ob, .ref og, .ref ap, .ref al, .ref aq, .int (iI ((cnt : Nat) : Int))])), (ap, .inl (cI, 300, .inl (kA F)))]) hK hP hD hS hA [0] [1] [1, 0] ⟨⟨rfl, rfl, by decide⟩, rfl, by decide, by decide⟩ (fun _ => ⟨rfl, rfl⟩) (by decide) (fun hPc hDc => va_runV (As := [.int (iI (z : Int))]) (rest := []) ⟨hx, hb, hml, hown, hts⟩ (c_Plan_has l D cI cZ (hp := hp) (ob := ob) (og := og) (ap := ap) (al := al) (aq := aq) (cnt := cnt) (z := z) (hc := by omega) (hz := by omega) _) (cwV 1 hts (kgV wm256 wm257 wm258 wm41 wmcX2_has) rfl rfl rfl (by decide +kernel) ⟨Nat.le_of_ble_eq_true rfl, Nat.le_of_ble_eq_true rfl⟩) (k_preV hK hPc hDc (ci := 2) (q0 := 0) rfl rfl) rfl rfl hl.1 rfl (lv_room (Nat.le_of_ble_eq_true rfl)) dX2_place_2 ⟨Nat.le_of_ble_eq_true rfl, Nat.le_of_ble_eq_true rfl⟩) (fun r2 u H locs hw hP hD hS => ?_)
  have hP : va_P D vwCl [(hp, .inr (2, [.ref ob, .ref og, .ref ap, .ref al, .ref aq, .int (iI ((cnt : Nat) : Int))])), (ap, .inl (cI, 300, .inl (kA F)))] H := hP
  have hD : va_D A [(hp, .inr (2, [.ref ob, .ref og, .ref ap, .ref al, .ref aq, .int (iI ((cnt : Nat) : Int))])), (ap, .inl (cI, 300, .inl (kA F)))] := hD
  refine W.widen (k := 0) (n := 0) (Nat.le_of_ble_eq_true rfl) (Nat.le_of_ble_eq_true rfl) ?_
  have hw : r2 = kb (decide (0 ≤ z ∧ z < ((cnt : Nat) : Int))) := hw
  subst hw
  refine lv_if_eq (tgt := 17) hx hb dX2_place_5 (by decide) (fun c5 => ?_) (fun c5 => ?_)
  · skip
    have c5 : ¬ (0 ≤ z ∧ z < ((cnt : Nat) : Int)) := of_decide_eq_false (kb_T c5)
    refine lv_iconst (v := iI (-1 : Int)) hx hb dX2_place_17 rfl ?_
    exact k_iret () hx hb hr hlocks hK hP hD hS [0, 1] (by decide) rfl rfl (by unfold rZ; first | rw [if_pos (by omega)] | rw [if_neg (by omega)]) hAe hQ dX2_place_18
  · skip
    have c5 : 0 ≤ z ∧ z < ((cnt : Nat) : Int) := of_decide_eq_true (kb_F c5)
    refine lv_aload_n hx hb dX2_place_8 rfl (lv_at hl 0 rfl) ?_
    refine va_get (D := D) (ci := 2) (v := .ref ap) (C := RX2) (T := TX2) (N := 6) hx hb hts hi_X2 hown hK hP 0 rfl rfl 2 (by decide) fl23 (fun _ h9 => h9) rfl dX2_place_9 ?_
    refine lv_iload_n hx hb dX2_place_12 rfl (lv_at hl 1 rfl) ?_
    refine k_iald hx hb hK hP 1 0 rfl rfl z.toNat (by omega) dX2_place_13 ?_
    refine kn_i (y := iI (F z.toNat : Int)) (rfl) ?_
    refine lv_goto (tgt := 18) hx hb dX2_place_14 (by decide) ?_
    exact k_iret () hx hb hr hlocks hK hP hD hS [0, 1] (by decide) rfl rfl (by unfold rZ; first | rw [if_pos (by omega)] | rw [if_neg (by omega)]) hAe hQ dX2_place_18

abbrev rm_c_Plan_placek : Room := { frames := 1, cells := 0, slots := 0, locals := 21 }
set_option maxHeartbeats 4000000 in
set_option maxRecDepth 100000 in
theorem c_Plan_placek (l : Launch) (D : va_G) (cI cZ : ClassId) (hp : Nat) (ob : Nat) (og : Nat) (ap : Nat) (al : Nat) (aq : Nat) (cnt : Nat) (F : Nat → Int) (k : Nat) (hc : cnt ≤ 300) (hk : k < cnt) : MI l yX2_place wsX2_place rm_c_Plan_placek D (kT cI cZ) [.ref hp, .int (iI ((k : Nat) : Int))] [(hp, .inr (2, [.ref ob, .ref og, .ref ap, .ref al, .ref aq, .int (iI ((cnt : Nat) : Int))])), (ap, .inl (cI, 300, .inl (kA F)))] (fun (r : Int32) (_ : Unit) => r = iI (F k : Int)) (fun (u : Unit) => match u with | _ => [(hp, .inr (2, [.ref ob, .ref og, .ref ap, .ref al, .ref aq, .int (iI ((cnt : Nat) : Int))])), (ap, .inl (cI, 300, .inl (kA F)))]) 0 0 := by
  intro sz
  refine k_of (cc := cX2_place) (maxL := 2) (ret := (some .int)) (by decide) rfl (Nat.le_of_ble_eq_true rfl) ?_
  intro p e s m args below meth c A Q hAe hQ hx hb hr hml hts hown hlocks hnm hP hK hD hS hA ls hl
  have hl : lv_has ls 2 [(0, .ref hp), (1, .int (iI ((k : Nat) : Int)))] := hl
  have hi_X2 : ∀ w ∈ u_ws RX2 TX2 6, w ∈ wsX2_place := fun w h => km (ikX2 w h)
  have fl23 := hts _ (km wm80)
  refine lv_aload_n hx hb dX2_place_0 rfl (lv_at hl 0 rfl) ?_
  refine lv_iload_n hx hb dX2_place_1 rfl (lv_at hl 1 rfl) ?_
  refine k_calli (wc := [(hp, .inr (2, [.ref ob, .ref og, .ref ap, .ref al, .ref aq, .int (iI ((cnt : Nat) : Int))]))]) (wr := [(ap, .inl (cI, 300, .inl (kA F)))]) (wf := fun _ => [(hp, .inr (2, [.ref ob, .ref og, .ref ap, .ref al, .ref aq, .int (iI ((cnt : Nat) : Int))])), (ap, .inl (cI, 300, .inl (kA F)))]) hK hP hD hS hA [0] [1] [1, 0] ⟨⟨rfl, rfl, by decide⟩, rfl, by decide, by decide⟩ (fun _ => ⟨rfl, rfl⟩) (by decide) (fun hPc hDc => va_runV (As := [.int (iI ((k : Nat) : Int))]) (rest := []) ⟨hx, hb, hml, hown, hts⟩ (c_Plan_has l D cI cZ (hp := hp) (ob := ob) (og := og) (ap := ap) (al := al) (aq := aq) (cnt := cnt) (z := ((k : Nat) : Int)) (hc := by omega) (hz := by omega) _) (cwV 1 hts (kgV wm256 wm257 wm258 wm41 wmcX2_has) rfl rfl rfl (by decide +kernel) ⟨Nat.le_of_ble_eq_true rfl, Nat.le_of_ble_eq_true rfl⟩) (k_preV hK hPc hDc (ci := 2) (q0 := 0) rfl rfl) rfl rfl hl.1 rfl (lv_room (Nat.le_of_ble_eq_true rfl)) dX2_place_2 ⟨Nat.le_of_ble_eq_true rfl, Nat.le_of_ble_eq_true rfl⟩) (fun r2 u H locs hw hP hD hS => ?_)
  have hP : va_P D vwCl [(hp, .inr (2, [.ref ob, .ref og, .ref ap, .ref al, .ref aq, .int (iI ((cnt : Nat) : Int))])), (ap, .inl (cI, 300, .inl (kA F)))] H := hP
  have hD : va_D A [(hp, .inr (2, [.ref ob, .ref og, .ref ap, .ref al, .ref aq, .int (iI ((cnt : Nat) : Int))])), (ap, .inl (cI, 300, .inl (kA F)))] := hD
  refine W.widen (k := 0) (n := 0) (Nat.le_of_ble_eq_true rfl) (Nat.le_of_ble_eq_true rfl) ?_
  have hw : r2 = kb (decide (0 ≤ ((k : Nat) : Int) ∧ ((k : Nat) : Int) < ((cnt : Nat) : Int))) := hw
  subst hw
  refine lv_if_eq (tgt := 17) hx hb dX2_place_5 (by decide) (fun c5 => ?_) (fun c5 => ?_)
  · skip
    have c5 : ¬ (0 ≤ ((k : Nat) : Int) ∧ ((k : Nat) : Int) < ((cnt : Nat) : Int)) := of_decide_eq_false (kb_T c5)
    omega
  · skip
    have c5 : 0 ≤ ((k : Nat) : Int) ∧ ((k : Nat) : Int) < ((cnt : Nat) : Int) := of_decide_eq_true (kb_F c5)
    refine lv_aload_n hx hb dX2_place_8 rfl (lv_at hl 0 rfl) ?_
    refine va_get (D := D) (ci := 2) (v := .ref ap) (C := RX2) (T := TX2) (N := 6) hx hb hts hi_X2 hown hK hP 0 rfl rfl 2 (by decide) fl23 (fun _ h9 => h9) rfl dX2_place_9 ?_
    refine lv_iload_n hx hb dX2_place_12 rfl (lv_at hl 1 rfl) ?_
    refine k_iald hx hb hK hP 1 0 rfl rfl k (by omega) dX2_place_13 ?_
    refine kn_i (y := iI (F k : Int)) (rfl) ?_
    refine lv_goto (tgt := 18) hx hb dX2_place_14 (by decide) ?_
    exact k_iret () hx hb hr hlocks hK hP hD hS [0, 1] (by decide) rfl rfl (rfl) hAe hQ dX2_place_18

abbrev rm_c_Plan_length : Room := { frames := 1, cells := 0, slots := 0, locals := 21 }
set_option maxHeartbeats 4000000 in
set_option maxRecDepth 100000 in
theorem c_Plan_length (l : Launch) (D : va_G) (cI cZ : ClassId) (hp : Nat) (ob : Nat) (og : Nat) (ap : Nat) (al : Nat) (aq : Nat) (cnt : Nat) (F : Nat → Int) (z : Int) (hc : cnt ≤ 300) (hz : -2147483648 ≤ z ∧ z < 2147483648) : MI l yX2_length wsX2_length rm_c_Plan_length D (kT cI cZ) [.ref hp, .int (iI (z : Int))] [(hp, .inr (2, [.ref ob, .ref og, .ref ap, .ref al, .ref aq, .int (iI ((cnt : Nat) : Int))])), (al, .inl (cI, 300, .inl (kA F)))] (fun (r : Int32) (_ : Unit) => r = iI (rZ F cnt z : Int)) (fun (u : Unit) => match u with | _ => [(hp, .inr (2, [.ref ob, .ref og, .ref ap, .ref al, .ref aq, .int (iI ((cnt : Nat) : Int))])), (al, .inl (cI, 300, .inl (kA F)))]) 0 0 := by
  intro sz
  refine k_of (cc := cX2_length) (maxL := 2) (ret := (some .int)) (by decide) rfl (Nat.le_of_ble_eq_true rfl) ?_
  intro p e s m args below meth c A Q hAe hQ hx hb hr hml hts hown hlocks hnm hP hK hD hS hA ls hl
  have hl : lv_has ls 2 [(0, .ref hp), (1, .int (iI (z : Int)))] := hl
  have hi_X2 : ∀ w ∈ u_ws RX2 TX2 6, w ∈ wsX2_length := fun w h => km (ikX2 w h)
  have fl27 := hts _ (km wm81)
  refine lv_aload_n hx hb dX2_length_0 rfl (lv_at hl 0 rfl) ?_
  refine lv_iload_n hx hb dX2_length_1 rfl (lv_at hl 1 rfl) ?_
  refine k_calli (wc := [(hp, .inr (2, [.ref ob, .ref og, .ref ap, .ref al, .ref aq, .int (iI ((cnt : Nat) : Int))]))]) (wr := [(al, .inl (cI, 300, .inl (kA F)))]) (wf := fun _ => [(hp, .inr (2, [.ref ob, .ref og, .ref ap, .ref al, .ref aq, .int (iI ((cnt : Nat) : Int))])), (al, .inl (cI, 300, .inl (kA F)))]) hK hP hD hS hA [0] [1] [1, 0] ⟨⟨rfl, rfl, by decide⟩, rfl, by decide, by decide⟩ (fun _ => ⟨rfl, rfl⟩) (by decide) (fun hPc hDc => va_runV (As := [.int (iI (z : Int))]) (rest := []) ⟨hx, hb, hml, hown, hts⟩ (c_Plan_has l D cI cZ (hp := hp) (ob := ob) (og := og) (ap := ap) (al := al) (aq := aq) (cnt := cnt) (z := z) (hc := by omega) (hz := by omega) _) (cwV 1 hts (kgV wm256 wm257 wm258 wm41 wmcX2_has) rfl rfl rfl (by decide +kernel) ⟨Nat.le_of_ble_eq_true rfl, Nat.le_of_ble_eq_true rfl⟩) (k_preV hK hPc hDc (ci := 2) (q0 := 0) rfl rfl) rfl rfl hl.1 rfl (lv_room (Nat.le_of_ble_eq_true rfl)) dX2_length_2 ⟨Nat.le_of_ble_eq_true rfl, Nat.le_of_ble_eq_true rfl⟩) (fun r2 u H locs hw hP hD hS => ?_)
  have hP : va_P D vwCl [(hp, .inr (2, [.ref ob, .ref og, .ref ap, .ref al, .ref aq, .int (iI ((cnt : Nat) : Int))])), (al, .inl (cI, 300, .inl (kA F)))] H := hP
  have hD : va_D A [(hp, .inr (2, [.ref ob, .ref og, .ref ap, .ref al, .ref aq, .int (iI ((cnt : Nat) : Int))])), (al, .inl (cI, 300, .inl (kA F)))] := hD
  refine W.widen (k := 0) (n := 0) (Nat.le_of_ble_eq_true rfl) (Nat.le_of_ble_eq_true rfl) ?_
  have hw : r2 = kb (decide (0 ≤ z ∧ z < ((cnt : Nat) : Int))) := hw
  subst hw
  refine lv_if_eq (tgt := 17) hx hb dX2_length_5 (by decide) (fun c5 => ?_) (fun c5 => ?_)
  · skip
    have c5 : ¬ (0 ≤ z ∧ z < ((cnt : Nat) : Int)) := of_decide_eq_false (kb_T c5)
    refine lv_iconst (v := iI (-1 : Int)) hx hb dX2_length_17 rfl ?_
    exact k_iret () hx hb hr hlocks hK hP hD hS [0, 1] (by decide) rfl rfl (by unfold rZ; first | rw [if_pos (by omega)] | rw [if_neg (by omega)]) hAe hQ dX2_length_18
  · skip
    have c5 : 0 ≤ z ∧ z < ((cnt : Nat) : Int) := of_decide_eq_true (kb_F c5)
    refine lv_aload_n hx hb dX2_length_8 rfl (lv_at hl 0 rfl) ?_
    refine va_get (D := D) (ci := 2) (v := .ref al) (C := RX2) (T := TX2) (N := 6) hx hb hts hi_X2 hown hK hP 0 rfl rfl 3 (by decide) fl27 (fun _ h9 => h9) rfl dX2_length_9 ?_
    refine lv_iload_n hx hb dX2_length_12 rfl (lv_at hl 1 rfl) ?_
    refine k_iald hx hb hK hP 1 0 rfl rfl z.toNat (by omega) dX2_length_13 ?_
    refine kn_i (y := iI (F z.toNat : Int)) (rfl) ?_
    refine lv_goto (tgt := 18) hx hb dX2_length_14 (by decide) ?_
    exact k_iret () hx hb hr hlocks hK hP hD hS [0, 1] (by decide) rfl rfl (by unfold rZ; first | rw [if_pos (by omega)] | rw [if_neg (by omega)]) hAe hQ dX2_length_18

abbrev rm_c_Plan_lengthk : Room := { frames := 1, cells := 0, slots := 0, locals := 21 }
set_option maxHeartbeats 4000000 in
set_option maxRecDepth 100000 in
theorem c_Plan_lengthk (l : Launch) (D : va_G) (cI cZ : ClassId) (hp : Nat) (ob : Nat) (og : Nat) (ap : Nat) (al : Nat) (aq : Nat) (cnt : Nat) (F : Nat → Int) (k : Nat) (hc : cnt ≤ 300) (hk : k < cnt) : MI l yX2_length wsX2_length rm_c_Plan_lengthk D (kT cI cZ) [.ref hp, .int (iI ((k : Nat) : Int))] [(hp, .inr (2, [.ref ob, .ref og, .ref ap, .ref al, .ref aq, .int (iI ((cnt : Nat) : Int))])), (al, .inl (cI, 300, .inl (kA F)))] (fun (r : Int32) (_ : Unit) => r = iI (F k : Int)) (fun (u : Unit) => match u with | _ => [(hp, .inr (2, [.ref ob, .ref og, .ref ap, .ref al, .ref aq, .int (iI ((cnt : Nat) : Int))])), (al, .inl (cI, 300, .inl (kA F)))]) 0 0 := by
  intro sz
  refine k_of (cc := cX2_length) (maxL := 2) (ret := (some .int)) (by decide) rfl (Nat.le_of_ble_eq_true rfl) ?_
  intro p e s m args below meth c A Q hAe hQ hx hb hr hml hts hown hlocks hnm hP hK hD hS hA ls hl
  have hl : lv_has ls 2 [(0, .ref hp), (1, .int (iI ((k : Nat) : Int)))] := hl
  have hi_X2 : ∀ w ∈ u_ws RX2 TX2 6, w ∈ wsX2_length := fun w h => km (ikX2 w h)
  have fl27 := hts _ (km wm81)
  refine lv_aload_n hx hb dX2_length_0 rfl (lv_at hl 0 rfl) ?_
  refine lv_iload_n hx hb dX2_length_1 rfl (lv_at hl 1 rfl) ?_
  refine k_calli (wc := [(hp, .inr (2, [.ref ob, .ref og, .ref ap, .ref al, .ref aq, .int (iI ((cnt : Nat) : Int))]))]) (wr := [(al, .inl (cI, 300, .inl (kA F)))]) (wf := fun _ => [(hp, .inr (2, [.ref ob, .ref og, .ref ap, .ref al, .ref aq, .int (iI ((cnt : Nat) : Int))])), (al, .inl (cI, 300, .inl (kA F)))]) hK hP hD hS hA [0] [1] [1, 0] ⟨⟨rfl, rfl, by decide⟩, rfl, by decide, by decide⟩ (fun _ => ⟨rfl, rfl⟩) (by decide) (fun hPc hDc => va_runV (As := [.int (iI ((k : Nat) : Int))]) (rest := []) ⟨hx, hb, hml, hown, hts⟩ (c_Plan_has l D cI cZ (hp := hp) (ob := ob) (og := og) (ap := ap) (al := al) (aq := aq) (cnt := cnt) (z := ((k : Nat) : Int)) (hc := by omega) (hz := by omega) _) (cwV 1 hts (kgV wm256 wm257 wm258 wm41 wmcX2_has) rfl rfl rfl (by decide +kernel) ⟨Nat.le_of_ble_eq_true rfl, Nat.le_of_ble_eq_true rfl⟩) (k_preV hK hPc hDc (ci := 2) (q0 := 0) rfl rfl) rfl rfl hl.1 rfl (lv_room (Nat.le_of_ble_eq_true rfl)) dX2_length_2 ⟨Nat.le_of_ble_eq_true rfl, Nat.le_of_ble_eq_true rfl⟩) (fun r2 u H locs hw hP hD hS => ?_)
  have hP : va_P D vwCl [(hp, .inr (2, [.ref ob, .ref og, .ref ap, .ref al, .ref aq, .int (iI ((cnt : Nat) : Int))])), (al, .inl (cI, 300, .inl (kA F)))] H := hP
  have hD : va_D A [(hp, .inr (2, [.ref ob, .ref og, .ref ap, .ref al, .ref aq, .int (iI ((cnt : Nat) : Int))])), (al, .inl (cI, 300, .inl (kA F)))] := hD
  refine W.widen (k := 0) (n := 0) (Nat.le_of_ble_eq_true rfl) (Nat.le_of_ble_eq_true rfl) ?_
  have hw : r2 = kb (decide (0 ≤ ((k : Nat) : Int) ∧ ((k : Nat) : Int) < ((cnt : Nat) : Int))) := hw
  subst hw
  refine lv_if_eq (tgt := 17) hx hb dX2_length_5 (by decide) (fun c5 => ?_) (fun c5 => ?_)
  · skip
    have c5 : ¬ (0 ≤ ((k : Nat) : Int) ∧ ((k : Nat) : Int) < ((cnt : Nat) : Int)) := of_decide_eq_false (kb_T c5)
    omega
  · skip
    have c5 : 0 ≤ ((k : Nat) : Int) ∧ ((k : Nat) : Int) < ((cnt : Nat) : Int) := of_decide_eq_true (kb_F c5)
    refine lv_aload_n hx hb dX2_length_8 rfl (lv_at hl 0 rfl) ?_
    refine va_get (D := D) (ci := 2) (v := .ref al) (C := RX2) (T := TX2) (N := 6) hx hb hts hi_X2 hown hK hP 0 rfl rfl 3 (by decide) fl27 (fun _ h9 => h9) rfl dX2_length_9 ?_
    refine lv_iload_n hx hb dX2_length_12 rfl (lv_at hl 1 rfl) ?_
    refine k_iald hx hb hK hP 1 0 rfl rfl k (by omega) dX2_length_13 ?_
    refine kn_i (y := iI (F k : Int)) (rfl) ?_
    refine lv_goto (tgt := 18) hx hb dX2_length_14 (by decide) ?_
    exact k_iret () hx hb hr hlocks hK hP hD hS [0, 1] (by decide) rfl rfl (rfl) hAe hQ dX2_length_18

abbrev rm_c_Plan_source : Room := { frames := 1, cells := 0, slots := 0, locals := 21 }
set_option maxHeartbeats 4000000 in
set_option maxRecDepth 100000 in
theorem c_Plan_source (l : Launch) (D : va_G) (cI cZ : ClassId) (hp : Nat) (ob : Nat) (og : Nat) (ap : Nat) (al : Nat) (aq : Nat) (cnt : Nat) (F : Nat → Int) (z : Int) (hc : cnt ≤ 300) (hz : -2147483648 ≤ z ∧ z < 2147483648) : MI l yX2_source wsX2_source rm_c_Plan_source D (kT cI cZ) [.ref hp, .int (iI (z : Int))] [(hp, .inr (2, [.ref ob, .ref og, .ref ap, .ref al, .ref aq, .int (iI ((cnt : Nat) : Int))])), (aq, .inl (cI, 300, .inl (kA F)))] (fun (r : Int32) (_ : Unit) => r = iI (rZ F cnt z : Int)) (fun (u : Unit) => match u with | _ => [(hp, .inr (2, [.ref ob, .ref og, .ref ap, .ref al, .ref aq, .int (iI ((cnt : Nat) : Int))])), (aq, .inl (cI, 300, .inl (kA F)))]) 0 0 := by
  intro sz
  refine k_of (cc := cX2_source) (maxL := 2) (ret := (some .int)) (by decide) rfl (Nat.le_of_ble_eq_true rfl) ?_
  intro p e s m args below meth c A Q hAe hQ hx hb hr hml hts hown hlocks hnm hP hK hD hS hA ls hl
  have hl : lv_has ls 2 [(0, .ref hp), (1, .int (iI (z : Int)))] := hl
  have hi_X2 : ∀ w ∈ u_ws RX2 TX2 6, w ∈ wsX2_source := fun w h => km (ikX2 w h)
  have fl30 := hts _ (km wm82)
  refine lv_aload_n hx hb dX2_source_0 rfl (lv_at hl 0 rfl) ?_
  refine lv_iload_n hx hb dX2_source_1 rfl (lv_at hl 1 rfl) ?_
  refine k_calli (wc := [(hp, .inr (2, [.ref ob, .ref og, .ref ap, .ref al, .ref aq, .int (iI ((cnt : Nat) : Int))]))]) (wr := [(aq, .inl (cI, 300, .inl (kA F)))]) (wf := fun _ => [(hp, .inr (2, [.ref ob, .ref og, .ref ap, .ref al, .ref aq, .int (iI ((cnt : Nat) : Int))])), (aq, .inl (cI, 300, .inl (kA F)))]) hK hP hD hS hA [0] [1] [1, 0] ⟨⟨rfl, rfl, by decide⟩, rfl, by decide, by decide⟩ (fun _ => ⟨rfl, rfl⟩) (by decide) (fun hPc hDc => va_runV (As := [.int (iI (z : Int))]) (rest := []) ⟨hx, hb, hml, hown, hts⟩ (c_Plan_has l D cI cZ (hp := hp) (ob := ob) (og := og) (ap := ap) (al := al) (aq := aq) (cnt := cnt) (z := z) (hc := by omega) (hz := by omega) _) (cwV 1 hts (kgV wm256 wm257 wm258 wm41 wmcX2_has) rfl rfl rfl (by decide +kernel) ⟨Nat.le_of_ble_eq_true rfl, Nat.le_of_ble_eq_true rfl⟩) (k_preV hK hPc hDc (ci := 2) (q0 := 0) rfl rfl) rfl rfl hl.1 rfl (lv_room (Nat.le_of_ble_eq_true rfl)) dX2_source_2 ⟨Nat.le_of_ble_eq_true rfl, Nat.le_of_ble_eq_true rfl⟩) (fun r2 u H locs hw hP hD hS => ?_)
  have hP : va_P D vwCl [(hp, .inr (2, [.ref ob, .ref og, .ref ap, .ref al, .ref aq, .int (iI ((cnt : Nat) : Int))])), (aq, .inl (cI, 300, .inl (kA F)))] H := hP
  have hD : va_D A [(hp, .inr (2, [.ref ob, .ref og, .ref ap, .ref al, .ref aq, .int (iI ((cnt : Nat) : Int))])), (aq, .inl (cI, 300, .inl (kA F)))] := hD
  refine W.widen (k := 0) (n := 0) (Nat.le_of_ble_eq_true rfl) (Nat.le_of_ble_eq_true rfl) ?_
  have hw : r2 = kb (decide (0 ≤ z ∧ z < ((cnt : Nat) : Int))) := hw
  subst hw
  refine lv_if_eq (tgt := 17) hx hb dX2_source_5 (by decide) (fun c5 => ?_) (fun c5 => ?_)
  · skip
    have c5 : ¬ (0 ≤ z ∧ z < ((cnt : Nat) : Int)) := of_decide_eq_false (kb_T c5)
    refine lv_iconst (v := iI (-1 : Int)) hx hb dX2_source_17 rfl ?_
    exact k_iret () hx hb hr hlocks hK hP hD hS [0, 1] (by decide) rfl rfl (by unfold rZ; first | rw [if_pos (by omega)] | rw [if_neg (by omega)]) hAe hQ dX2_source_18
  · skip
    have c5 : 0 ≤ z ∧ z < ((cnt : Nat) : Int) := of_decide_eq_true (kb_F c5)
    refine lv_aload_n hx hb dX2_source_8 rfl (lv_at hl 0 rfl) ?_
    refine va_get (D := D) (ci := 2) (v := .ref aq) (C := RX2) (T := TX2) (N := 6) hx hb hts hi_X2 hown hK hP 0 rfl rfl 4 (by decide) fl30 (fun _ h9 => h9) rfl dX2_source_9 ?_
    refine lv_iload_n hx hb dX2_source_12 rfl (lv_at hl 1 rfl) ?_
    refine k_iald hx hb hK hP 1 0 rfl rfl z.toNat (by omega) dX2_source_13 ?_
    refine kn_i (y := iI (F z.toNat : Int)) (rfl) ?_
    refine lv_goto (tgt := 18) hx hb dX2_source_14 (by decide) ?_
    exact k_iret () hx hb hr hlocks hK hP hD hS [0, 1] (by decide) rfl rfl (by unfold rZ; first | rw [if_pos (by omega)] | rw [if_neg (by omega)]) hAe hQ dX2_source_18

abbrev rm_c_Plan_sourcek : Room := { frames := 1, cells := 0, slots := 0, locals := 21 }
set_option maxHeartbeats 4000000 in
set_option maxRecDepth 100000 in
theorem c_Plan_sourcek (l : Launch) (D : va_G) (cI cZ : ClassId) (hp : Nat) (ob : Nat) (og : Nat) (ap : Nat) (al : Nat) (aq : Nat) (cnt : Nat) (F : Nat → Int) (k : Nat) (hc : cnt ≤ 300) (hk : k < cnt) : MI l yX2_source wsX2_source rm_c_Plan_sourcek D (kT cI cZ) [.ref hp, .int (iI ((k : Nat) : Int))] [(hp, .inr (2, [.ref ob, .ref og, .ref ap, .ref al, .ref aq, .int (iI ((cnt : Nat) : Int))])), (aq, .inl (cI, 300, .inl (kA F)))] (fun (r : Int32) (_ : Unit) => r = iI (F k : Int)) (fun (u : Unit) => match u with | _ => [(hp, .inr (2, [.ref ob, .ref og, .ref ap, .ref al, .ref aq, .int (iI ((cnt : Nat) : Int))])), (aq, .inl (cI, 300, .inl (kA F)))]) 0 0 := by
  intro sz
  refine k_of (cc := cX2_source) (maxL := 2) (ret := (some .int)) (by decide) rfl (Nat.le_of_ble_eq_true rfl) ?_
  intro p e s m args below meth c A Q hAe hQ hx hb hr hml hts hown hlocks hnm hP hK hD hS hA ls hl
  have hl : lv_has ls 2 [(0, .ref hp), (1, .int (iI ((k : Nat) : Int)))] := hl
  have hi_X2 : ∀ w ∈ u_ws RX2 TX2 6, w ∈ wsX2_source := fun w h => km (ikX2 w h)
  have fl30 := hts _ (km wm82)
  refine lv_aload_n hx hb dX2_source_0 rfl (lv_at hl 0 rfl) ?_
  refine lv_iload_n hx hb dX2_source_1 rfl (lv_at hl 1 rfl) ?_
  refine k_calli (wc := [(hp, .inr (2, [.ref ob, .ref og, .ref ap, .ref al, .ref aq, .int (iI ((cnt : Nat) : Int))]))]) (wr := [(aq, .inl (cI, 300, .inl (kA F)))]) (wf := fun _ => [(hp, .inr (2, [.ref ob, .ref og, .ref ap, .ref al, .ref aq, .int (iI ((cnt : Nat) : Int))])), (aq, .inl (cI, 300, .inl (kA F)))]) hK hP hD hS hA [0] [1] [1, 0] ⟨⟨rfl, rfl, by decide⟩, rfl, by decide, by decide⟩ (fun _ => ⟨rfl, rfl⟩) (by decide) (fun hPc hDc => va_runV (As := [.int (iI ((k : Nat) : Int))]) (rest := []) ⟨hx, hb, hml, hown, hts⟩ (c_Plan_has l D cI cZ (hp := hp) (ob := ob) (og := og) (ap := ap) (al := al) (aq := aq) (cnt := cnt) (z := ((k : Nat) : Int)) (hc := by omega) (hz := by omega) _) (cwV 1 hts (kgV wm256 wm257 wm258 wm41 wmcX2_has) rfl rfl rfl (by decide +kernel) ⟨Nat.le_of_ble_eq_true rfl, Nat.le_of_ble_eq_true rfl⟩) (k_preV hK hPc hDc (ci := 2) (q0 := 0) rfl rfl) rfl rfl hl.1 rfl (lv_room (Nat.le_of_ble_eq_true rfl)) dX2_source_2 ⟨Nat.le_of_ble_eq_true rfl, Nat.le_of_ble_eq_true rfl⟩) (fun r2 u H locs hw hP hD hS => ?_)
  have hP : va_P D vwCl [(hp, .inr (2, [.ref ob, .ref og, .ref ap, .ref al, .ref aq, .int (iI ((cnt : Nat) : Int))])), (aq, .inl (cI, 300, .inl (kA F)))] H := hP
  have hD : va_D A [(hp, .inr (2, [.ref ob, .ref og, .ref ap, .ref al, .ref aq, .int (iI ((cnt : Nat) : Int))])), (aq, .inl (cI, 300, .inl (kA F)))] := hD
  refine W.widen (k := 0) (n := 0) (Nat.le_of_ble_eq_true rfl) (Nat.le_of_ble_eq_true rfl) ?_
  have hw : r2 = kb (decide (0 ≤ ((k : Nat) : Int) ∧ ((k : Nat) : Int) < ((cnt : Nat) : Int))) := hw
  subst hw
  refine lv_if_eq (tgt := 17) hx hb dX2_source_5 (by decide) (fun c5 => ?_) (fun c5 => ?_)
  · skip
    have c5 : ¬ (0 ≤ ((k : Nat) : Int) ∧ ((k : Nat) : Int) < ((cnt : Nat) : Int)) := of_decide_eq_false (kb_T c5)
    omega
  · skip
    have c5 : 0 ≤ ((k : Nat) : Int) ∧ ((k : Nat) : Int) < ((cnt : Nat) : Int) := of_decide_eq_true (kb_F c5)
    refine lv_aload_n hx hb dX2_source_8 rfl (lv_at hl 0 rfl) ?_
    refine va_get (D := D) (ci := 2) (v := .ref aq) (C := RX2) (T := TX2) (N := 6) hx hb hts hi_X2 hown hK hP 0 rfl rfl 4 (by decide) fl30 (fun _ h9 => h9) rfl dX2_source_9 ?_
    refine lv_iload_n hx hb dX2_source_12 rfl (lv_at hl 1 rfl) ?_
    refine k_iald hx hb hK hP 1 0 rfl rfl k (by omega) dX2_source_13 ?_
    refine kn_i (y := iI (F k : Int)) (rfl) ?_
    refine lv_goto (tgt := 18) hx hb dX2_source_14 (by decide) ?_
    exact k_iret () hx hb hr hlocks hK hP hD hS [0, 1] (by decide) rfl rfl (rfl) hAe hQ dX2_source_18

abbrev rm_c_Plan_isCopy : Room := { frames := 2, cells := 0, slots := 0, locals := 42 }
set_option maxHeartbeats 4000000 in
set_option maxRecDepth 100000 in
theorem c_Plan_isCopy (l : Launch) (D : va_G) (cI cZ : ClassId) (hp : Nat) (ob : Nat) (og : Nat) (ap : Nat) (al : Nat) (aq : Nat) (cnt : Nat) (F : Nat → Int) (z : Int) (hc : cnt ≤ 300) (hz : -2147483648 ≤ z ∧ z < 2147483648) (hF : ∀ i, i < cnt → -1 ≤ F i ∧ F i ≤ 300) : MI l yX2_isCopy wsX2_isCopy rm_c_Plan_isCopy D (kT cI cZ) [.ref hp, .int (iI (z : Int))] [(hp, .inr (2, [.ref ob, .ref og, .ref ap, .ref al, .ref aq, .int (iI ((cnt : Nat) : Int))])), (aq, .inl (cI, 300, .inl (kA F)))] (fun (r : Int32) (_ : Unit) => r = kb (decide (¬ rZ F cnt z = -1))) (fun (u : Unit) => match u with | _ => [(hp, .inr (2, [.ref ob, .ref og, .ref ap, .ref al, .ref aq, .int (iI ((cnt : Nat) : Int))])), (aq, .inl (cI, 300, .inl (kA F)))]) 0 0 := by
  intro sz
  refine k_of (cc := cX2_isCopy) (maxL := 2) (ret := (some .boolean)) (by decide) rfl (Nat.le_of_ble_eq_true rfl) ?_
  intro p e s m args below meth c A Q hAe hQ hx hb hr hml hts hown hlocks hnm hP hK hD hS hA ls hl
  have hl : lv_has ls 2 [(0, .ref hp), (1, .int (iI (z : Int)))] := hl
  have hrz := rZ_rng (P := F) (n := cnt) (z := z) (b := 300) (by omega) hF
  refine lv_aload_n hx hb dX2_isCopy_0 rfl (lv_at hl 0 rfl) ?_
  refine lv_iload_n hx hb dX2_isCopy_1 rfl (lv_at hl 1 rfl) ?_
  refine k_calli (wc := [(hp, .inr (2, [.ref ob, .ref og, .ref ap, .ref al, .ref aq, .int (iI ((cnt : Nat) : Int))])), (aq, .inl (cI, 300, .inl (kA F)))]) (wr := []) (wf := fun _ => [(hp, .inr (2, [.ref ob, .ref og, .ref ap, .ref al, .ref aq, .int (iI ((cnt : Nat) : Int))])), (aq, .inl (cI, 300, .inl (kA F)))]) hK hP hD hS hA [0, 1] [] [0, 1] ⟨⟨rfl, rfl, by decide⟩, rfl, by decide, by decide⟩ (fun _ => ⟨rfl, rfl⟩) (by decide) (fun hPc hDc => va_runV (As := [.int (iI (z : Int))]) (rest := []) ⟨hx, hb, hml, hown, hts⟩ (c_Plan_source l D cI cZ (hp := hp) (ob := ob) (og := og) (ap := ap) (al := al) (aq := aq) (cnt := cnt) (F := F) (z := z) (hc := by omega) (hz := by omega) _) (cwV 1 hts (kgV wm264 wm265 wm266 wm41 wmcX2_source) rfl rfl rfl (by decide +kernel) ⟨Nat.le_of_ble_eq_true rfl, Nat.le_of_ble_eq_true rfl⟩) (k_preV hK hPc hDc (ci := 2) (q0 := 0) rfl rfl) rfl rfl hl.1 rfl (lv_room (Nat.le_of_ble_eq_true rfl)) dX2_isCopy_2 ⟨Nat.le_of_ble_eq_true rfl, Nat.le_of_ble_eq_true rfl⟩) (fun r2 u H locs hw hP hD hS => ?_)
  have hP : va_P D vwCl [(hp, .inr (2, [.ref ob, .ref og, .ref ap, .ref al, .ref aq, .int (iI ((cnt : Nat) : Int))])), (aq, .inl (cI, 300, .inl (kA F)))] H := hP
  have hD : va_D A [(hp, .inr (2, [.ref ob, .ref og, .ref ap, .ref al, .ref aq, .int (iI ((cnt : Nat) : Int))])), (aq, .inl (cI, 300, .inl (kA F)))] := hD
  refine W.widen (k := 0) (n := 0) (Nat.le_of_ble_eq_true rfl) (Nat.le_of_ble_eq_true rfl) ?_
  have hw : r2 = iI (rZ F cnt z : Int) := hw
  subst hw
  refine lv_iconst (v := iI (-1 : Int)) hx hb dX2_isCopy_5 rfl ?_
  refine lv_icmp_eq (tgt := 13) hx hb dX2_isCopy_6 (by decide) (fun c6 => ?_) (fun c6 => ?_)
  · skip
    have c6 := iI_eqT (a := (rZ F cnt z : Int)) (b := (-1 : Int)) c6 (by omega)
    refine lv_iconst (v := iI (0 : Int)) hx hb dX2_isCopy_13 rfl ?_
    exact k_zret () hx hb hr (by decide) hlocks hK hP hD hS [0, 1] (by decide) rfl rfl (by first | exact kb1 (by omega) | exact kb0 (by omega)) hAe hQ dX2_isCopy_14
  · skip
    have c6 := iI_eqF (a := (rZ F cnt z : Int)) (b := (-1 : Int)) c6 (by omega)
    refine lv_iconst (v := iI (1 : Int)) hx hb dX2_isCopy_9 rfl ?_
    refine lv_goto (tgt := 14) hx hb dX2_isCopy_10 (by decide) ?_
    exact k_zret () hx hb hr (by decide) hlocks hK hP hD hS [0, 1] (by decide) rfl rfl (by first | exact kb1 (by omega) | exact kb0 (by omega)) hAe hQ dX2_isCopy_14

abbrev rm_c_Plan_isCopyk : Room := { frames := 2, cells := 0, slots := 0, locals := 42 }
set_option maxHeartbeats 4000000 in
set_option maxRecDepth 100000 in
theorem c_Plan_isCopyk (l : Launch) (D : va_G) (cI cZ : ClassId) (hp : Nat) (ob : Nat) (og : Nat) (ap : Nat) (al : Nat) (aq : Nat) (cnt : Nat) (F : Nat → Int) (k : Nat) (hc : cnt ≤ 300) (hk : k < cnt) (hF : ∀ i, i < cnt → -1 ≤ F i ∧ F i ≤ 300) : MI l yX2_isCopy wsX2_isCopy rm_c_Plan_isCopyk D (kT cI cZ) [.ref hp, .int (iI ((k : Nat) : Int))] [(hp, .inr (2, [.ref ob, .ref og, .ref ap, .ref al, .ref aq, .int (iI ((cnt : Nat) : Int))])), (aq, .inl (cI, 300, .inl (kA F)))] (fun (r : Int32) (_ : Unit) => r = kb (decide (¬ F k = -1))) (fun (u : Unit) => match u with | _ => [(hp, .inr (2, [.ref ob, .ref og, .ref ap, .ref al, .ref aq, .int (iI ((cnt : Nat) : Int))])), (aq, .inl (cI, 300, .inl (kA F)))]) 0 0 := by
  intro sz
  refine k_of (cc := cX2_isCopy) (maxL := 2) (ret := (some .boolean)) (by decide) rfl (Nat.le_of_ble_eq_true rfl) ?_
  intro p e s m args below meth c A Q hAe hQ hx hb hr hml hts hown hlocks hnm hP hK hD hS hA ls hl
  have hl : lv_has ls 2 [(0, .ref hp), (1, .int (iI ((k : Nat) : Int)))] := hl
  have hrz := hF k hk
  refine lv_aload_n hx hb dX2_isCopy_0 rfl (lv_at hl 0 rfl) ?_
  refine lv_iload_n hx hb dX2_isCopy_1 rfl (lv_at hl 1 rfl) ?_
  refine k_calli (wc := [(hp, .inr (2, [.ref ob, .ref og, .ref ap, .ref al, .ref aq, .int (iI ((cnt : Nat) : Int))])), (aq, .inl (cI, 300, .inl (kA F)))]) (wr := []) (wf := fun _ => [(hp, .inr (2, [.ref ob, .ref og, .ref ap, .ref al, .ref aq, .int (iI ((cnt : Nat) : Int))])), (aq, .inl (cI, 300, .inl (kA F)))]) hK hP hD hS hA [0, 1] [] [0, 1] ⟨⟨rfl, rfl, by decide⟩, rfl, by decide, by decide⟩ (fun _ => ⟨rfl, rfl⟩) (by decide) (fun hPc hDc => va_runV (As := [.int (iI ((k : Nat) : Int))]) (rest := []) ⟨hx, hb, hml, hown, hts⟩ (c_Plan_sourcek l D cI cZ (hp := hp) (ob := ob) (og := og) (ap := ap) (al := al) (aq := aq) (cnt := cnt) (F := F) (k := k) (hc := by omega) (hk := by omega) _) (cwV 1 hts (kgV wm264 wm265 wm266 wm41 wmcX2_source) rfl rfl rfl (by decide +kernel) ⟨Nat.le_of_ble_eq_true rfl, Nat.le_of_ble_eq_true rfl⟩) (k_preV hK hPc hDc (ci := 2) (q0 := 0) rfl rfl) rfl rfl hl.1 rfl (lv_room (Nat.le_of_ble_eq_true rfl)) dX2_isCopy_2 ⟨Nat.le_of_ble_eq_true rfl, Nat.le_of_ble_eq_true rfl⟩) (fun r2 u H locs hw hP hD hS => ?_)
  have hP : va_P D vwCl [(hp, .inr (2, [.ref ob, .ref og, .ref ap, .ref al, .ref aq, .int (iI ((cnt : Nat) : Int))])), (aq, .inl (cI, 300, .inl (kA F)))] H := hP
  have hD : va_D A [(hp, .inr (2, [.ref ob, .ref og, .ref ap, .ref al, .ref aq, .int (iI ((cnt : Nat) : Int))])), (aq, .inl (cI, 300, .inl (kA F)))] := hD
  refine W.widen (k := 0) (n := 0) (Nat.le_of_ble_eq_true rfl) (Nat.le_of_ble_eq_true rfl) ?_
  have hw : r2 = iI (F k : Int) := hw
  subst hw
  refine lv_iconst (v := iI (-1 : Int)) hx hb dX2_isCopy_5 rfl ?_
  refine lv_icmp_eq (tgt := 13) hx hb dX2_isCopy_6 (by decide) (fun c6 => ?_) (fun c6 => ?_)
  · skip
    have c6 := iI_eqT (a := (F k : Int)) (b := (-1 : Int)) c6 (by omega)
    refine lv_iconst (v := iI (0 : Int)) hx hb dX2_isCopy_13 rfl ?_
    exact k_zret () hx hb hr (by decide) hlocks hK hP hD hS [0, 1] (by decide) rfl rfl (by first | exact kb1 (by omega) | exact kb0 (by omega)) hAe hQ dX2_isCopy_14
  · skip
    have c6 := iI_eqF (a := (F k : Int)) (b := (-1 : Int)) c6 (by omega)
    refine lv_iconst (v := iI (1 : Int)) hx hb dX2_isCopy_9 rfl ?_
    refine lv_goto (tgt := 14) hx hb dX2_isCopy_10 (by decide) ?_
    exact k_zret () hx hb hr (by decide) hlocks hK hP hD hS [0, 1] (by decide) rfl rfl (by first | exact kb1 (by omega) | exact kb0 (by omega)) hAe hQ dX2_isCopy_14
end
section
abbrev rm_c_Plan_wwt : Room := { frames := 1, cells := 0, slots := 0, locals := 21 }
set_option maxHeartbeats 4000000 in
set_option maxRecDepth 100000 in
theorem c_Plan_wwt (l : Launch) (D : va_G) (cI cZ : ClassId) (hp : Nat) (ob : Nat) (og : Nat) (ap : Nat) (al : Nat) (aq : Nat) (cnt : Nat) (P : Nat → Int) (L : Nat → Int) (S : Nat → Int) (i : Nat) (k : Nat) (hc : cnt ≤ 300) (hi : i < cnt) (hk : k < cnt) (hPi : 0 ≤ P i ∧ P i ≤ 300) (hLi : 0 ≤ L i ∧ L i ≤ 300) (hLk : 0 ≤ L k ∧ L k ≤ 300) (hSk : -1 ≤ S k ∧ S k ≤ 300) : MI l yX2_writesWhereTakes wsX2_writesWhereTakes rm_c_Plan_wwt D (kT cI cZ) [.ref hp, .int (iI ((i : Nat) : Int)), .int (iI ((k : Nat) : Int))] [(hp, .inr (2, [.ref ob, .ref og, .ref ap, .ref al, .ref aq, .int (iI ((cnt : Nat) : Int))])), (ap, .inl (cI, 300, .inl (kA P))), (al, .inl (cI, 300, .inl (kA L))), (aq, .inl (cI, 300, .inl (kA S)))] (fun (r : Int32) (_ : Unit) => r = kb (decide (P i < S k + L k ∧ S k < P i + L i))) (fun (u : Unit) => match u with | _ => [(hp, .inr (2, [.ref ob, .ref og, .ref ap, .ref al, .ref aq, .int (iI ((cnt : Nat) : Int))])), (ap, .inl (cI, 300, .inl (kA P))), (al, .inl (cI, 300, .inl (kA L))), (aq, .inl (cI, 300, .inl (kA S)))]) 0 0 := by
  intro sz
  refine k_of (cc := cX2_writesWhereTakes) (maxL := 3) (ret := (some .boolean)) (by decide) rfl (Nat.le_of_ble_eq_true rfl) ?_
  intro p e s m args below meth c A Q hAe hQ hx hb hr hml hts hown hlocks hnm hP hK hD hS hA ls hl
  have hl : lv_has ls 3 [(0, .ref hp), (1, .int (iI ((i : Nat) : Int))), (2, .int (iI ((k : Nat) : Int)))] := hl
  have hi_X2 : ∀ w ∈ u_ws RX2 TX2 6, w ∈ wsX2_writesWhereTakes := fun w h => km (ikX2 w h)
  have fl23 := hts _ (km wm80)
  have fl30 := hts _ (km wm82)
  have fl27 := hts _ (km wm81)
  refine lv_aload_n hx hb dX2_writesWhereTakes_0 rfl (lv_at hl 0 rfl) ?_
  refine lv_iload_n hx hb dX2_writesWhereTakes_1 rfl (lv_at hl 1 rfl) ?_
  refine k_calli (wc := [(hp, .inr (2, [.ref ob, .ref og, .ref ap, .ref al, .ref aq, .int (iI ((cnt : Nat) : Int))]))]) (wr := [(ap, .inl (cI, 300, .inl (kA P))), (al, .inl (cI, 300, .inl (kA L))), (aq, .inl (cI, 300, .inl (kA S)))]) (wf := fun _ => [(hp, .inr (2, [.ref ob, .ref og, .ref ap, .ref al, .ref aq, .int (iI ((cnt : Nat) : Int))])), (ap, .inl (cI, 300, .inl (kA P))), (al, .inl (cI, 300, .inl (kA L))), (aq, .inl (cI, 300, .inl (kA S)))]) hK hP hD hS hA [0] [1, 2, 3] [3, 0, 1, 2] ⟨⟨rfl, rfl, by decide⟩, rfl, by decide, by decide⟩ (fun _ => ⟨rfl, rfl⟩) (by decide) (fun hPc hDc => va_runV (As := [.int (iI ((i : Nat) : Int))]) (rest := []) ⟨hx, hb, hml, hown, hts⟩ (c_Plan_has l D cI cZ (hp := hp) (ob := ob) (og := og) (ap := ap) (al := al) (aq := aq) (cnt := cnt) (z := ((i : Nat) : Int)) (hc := by omega) (hz := by omega) _) (cwV 1 hts (kgV wm256 wm257 wm258 wm41 wmcX2_has) rfl rfl rfl (by decide +kernel) ⟨Nat.le_of_ble_eq_true rfl, Nat.le_of_ble_eq_true rfl⟩) (k_preV hK hPc hDc (ci := 2) (q0 := 0) rfl rfl) rfl rfl hl.1 rfl (lv_room (Nat.le_of_ble_eq_true rfl)) dX2_writesWhereTakes_2 ⟨Nat.le_of_ble_eq_true rfl, Nat.le_of_ble_eq_true rfl⟩) (fun r2 u H locs hw hP hD hS => ?_)
  have hP : va_P D vwCl [(hp, .inr (2, [.ref ob, .ref og, .ref ap, .ref al, .ref aq, .int (iI ((cnt : Nat) : Int))])), (ap, .inl (cI, 300, .inl (kA P))), (al, .inl (cI, 300, .inl (kA L))), (aq, .inl (cI, 300, .inl (kA S)))] H := hP
  have hD : va_D A [(hp, .inr (2, [.ref ob, .ref og, .ref ap, .ref al, .ref aq, .int (iI ((cnt : Nat) : Int))])), (ap, .inl (cI, 300, .inl (kA P))), (al, .inl (cI, 300, .inl (kA L))), (aq, .inl (cI, 300, .inl (kA S)))] := hD
  refine W.widen (k := 0) (n := 0) (Nat.le_of_ble_eq_true rfl) (Nat.le_of_ble_eq_true rfl) ?_
  have hw : r2 = kb (decide (0 ≤ ((i : Nat) : Int) ∧ ((i : Nat) : Int) < ((cnt : Nat) : Int))) := hw
  subst hw
  refine lv_if_eq (tgt := 64) hx hb dX2_writesWhereTakes_5 (by decide) (fun c5 => ?_) (fun c5 => ?_)
  · skip
    have c5 : ¬ (0 ≤ ((i : Nat) : Int) ∧ ((i : Nat) : Int) < ((cnt : Nat) : Int)) := of_decide_eq_false (kb_T c5)
    omega
  · skip
    have c5 : 0 ≤ ((i : Nat) : Int) ∧ ((i : Nat) : Int) < ((cnt : Nat) : Int) := of_decide_eq_true (kb_F c5)
    refine lv_aload_n hx hb dX2_writesWhereTakes_8 rfl (lv_at hl 0 rfl) ?_
    refine lv_iload_n hx hb dX2_writesWhereTakes_9 rfl (lv_at hl 2 rfl) ?_
    refine k_calli (wc := [(hp, .inr (2, [.ref ob, .ref og, .ref ap, .ref al, .ref aq, .int (iI ((cnt : Nat) : Int))]))]) (wr := [(ap, .inl (cI, 300, .inl (kA P))), (al, .inl (cI, 300, .inl (kA L))), (aq, .inl (cI, 300, .inl (kA S)))]) (wf := fun _ => [(hp, .inr (2, [.ref ob, .ref og, .ref ap, .ref al, .ref aq, .int (iI ((cnt : Nat) : Int))])), (ap, .inl (cI, 300, .inl (kA P))), (al, .inl (cI, 300, .inl (kA L))), (aq, .inl (cI, 300, .inl (kA S)))]) hK hP hD hS hA [0] [1, 2, 3] [3, 0, 1, 2] ⟨⟨rfl, rfl, by decide⟩, rfl, by decide, by decide⟩ (fun _ => ⟨rfl, rfl⟩) (by decide) (fun hPc hDc => va_runV (As := [.int (iI ((k : Nat) : Int))]) (rest := []) ⟨hx, hb, hml, hown, hts⟩ (c_Plan_has l D cI cZ (hp := hp) (ob := ob) (og := og) (ap := ap) (al := al) (aq := aq) (cnt := cnt) (z := ((k : Nat) : Int)) (hc := by omega) (hz := by omega) _) (cwV 1 hts (kgV wm256 wm257 wm258 wm41 wmcX2_has) rfl rfl rfl (by decide +kernel) ⟨Nat.le_of_ble_eq_true rfl, Nat.le_of_ble_eq_true rfl⟩) (k_preV hK hPc hDc (ci := 2) (q0 := 0) rfl rfl) rfl rfl hl.1 rfl (lv_room (Nat.le_of_ble_eq_true rfl)) dX2_writesWhereTakes_10 ⟨Nat.le_of_ble_eq_true rfl, Nat.le_of_ble_eq_true rfl⟩) (fun r10 u H locs hw hP hD hS => ?_)
    have hP : va_P D vwCl [(hp, .inr (2, [.ref ob, .ref og, .ref ap, .ref al, .ref aq, .int (iI ((cnt : Nat) : Int))])), (ap, .inl (cI, 300, .inl (kA P))), (al, .inl (cI, 300, .inl (kA L))), (aq, .inl (cI, 300, .inl (kA S)))] H := hP
    have hD : va_D A [(hp, .inr (2, [.ref ob, .ref og, .ref ap, .ref al, .ref aq, .int (iI ((cnt : Nat) : Int))])), (ap, .inl (cI, 300, .inl (kA P))), (al, .inl (cI, 300, .inl (kA L))), (aq, .inl (cI, 300, .inl (kA S)))] := hD
    refine W.widen (k := 0) (n := 0) (Nat.le_of_ble_eq_true rfl) (Nat.le_of_ble_eq_true rfl) ?_
    have hw : r10 = kb (decide (0 ≤ ((k : Nat) : Int) ∧ ((k : Nat) : Int) < ((cnt : Nat) : Int))) := hw
    subst hw
    refine lv_if_eq (tgt := 64) hx hb dX2_writesWhereTakes_13 (by decide) (fun c13 => ?_) (fun c13 => ?_)
    · skip
      have c13 : ¬ (0 ≤ ((k : Nat) : Int) ∧ ((k : Nat) : Int) < ((cnt : Nat) : Int)) := of_decide_eq_false (kb_T c13)
      omega
    · skip
      have c13 : 0 ≤ ((k : Nat) : Int) ∧ ((k : Nat) : Int) < ((cnt : Nat) : Int) := of_decide_eq_true (kb_F c13)
      refine lv_aload_n hx hb dX2_writesWhereTakes_16 rfl (lv_at hl 0 rfl) ?_
      refine va_get (D := D) (ci := 2) (v := .ref ap) (C := RX2) (T := TX2) (N := 6) hx hb hts hi_X2 hown hK hP 0 rfl rfl 2 (by decide) fl23 (fun _ h9 => h9) rfl dX2_writesWhereTakes_17 ?_
      refine lv_iload_n hx hb dX2_writesWhereTakes_20 rfl (lv_at hl 1 rfl) ?_
      refine k_iald hx hb hK hP 1 0 rfl rfl i (by omega) dX2_writesWhereTakes_21 ?_
      refine kn_i (y := iI (P i : Int)) (rfl) ?_
      refine lv_aload_n hx hb dX2_writesWhereTakes_22 rfl (lv_at hl 0 rfl) ?_
      refine va_get (D := D) (ci := 2) (v := .ref aq) (C := RX2) (T := TX2) (N := 6) hx hb hts hi_X2 hown hK hP 0 rfl rfl 4 (by decide) fl30 (fun _ h9 => h9) rfl dX2_writesWhereTakes_23 ?_
      refine lv_iload_n hx hb dX2_writesWhereTakes_26 rfl (lv_at hl 2 rfl) ?_
      refine k_iald hx hb hK hP 3 0 rfl rfl k (by omega) dX2_writesWhereTakes_27 ?_
      refine kn_i (y := iI (S k : Int)) (rfl) ?_
      refine lv_aload_n hx hb dX2_writesWhereTakes_28 rfl (lv_at hl 0 rfl) ?_
      refine va_get (D := D) (ci := 2) (v := .ref al) (C := RX2) (T := TX2) (N := 6) hx hb hts hi_X2 hown hK hP 0 rfl rfl 3 (by decide) fl27 (fun _ h9 => h9) rfl dX2_writesWhereTakes_29 ?_
      refine lv_iload_n hx hb dX2_writesWhereTakes_32 rfl (lv_at hl 2 rfl) ?_
      refine k_iald hx hb hK hP 2 0 rfl rfl k (by omega) dX2_writesWhereTakes_33 ?_
      refine kn_i (y := iI (L k : Int)) (rfl) ?_
      refine lv_iadd hx hb dX2_writesWhereTakes_34 ?_
      refine kn_i (iA (c := ((S k : Int) + (L k : Int) : Int)) (by omega)) ?_
      refine lv_icmp_ge (tgt := 64) hx hb dX2_writesWhereTakes_35 (by decide) (fun c35 => ?_) (fun c35 => ?_)
      · skip
        have c35 := iI_leT (a := ((S k : Int) + (L k : Int) : Int)) (b := (P i : Int)) c35 (by omega)
        refine lv_iconst (v := iI (0 : Int)) hx hb dX2_writesWhereTakes_64 rfl ?_
        exact k_zret () hx hb hr (by decide) hlocks hK hP hD hS [0, 1, 2, 3] (by decide) rfl rfl (by first | exact kb1 (by omega) | exact kb0 (by omega)) hAe hQ dX2_writesWhereTakes_65
      · skip
        have c35 := iI_leF (a := ((S k : Int) + (L k : Int) : Int)) (b := (P i : Int)) c35 (by omega)
        refine lv_aload_n hx hb dX2_writesWhereTakes_38 rfl (lv_at hl 0 rfl) ?_
        refine va_get (D := D) (ci := 2) (v := .ref aq) (C := RX2) (T := TX2) (N := 6) hx hb hts hi_X2 hown hK hP 0 rfl rfl 4 (by decide) fl30 (fun _ h9 => h9) rfl dX2_writesWhereTakes_39 ?_
        refine lv_iload_n hx hb dX2_writesWhereTakes_42 rfl (lv_at hl 2 rfl) ?_
        refine k_iald hx hb hK hP 3 0 rfl rfl k (by omega) dX2_writesWhereTakes_43 ?_
        refine kn_i (y := iI (S k : Int)) (rfl) ?_
        refine lv_aload_n hx hb dX2_writesWhereTakes_44 rfl (lv_at hl 0 rfl) ?_
        refine va_get (D := D) (ci := 2) (v := .ref ap) (C := RX2) (T := TX2) (N := 6) hx hb hts hi_X2 hown hK hP 0 rfl rfl 2 (by decide) fl23 (fun _ h9 => h9) rfl dX2_writesWhereTakes_45 ?_
        refine lv_iload_n hx hb dX2_writesWhereTakes_48 rfl (lv_at hl 1 rfl) ?_
        refine k_iald hx hb hK hP 1 0 rfl rfl i (by omega) dX2_writesWhereTakes_49 ?_
        refine kn_i (y := iI (P i : Int)) (rfl) ?_
        refine lv_aload_n hx hb dX2_writesWhereTakes_50 rfl (lv_at hl 0 rfl) ?_
        refine va_get (D := D) (ci := 2) (v := .ref al) (C := RX2) (T := TX2) (N := 6) hx hb hts hi_X2 hown hK hP 0 rfl rfl 3 (by decide) fl27 (fun _ h9 => h9) rfl dX2_writesWhereTakes_51 ?_
        refine lv_iload_n hx hb dX2_writesWhereTakes_54 rfl (lv_at hl 1 rfl) ?_
        refine k_iald hx hb hK hP 2 0 rfl rfl i (by omega) dX2_writesWhereTakes_55 ?_
        refine kn_i (y := iI (L i : Int)) (rfl) ?_
        refine lv_iadd hx hb dX2_writesWhereTakes_56 ?_
        refine kn_i (iA (c := ((P i : Int) + (L i : Int) : Int)) (by omega)) ?_
        refine lv_icmp_ge (tgt := 64) hx hb dX2_writesWhereTakes_57 (by decide) (fun c57 => ?_) (fun c57 => ?_)
        · skip
          have c57 := iI_leT (a := ((P i : Int) + (L i : Int) : Int)) (b := (S k : Int)) c57 (by omega)
          refine lv_iconst (v := iI (0 : Int)) hx hb dX2_writesWhereTakes_64 rfl ?_
          exact k_zret () hx hb hr (by decide) hlocks hK hP hD hS [0, 1, 2, 3] (by decide) rfl rfl (by first | exact kb1 (by omega) | exact kb0 (by omega)) hAe hQ dX2_writesWhereTakes_65
        · skip
          have c57 := iI_leF (a := ((P i : Int) + (L i : Int) : Int)) (b := (S k : Int)) c57 (by omega)
          refine lv_iconst (v := iI (1 : Int)) hx hb dX2_writesWhereTakes_60 rfl ?_
          refine lv_goto (tgt := 65) hx hb dX2_writesWhereTakes_61 (by decide) ?_
          exact k_zret () hx hb hr (by decide) hlocks hK hP hD hS [0, 1, 2, 3] (by decide) rfl rfl (by first | exact kb1 (by omega) | exact kb0 (by omega)) hAe hQ dX2_writesWhereTakes_65

abbrev rm_c_Plan_append : Room := { frames := 0, cells := 0, slots := 0, locals := 0 }
set_option maxHeartbeats 4000000 in
set_option maxRecDepth 100000 in
theorem c_Plan_append (l : Launch) (D : va_G) (cI cZ : ClassId) (hp : Nat) (ob : Nat) (og : Nat) (ap : Nat) (al : Nat) (aq : Nat) (cnt : Nat) (P : Nat → Int) (L : Nat → Int) (S : Nat → Int) (x1 : Int) (x2 : Int) (x3 : Int) (hc : cnt < 300) : MV l yX2_append wsX2_append rm_c_Plan_append D (kT cI cZ) [.ref hp, .int (iI (x1 : Int)), .int (iI (x2 : Int)), .int (iI (x3 : Int))] [(hp, .inr (2, [.ref ob, .ref og, .ref ap, .ref al, .ref aq, .int (iI ((cnt : Nat) : Int))])), (ap, .inl (cI, 300, .inl (kA P))), (al, .inl (cI, 300, .inl (kA L))), (aq, .inl (cI, 300, .inl (kA S)))] (fun (_ : Unit) => True) (fun (u : Unit) => match u with | _ => [(hp, .inr (2, [.ref ob, .ref og, .ref ap, .ref al, .ref aq, .int (iI ((cnt + 1 : Nat) : Int))])), (ap, .inl (cI, 300, .inl (kA (uZ P cnt x1)))), (al, .inl (cI, 300, .inl (kA (uZ L cnt x2)))), (aq, .inl (cI, 300, .inl (kA (uZ S cnt x3))))]) 0 0 := by
  intro sz
  refine k_of (cc := cX2_append) (maxL := 4) (ret := none) (by decide) rfl (Nat.le_of_ble_eq_true rfl) ?_
  intro p e s m args below meth c A Q hAe hQ hx hb hr hml hts hown hlocks hnm hP hK hD hS hA ls hl
  have hl : lv_has ls 4 [(0, .ref hp), (1, .int (iI (x1 : Int))), (2, .int (iI (x2 : Int))), (3, .int (iI (x3 : Int)))] := hl
  have hi_X2 : ∀ w ∈ u_ws RX2 TX2 6, w ∈ wsX2_append := fun w h => km (ikX2 w h)
  have fl33 := hts _ (km wm83)
  have fl23 := hts _ (km wm80)
  have fl27 := hts _ (km wm81)
  have fl30 := hts _ (km wm82)
  refine lv_aload_n hx hb dX2_append_0 rfl (lv_at hl 0 rfl) ?_
  refine va_get (D := D) (ci := 2) (v := .int (iI ((cnt : Nat) : Int))) (C := RX2) (T := TX2) (N := 6) hx hb hts hi_X2 hown hK hP 0 rfl rfl 5 (by decide) fl33 (fun _ h9 => h9) rfl dX2_append_1 ?_
  refine lv_sipush (v := iI (300 : Int)) hx hb dX2_append_4 (by decide) ?_
  refine lv_icmp_ge (tgt := 50) hx hb dX2_append_7 (by decide) (fun c7 => ?_) (fun c7 => ?_)
  · skip
    have c7 := iI_leT (a := (300 : Int)) (b := ((cnt : Nat) : Int)) c7 (by omega)
    omega
  · skip
    have c7 := iI_leF (a := (300 : Int)) (b := ((cnt : Nat) : Int)) c7 (by omega)
    refine lv_aload_n hx hb dX2_append_10 rfl (lv_at hl 0 rfl) ?_
    refine va_get (D := D) (ci := 2) (v := .ref ap) (C := RX2) (T := TX2) (N := 6) hx hb hts hi_X2 hown hK hP 0 rfl rfl 2 (by decide) fl23 (fun _ h9 => h9) rfl dX2_append_11 ?_
    refine lv_aload_n hx hb dX2_append_14 rfl (lv_at hl 0 rfl) ?_
    refine va_get (D := D) (ci := 2) (v := .int (iI ((cnt : Nat) : Int))) (C := RX2) (T := TX2) (N := 6) hx hb hts hi_X2 hown hK hP 0 rfl rfl 5 (by decide) fl33 (fun _ h9 => h9) rfl dX2_append_15 ?_
    refine lv_iload_n hx hb dX2_append_18 rfl (lv_at hl 1 rfl) ?_
    refine k_iast hx hb hK hP hD hS 1 0 rfl rfl cnt (by omega) dX2_append_19 (fun H locs hP hD hS => ?_)
    have hP : va_P D vwCl [(hp, .inr (2, [.ref ob, .ref og, .ref ap, .ref al, .ref aq, .int (iI ((cnt : Nat) : Int))])), (ap, .inl (cI, 300, .inl (upd (kA P) cnt (iI (x1 : Int))))), (al, .inl (cI, 300, .inl (kA L))), (aq, .inl (cI, 300, .inl (kA S)))] H := hP
    have hD : va_D A [(hp, .inr (2, [.ref ob, .ref og, .ref ap, .ref al, .ref aq, .int (iI ((cnt : Nat) : Int))])), (ap, .inl (cI, 300, .inl (upd (kA P) cnt (iI (x1 : Int))))), (al, .inl (cI, 300, .inl (kA L))), (aq, .inl (cI, 300, .inl (kA S)))] := hD
    rw [show (upd (kA P) cnt (iI (x1 : Int))) = (kA (uZ P cnt x1)) from kA_upd P cnt x1] at hP hD
    refine lv_aload_n hx hb dX2_append_20 rfl (lv_at hl 0 rfl) ?_
    refine va_get (D := D) (ci := 2) (v := .ref al) (C := RX2) (T := TX2) (N := 6) hx hb hts hi_X2 hown hK hP 0 rfl rfl 3 (by decide) fl27 (fun _ h9 => h9) rfl dX2_append_21 ?_
    refine lv_aload_n hx hb dX2_append_24 rfl (lv_at hl 0 rfl) ?_
    refine va_get (D := D) (ci := 2) (v := .int (iI ((cnt : Nat) : Int))) (C := RX2) (T := TX2) (N := 6) hx hb hts hi_X2 hown hK hP 0 rfl rfl 5 (by decide) fl33 (fun _ h9 => h9) rfl dX2_append_25 ?_
    refine lv_iload_n hx hb dX2_append_28 rfl (lv_at hl 2 rfl) ?_
    refine k_iast hx hb hK hP hD hS 2 0 rfl rfl cnt (by omega) dX2_append_29 (fun H locs hP hD hS => ?_)
    have hP : va_P D vwCl [(hp, .inr (2, [.ref ob, .ref og, .ref ap, .ref al, .ref aq, .int (iI ((cnt : Nat) : Int))])), (ap, .inl (cI, 300, .inl (kA (uZ P cnt x1)))), (al, .inl (cI, 300, .inl (upd (kA L) cnt (iI (x2 : Int))))), (aq, .inl (cI, 300, .inl (kA S)))] H := hP
    have hD : va_D A [(hp, .inr (2, [.ref ob, .ref og, .ref ap, .ref al, .ref aq, .int (iI ((cnt : Nat) : Int))])), (ap, .inl (cI, 300, .inl (kA (uZ P cnt x1)))), (al, .inl (cI, 300, .inl (upd (kA L) cnt (iI (x2 : Int))))), (aq, .inl (cI, 300, .inl (kA S)))] := hD
    rw [show (upd (kA L) cnt (iI (x2 : Int))) = (kA (uZ L cnt x2)) from kA_upd L cnt x2] at hP hD
    refine lv_aload_n hx hb dX2_append_30 rfl (lv_at hl 0 rfl) ?_
    refine va_get (D := D) (ci := 2) (v := .ref aq) (C := RX2) (T := TX2) (N := 6) hx hb hts hi_X2 hown hK hP 0 rfl rfl 4 (by decide) fl30 (fun _ h9 => h9) rfl dX2_append_31 ?_
    refine lv_aload_n hx hb dX2_append_34 rfl (lv_at hl 0 rfl) ?_
    refine va_get (D := D) (ci := 2) (v := .int (iI ((cnt : Nat) : Int))) (C := RX2) (T := TX2) (N := 6) hx hb hts hi_X2 hown hK hP 0 rfl rfl 5 (by decide) fl33 (fun _ h9 => h9) rfl dX2_append_35 ?_
    refine lv_iload_n hx hb dX2_append_38 rfl (lv_at hl 3 rfl) ?_
    refine k_iast hx hb hK hP hD hS 3 0 rfl rfl cnt (by omega) dX2_append_39 (fun H locs hP hD hS => ?_)
    have hP : va_P D vwCl [(hp, .inr (2, [.ref ob, .ref og, .ref ap, .ref al, .ref aq, .int (iI ((cnt : Nat) : Int))])), (ap, .inl (cI, 300, .inl (kA (uZ P cnt x1)))), (al, .inl (cI, 300, .inl (kA (uZ L cnt x2)))), (aq, .inl (cI, 300, .inl (upd (kA S) cnt (iI (x3 : Int)))))] H := hP
    have hD : va_D A [(hp, .inr (2, [.ref ob, .ref og, .ref ap, .ref al, .ref aq, .int (iI ((cnt : Nat) : Int))])), (ap, .inl (cI, 300, .inl (kA (uZ P cnt x1)))), (al, .inl (cI, 300, .inl (kA (uZ L cnt x2)))), (aq, .inl (cI, 300, .inl (upd (kA S) cnt (iI (x3 : Int)))))] := hD
    rw [show (upd (kA S) cnt (iI (x3 : Int))) = (kA (uZ S cnt x3)) from kA_upd S cnt x3] at hP hD
    refine lv_aload_n hx hb dX2_append_40 rfl (lv_at hl 0 rfl) ?_
    refine lv_dup hx hb dX2_append_41 rfl ?_
    refine va_get (D := D) (ci := 2) (v := .int (iI ((cnt : Nat) : Int))) (C := RX2) (T := TX2) (N := 6) hx hb hts hi_X2 hown hK hP 0 rfl rfl 5 (by decide) fl33 (fun _ h9 => h9) rfl dX2_append_42 ?_
    refine lv_iconst (v := iI (1 : Int)) hx hb dX2_append_45 rfl ?_
    refine lv_iadd hx hb dX2_append_46 ?_
    refine kn_i (iA (c := ((cnt + 1 : Nat) : Int)) (by omega)) ?_
    refine va_put (D := D) (ci := 2) (v := .int (iI ((cnt + 1 : Nat) : Int))) (ty := .int) (C := RX2) (T := TX2) (N := 6) hx hb hts hi_X2 tyX2 tyX2_ok nmX2 hown hK hP hD hS 0 rfl rfl 5 (by decide) fl33 (fun _ h9 => h9) rfl (by decide +kernel) rfl rfl (Nat.le_of_ble_eq_true rfl) dX2_append_47 (fun H locs hP hD hS => ?_)
    have hP : va_P D vwCl [(hp, .inr (2, [.ref ob, .ref og, .ref ap, .ref al, .ref aq, .int (iI ((cnt + 1 : Nat) : Int))])), (ap, .inl (cI, 300, .inl (kA (uZ P cnt x1)))), (al, .inl (cI, 300, .inl (kA (uZ L cnt x2)))), (aq, .inl (cI, 300, .inl (kA (uZ S cnt x3))))] H := hP
    have hD : va_D A [(hp, .inr (2, [.ref ob, .ref og, .ref ap, .ref al, .ref aq, .int (iI ((cnt + 1 : Nat) : Int))])), (ap, .inl (cI, 300, .inl (kA (uZ P cnt x1)))), (al, .inl (cI, 300, .inl (kA (uZ L cnt x2)))), (aq, .inl (cI, 300, .inl (kA (uZ S cnt x3))))] := hD
    exact k_vret () hx hb hr hlocks hK hP hD hS [0, 1, 2, 3] (by decide) rfl rfl (trivial) hAe hQ dX2_append_50

abbrev rm_c_Plan_addByte : Room := { frames := 3, cells := 0, slots := 0, locals := 63 }
set_option maxHeartbeats 4000000 in
set_option maxRecDepth 100000 in
theorem c_Plan_addByte (l : Launch) (D : va_G) (cI cZ : ClassId) (hp : Nat) (ob : Nat) (og : Nat) (ap : Nat) (al : Nat) (aq : Nat) (cnt : Nat) (P : Nat → Int) (L : Nat → Int) (S : Nat → Int) (p0 : Nat) (hc : cnt < 300) (hLr : ∀ i, i < cnt → -1 ≤ L i ∧ L i ≤ 300) (hSr : ∀ i, i < cnt → -1 ≤ S i ∧ S i ≤ 300) : MV l yX2_addByte wsX2_addByte rm_c_Plan_addByte D (kT cI cZ) [.ref hp, .int (iI ((p0 : Nat) : Int))] [(hp, .inr (2, [.ref ob, .ref og, .ref ap, .ref al, .ref aq, .int (iI ((cnt : Nat) : Int))])), (ap, .inl (cI, 300, .inl (kA P))), (al, .inl (cI, 300, .inl (kA L))), (aq, .inl (cI, 300, .inl (kA S)))] (fun (u : (Nat → Int) × (Nat → Int) × (Nat → Int) × Nat) => u = adB P L S cnt p0) (fun (u : (Nat → Int) × (Nat → Int) × (Nat → Int) × Nat) => match u with | ⟨P9, L9, S9, c9⟩ => [(hp, .inr (2, [.ref ob, .ref og, .ref ap, .ref al, .ref aq, .int (iI ((c9 : Nat) : Int))])), (ap, .inl (cI, 300, .inl (kA P9))), (al, .inl (cI, 300, .inl (kA L9))), (aq, .inl (cI, 300, .inl (kA S9)))]) 0 0 := by
  intro sz
  refine k_of (cc := cX2_addByte) (maxL := 3) (ret := none) (by decide) rfl (Nat.le_of_ble_eq_true rfl) ?_
  intro p e s m args below meth c A Q hAe hQ hx hb hr hml hts hown hlocks hnm hP hK hD hS hA ls hl
  have hl : lv_has ls 3 [(0, .ref hp), (1, .int (iI ((p0 : Nat) : Int)))] := hl
  have hi_X2 : ∀ w ∈ u_ws RX2 TX2 6, w ∈ wsX2_addByte := fun w h => km (ikX2 w h)
  have fl33 := hts _ (km wm83)
  have fl27 := hts _ (km wm81)
  have hrl := rZ_rng (P := L) (n := cnt) (z := ((cnt : Nat) : Int) - 1) (b := 300) (by omega) hLr
  refine lv_aload_n hx hb dX2_addByte_0 rfl (lv_at hl 0 rfl) ?_
  refine va_get (D := D) (ci := 2) (v := .int (iI ((cnt : Nat) : Int))) (C := RX2) (T := TX2) (N := 6) hx hb hts hi_X2 hown hK hP 0 rfl rfl 5 (by decide) fl33 (fun _ h9 => h9) rfl dX2_addByte_1 ?_
  refine lv_iconst (v := iI (1 : Int)) hx hb dX2_addByte_4 rfl ?_
  refine lv_isub hx hb dX2_addByte_5 ?_
  refine kn_i (iB (c := (((cnt : Nat) : Int) - 1 : Int)) (by omega)) ?_
  refine lv_istore_n (lv' := [(2, .int (iI (((cnt : Nat) : Int) - 1 : Int))), (0, .ref hp), (1, .int (iI ((p0 : Nat) : Int)))]) hx hb dX2_addByte_6 rfl hl (by decide) rfl (fun ls hl => ?_)
  refine lv_aload_n hx hb dX2_addByte_7 rfl (lv_at hl 1 rfl) ?_
  refine lv_iload_n hx hb dX2_addByte_8 rfl (lv_at hl 0 rfl) ?_
  refine k_calli (wc := [(hp, .inr (2, [.ref ob, .ref og, .ref ap, .ref al, .ref aq, .int (iI ((cnt : Nat) : Int))]))]) (wr := [(ap, .inl (cI, 300, .inl (kA P))), (al, .inl (cI, 300, .inl (kA L))), (aq, .inl (cI, 300, .inl (kA S)))]) (wf := fun _ => [(hp, .inr (2, [.ref ob, .ref og, .ref ap, .ref al, .ref aq, .int (iI ((cnt : Nat) : Int))])), (ap, .inl (cI, 300, .inl (kA P))), (al, .inl (cI, 300, .inl (kA L))), (aq, .inl (cI, 300, .inl (kA S)))]) hK hP hD hS hA [0] [1, 2, 3] [3, 0, 1, 2] ⟨⟨rfl, rfl, by decide⟩, rfl, by decide, by decide⟩ (fun _ => ⟨rfl, rfl⟩) (by decide) (fun hPc hDc => va_runV (As := [.int (iI (((cnt : Nat) : Int) - 1 : Int))]) (rest := []) ⟨hx, hb, hml, hown, hts⟩ (c_Plan_has l D cI cZ (hp := hp) (ob := ob) (og := og) (ap := ap) (al := al) (aq := aq) (cnt := cnt) (z := ((cnt : Nat) : Int) - 1) (hc := by omega) (hz := by omega) _) (cwV 1 hts (kgV wm256 wm257 wm258 wm41 wmcX2_has) rfl rfl rfl (by decide +kernel) ⟨Nat.le_of_ble_eq_true rfl, Nat.le_of_ble_eq_true rfl⟩) (k_preV hK hPc hDc (ci := 2) (q0 := 0) rfl rfl) rfl rfl hl.1 rfl (lv_room (Nat.le_of_ble_eq_true rfl)) dX2_addByte_9 ⟨Nat.le_of_ble_eq_true rfl, Nat.le_of_ble_eq_true rfl⟩) (fun r9 u H locs hw hP hD hS => ?_)
  have hP : va_P D vwCl [(hp, .inr (2, [.ref ob, .ref og, .ref ap, .ref al, .ref aq, .int (iI ((cnt : Nat) : Int))])), (ap, .inl (cI, 300, .inl (kA P))), (al, .inl (cI, 300, .inl (kA L))), (aq, .inl (cI, 300, .inl (kA S)))] H := hP
  have hD : va_D A [(hp, .inr (2, [.ref ob, .ref og, .ref ap, .ref al, .ref aq, .int (iI ((cnt : Nat) : Int))])), (ap, .inl (cI, 300, .inl (kA P))), (al, .inl (cI, 300, .inl (kA L))), (aq, .inl (cI, 300, .inl (kA S)))] := hD
  refine W.widen (k := 0) (n := 0) (Nat.le_of_ble_eq_true rfl) (Nat.le_of_ble_eq_true rfl) ?_
  have hw : r9 = kb (decide (0 ≤ (((cnt : Nat) : Int) - 1) ∧ (((cnt : Nat) : Int) - 1) < ((cnt : Nat) : Int))) := hw
  subst hw
  refine lv_if_eq (tgt := 46) hx hb dX2_addByte_12 (by decide) (fun c12 => ?_) (fun c12 => ?_)
  · skip
    have c12 : ¬ (0 ≤ (((cnt : Nat) : Int) - 1) ∧ (((cnt : Nat) : Int) - 1) < ((cnt : Nat) : Int)) := of_decide_eq_false (kb_T c12)
    refine lv_aload_n hx hb dX2_addByte_46 rfl (lv_at hl 1 rfl) ?_
    refine lv_iload_n hx hb dX2_addByte_47 rfl (lv_at hl 2 rfl) ?_
    refine lv_iconst (v := iI (1 : Int)) hx hb dX2_addByte_48 rfl ?_
    refine lv_iconst (v := iI (-1 : Int)) hx hb dX2_addByte_49 rfl ?_
    refine k_callv (wc := [(hp, .inr (2, [.ref ob, .ref og, .ref ap, .ref al, .ref aq, .int (iI ((cnt : Nat) : Int))])), (ap, .inl (cI, 300, .inl (kA P))), (al, .inl (cI, 300, .inl (kA L))), (aq, .inl (cI, 300, .inl (kA S)))]) (wr := []) (wf := fun _ => [(hp, .inr (2, [.ref ob, .ref og, .ref ap, .ref al, .ref aq, .int (iI ((cnt + 1 : Nat) : Int))])), (ap, .inl (cI, 300, .inl (kA (uZ P cnt ((p0 : Nat) : Int))))), (al, .inl (cI, 300, .inl (kA (uZ L cnt 1)))), (aq, .inl (cI, 300, .inl (kA (uZ S cnt (-1)))))]) hK hP hD hS hA [0, 1, 2, 3] [] [0, 1, 2, 3] ⟨⟨rfl, rfl, by decide⟩, rfl, by decide, by decide⟩ (fun _ => ⟨rfl, rfl⟩) (by decide) (fun hPc hDc => va_runV (As := [.int (iI ((p0 : Nat) : Int)), .int (iI (1 : Int)), .int (iI (-1 : Int))]) (rest := []) ⟨hx, hb, hml, hown, hts⟩ (c_Plan_append l D cI cZ (hp := hp) (ob := ob) (og := og) (ap := ap) (al := al) (aq := aq) (cnt := cnt) (P := P) (L := L) (S := S) (x1 := ((p0 : Nat) : Int)) (x2 := 1) (x3 := -1) (hc := by omega) _) (cwV 3 hts (kgV wm248 wm250 wm2 wm41 wmcX2_append) rfl rfl rfl (by decide +kernel) ⟨Nat.le_of_ble_eq_true rfl, Nat.le_of_ble_eq_true rfl⟩) (k_preV hK hPc hDc (ci := 2) (q0 := 0) rfl rfl) rfl rfl hl.1 rfl (lv_room (Nat.le_of_ble_eq_true rfl)) dX2_addByte_50 ⟨Nat.le_of_ble_eq_true rfl, Nat.le_of_ble_eq_true rfl⟩) (fun u H locs hw hP hD hS => ?_)
    have hP : va_P D vwCl [(hp, .inr (2, [.ref ob, .ref og, .ref ap, .ref al, .ref aq, .int (iI ((cnt + 1 : Nat) : Int))])), (ap, .inl (cI, 300, .inl (kA (uZ P cnt ((p0 : Nat) : Int))))), (al, .inl (cI, 300, .inl (kA (uZ L cnt 1)))), (aq, .inl (cI, 300, .inl (kA (uZ S cnt (-1)))))] H := hP
    have hD : va_D A [(hp, .inr (2, [.ref ob, .ref og, .ref ap, .ref al, .ref aq, .int (iI ((cnt + 1 : Nat) : Int))])), (ap, .inl (cI, 300, .inl (kA (uZ P cnt ((p0 : Nat) : Int))))), (al, .inl (cI, 300, .inl (kA (uZ L cnt 1)))), (aq, .inl (cI, 300, .inl (kA (uZ S cnt (-1)))))] := hD
    refine W.widen (k := 0) (n := 0) (Nat.le_of_ble_eq_true rfl) (Nat.le_of_ble_eq_true rfl) ?_
    exact k_vret (uZ P cnt ((p0 : Nat) : Int), uZ L cnt 1, uZ S cnt (-1), cnt + 1) hx hb hr hlocks hK hP hD hS [0, 1, 2, 3] (by decide) rfl rfl (by unfold adB; rw [if_neg (fun h => by omega)]) hAe hQ dX2_addByte_53
  · skip
    have c12 : 0 ≤ (((cnt : Nat) : Int) - 1) ∧ (((cnt : Nat) : Int) - 1) < ((cnt : Nat) : Int) := of_decide_eq_true (kb_F c12)
    have e1 := rZ_last (P := S) (show 0 < cnt by omega)
    have e2 := rZ_last (P := L) (show 0 < cnt by omega)
    have e3 := hLr (cnt - 1) (by omega)
    refine lv_aload_n hx hb dX2_addByte_15 rfl (lv_at hl 1 rfl) ?_
    refine lv_iload_n hx hb dX2_addByte_16 rfl (lv_at hl 0 rfl) ?_
    refine k_calli (wc := [(hp, .inr (2, [.ref ob, .ref og, .ref ap, .ref al, .ref aq, .int (iI ((cnt : Nat) : Int))])), (aq, .inl (cI, 300, .inl (kA S)))]) (wr := [(ap, .inl (cI, 300, .inl (kA P))), (al, .inl (cI, 300, .inl (kA L)))]) (wf := fun _ => [(hp, .inr (2, [.ref ob, .ref og, .ref ap, .ref al, .ref aq, .int (iI ((cnt : Nat) : Int))])), (ap, .inl (cI, 300, .inl (kA P))), (al, .inl (cI, 300, .inl (kA L))), (aq, .inl (cI, 300, .inl (kA S)))]) hK hP hD hS hA [0, 3] [1, 2] [2, 0, 1, 3] ⟨⟨rfl, rfl, by decide⟩, rfl, by decide, by decide⟩ (fun _ => ⟨rfl, rfl⟩) (by decide) (fun hPc hDc => va_runV (As := [.int (iI (((cnt : Nat) : Int) - 1 : Int))]) (rest := []) ⟨hx, hb, hml, hown, hts⟩ (c_Plan_isCopy l D cI cZ (hp := hp) (ob := ob) (og := og) (ap := ap) (al := al) (aq := aq) (cnt := cnt) (F := S) (z := ((cnt : Nat) : Int) - 1) (hc := by omega) (hz := by omega) (hF := hSr) _) (cwV 1 hts (kgV wm260 wm261 wm262 wm41 wmcX2_isCopy) rfl rfl rfl (by decide +kernel) ⟨Nat.le_of_ble_eq_true rfl, Nat.le_of_ble_eq_true rfl⟩) (k_preV hK hPc hDc (ci := 2) (q0 := 0) rfl rfl) rfl rfl hl.1 rfl (lv_room (Nat.le_of_ble_eq_true rfl)) dX2_addByte_17 ⟨Nat.le_of_ble_eq_true rfl, Nat.le_of_ble_eq_true rfl⟩) (fun r17 u H locs hw hP hD hS => ?_)
    have hP : va_P D vwCl [(hp, .inr (2, [.ref ob, .ref og, .ref ap, .ref al, .ref aq, .int (iI ((cnt : Nat) : Int))])), (ap, .inl (cI, 300, .inl (kA P))), (al, .inl (cI, 300, .inl (kA L))), (aq, .inl (cI, 300, .inl (kA S)))] H := hP
    have hD : va_D A [(hp, .inr (2, [.ref ob, .ref og, .ref ap, .ref al, .ref aq, .int (iI ((cnt : Nat) : Int))])), (ap, .inl (cI, 300, .inl (kA P))), (al, .inl (cI, 300, .inl (kA L))), (aq, .inl (cI, 300, .inl (kA S)))] := hD
    refine W.widen (k := 0) (n := 0) (Nat.le_of_ble_eq_true rfl) (Nat.le_of_ble_eq_true rfl) ?_
    have hw : r17 = kb (decide (¬ rZ S cnt (((cnt : Nat) : Int) - 1) = -1)) := hw
    subst hw
    refine lv_if_ne (tgt := 46) hx hb dX2_addByte_20 (by decide) (fun c20 => ?_) (fun c20 => ?_)
    · skip
      have c20 : ¬ rZ S cnt (((cnt : Nat) : Int) - 1) = -1 := of_decide_eq_true (kb_F c20)
      refine lv_aload_n hx hb dX2_addByte_46 rfl (lv_at hl 1 rfl) ?_
      refine lv_iload_n hx hb dX2_addByte_47 rfl (lv_at hl 2 rfl) ?_
      refine lv_iconst (v := iI (1 : Int)) hx hb dX2_addByte_48 rfl ?_
      refine lv_iconst (v := iI (-1 : Int)) hx hb dX2_addByte_49 rfl ?_
      refine k_callv (wc := [(hp, .inr (2, [.ref ob, .ref og, .ref ap, .ref al, .ref aq, .int (iI ((cnt : Nat) : Int))])), (ap, .inl (cI, 300, .inl (kA P))), (al, .inl (cI, 300, .inl (kA L))), (aq, .inl (cI, 300, .inl (kA S)))]) (wr := []) (wf := fun _ => [(hp, .inr (2, [.ref ob, .ref og, .ref ap, .ref al, .ref aq, .int (iI ((cnt + 1 : Nat) : Int))])), (ap, .inl (cI, 300, .inl (kA (uZ P cnt ((p0 : Nat) : Int))))), (al, .inl (cI, 300, .inl (kA (uZ L cnt 1)))), (aq, .inl (cI, 300, .inl (kA (uZ S cnt (-1)))))]) hK hP hD hS hA [0, 1, 2, 3] [] [0, 1, 2, 3] ⟨⟨rfl, rfl, by decide⟩, rfl, by decide, by decide⟩ (fun _ => ⟨rfl, rfl⟩) (by decide) (fun hPc hDc => va_runV (As := [.int (iI ((p0 : Nat) : Int)), .int (iI (1 : Int)), .int (iI (-1 : Int))]) (rest := []) ⟨hx, hb, hml, hown, hts⟩ (c_Plan_append l D cI cZ (hp := hp) (ob := ob) (og := og) (ap := ap) (al := al) (aq := aq) (cnt := cnt) (P := P) (L := L) (S := S) (x1 := ((p0 : Nat) : Int)) (x2 := 1) (x3 := -1) (hc := by omega) _) (cwV 3 hts (kgV wm248 wm250 wm2 wm41 wmcX2_append) rfl rfl rfl (by decide +kernel) ⟨Nat.le_of_ble_eq_true rfl, Nat.le_of_ble_eq_true rfl⟩) (k_preV hK hPc hDc (ci := 2) (q0 := 0) rfl rfl) rfl rfl hl.1 rfl (lv_room (Nat.le_of_ble_eq_true rfl)) dX2_addByte_50 ⟨Nat.le_of_ble_eq_true rfl, Nat.le_of_ble_eq_true rfl⟩) (fun u H locs hw hP hD hS => ?_)
      have hP : va_P D vwCl [(hp, .inr (2, [.ref ob, .ref og, .ref ap, .ref al, .ref aq, .int (iI ((cnt + 1 : Nat) : Int))])), (ap, .inl (cI, 300, .inl (kA (uZ P cnt ((p0 : Nat) : Int))))), (al, .inl (cI, 300, .inl (kA (uZ L cnt 1)))), (aq, .inl (cI, 300, .inl (kA (uZ S cnt (-1)))))] H := hP
      have hD : va_D A [(hp, .inr (2, [.ref ob, .ref og, .ref ap, .ref al, .ref aq, .int (iI ((cnt + 1 : Nat) : Int))])), (ap, .inl (cI, 300, .inl (kA (uZ P cnt ((p0 : Nat) : Int))))), (al, .inl (cI, 300, .inl (kA (uZ L cnt 1)))), (aq, .inl (cI, 300, .inl (kA (uZ S cnt (-1)))))] := hD
      refine W.widen (k := 0) (n := 0) (Nat.le_of_ble_eq_true rfl) (Nat.le_of_ble_eq_true rfl) ?_
      exact k_vret (uZ P cnt ((p0 : Nat) : Int), uZ L cnt 1, uZ S cnt (-1), cnt + 1) hx hb hr hlocks hK hP hD hS [0, 1, 2, 3] (by decide) rfl rfl (by unfold adB; rw [if_neg (fun h => by omega)]) hAe hQ dX2_addByte_53
    · skip
      have c20 : ¬ (¬ rZ S cnt (((cnt : Nat) : Int) - 1) = -1) := of_decide_eq_false (kb_T c20)
      refine lv_aload_n hx hb dX2_addByte_23 rfl (lv_at hl 1 rfl) ?_
      refine lv_iload_n hx hb dX2_addByte_24 rfl (lv_at hl 0 rfl) ?_
      refine k_calli (wc := [(hp, .inr (2, [.ref ob, .ref og, .ref ap, .ref al, .ref aq, .int (iI ((cnt : Nat) : Int))])), (al, .inl (cI, 300, .inl (kA L)))]) (wr := [(ap, .inl (cI, 300, .inl (kA P))), (aq, .inl (cI, 300, .inl (kA S)))]) (wf := fun _ => [(hp, .inr (2, [.ref ob, .ref og, .ref ap, .ref al, .ref aq, .int (iI ((cnt : Nat) : Int))])), (ap, .inl (cI, 300, .inl (kA P))), (al, .inl (cI, 300, .inl (kA L))), (aq, .inl (cI, 300, .inl (kA S)))]) hK hP hD hS hA [0, 2] [1, 3] [2, 0, 3, 1] ⟨⟨rfl, rfl, by decide⟩, rfl, by decide, by decide⟩ (fun _ => ⟨rfl, rfl⟩) (by decide) (fun hPc hDc => va_runV (As := [.int (iI (((cnt : Nat) : Int) - 1 : Int))]) (rest := []) ⟨hx, hb, hml, hown, hts⟩ (c_Plan_length l D cI cZ (hp := hp) (ob := ob) (og := og) (ap := ap) (al := al) (aq := aq) (cnt := cnt) (F := L) (z := ((cnt : Nat) : Int) - 1) (hc := by omega) (hz := by omega) _) (cwV 1 hts (kgV wm268 wm269 wm270 wm41 wmcX2_length) rfl rfl rfl (by decide +kernel) ⟨Nat.le_of_ble_eq_true rfl, Nat.le_of_ble_eq_true rfl⟩) (k_preV hK hPc hDc (ci := 2) (q0 := 0) rfl rfl) rfl rfl hl.1 rfl (lv_room (Nat.le_of_ble_eq_true rfl)) dX2_addByte_25 ⟨Nat.le_of_ble_eq_true rfl, Nat.le_of_ble_eq_true rfl⟩) (fun r25 u H locs hw hP hD hS => ?_)
      have hP : va_P D vwCl [(hp, .inr (2, [.ref ob, .ref og, .ref ap, .ref al, .ref aq, .int (iI ((cnt : Nat) : Int))])), (ap, .inl (cI, 300, .inl (kA P))), (al, .inl (cI, 300, .inl (kA L))), (aq, .inl (cI, 300, .inl (kA S)))] H := hP
      have hD : va_D A [(hp, .inr (2, [.ref ob, .ref og, .ref ap, .ref al, .ref aq, .int (iI ((cnt : Nat) : Int))])), (ap, .inl (cI, 300, .inl (kA P))), (al, .inl (cI, 300, .inl (kA L))), (aq, .inl (cI, 300, .inl (kA S)))] := hD
      refine W.widen (k := 0) (n := 0) (Nat.le_of_ble_eq_true rfl) (Nat.le_of_ble_eq_true rfl) ?_
      have hw : r25 = iI (rZ L cnt (((cnt : Nat) : Int) - 1) : Int) := hw
      subst hw
      refine lv_bipush (v := iI (40 : Int)) hx hb dX2_addByte_28 (by decide) ?_
      refine lv_icmp_ge (tgt := 46) hx hb dX2_addByte_30 (by decide) (fun c30 => ?_) (fun c30 => ?_)
      · skip
        have c30 := iI_leT (a := (40 : Int)) (b := (rZ L cnt (((cnt : Nat) : Int) - 1) : Int)) c30 (by omega)
        refine lv_aload_n hx hb dX2_addByte_46 rfl (lv_at hl 1 rfl) ?_
        refine lv_iload_n hx hb dX2_addByte_47 rfl (lv_at hl 2 rfl) ?_
        refine lv_iconst (v := iI (1 : Int)) hx hb dX2_addByte_48 rfl ?_
        refine lv_iconst (v := iI (-1 : Int)) hx hb dX2_addByte_49 rfl ?_
        refine k_callv (wc := [(hp, .inr (2, [.ref ob, .ref og, .ref ap, .ref al, .ref aq, .int (iI ((cnt : Nat) : Int))])), (ap, .inl (cI, 300, .inl (kA P))), (al, .inl (cI, 300, .inl (kA L))), (aq, .inl (cI, 300, .inl (kA S)))]) (wr := []) (wf := fun _ => [(hp, .inr (2, [.ref ob, .ref og, .ref ap, .ref al, .ref aq, .int (iI ((cnt + 1 : Nat) : Int))])), (ap, .inl (cI, 300, .inl (kA (uZ P cnt ((p0 : Nat) : Int))))), (al, .inl (cI, 300, .inl (kA (uZ L cnt 1)))), (aq, .inl (cI, 300, .inl (kA (uZ S cnt (-1)))))]) hK hP hD hS hA [0, 1, 2, 3] [] [0, 1, 2, 3] ⟨⟨rfl, rfl, by decide⟩, rfl, by decide, by decide⟩ (fun _ => ⟨rfl, rfl⟩) (by decide) (fun hPc hDc => va_runV (As := [.int (iI ((p0 : Nat) : Int)), .int (iI (1 : Int)), .int (iI (-1 : Int))]) (rest := []) ⟨hx, hb, hml, hown, hts⟩ (c_Plan_append l D cI cZ (hp := hp) (ob := ob) (og := og) (ap := ap) (al := al) (aq := aq) (cnt := cnt) (P := P) (L := L) (S := S) (x1 := ((p0 : Nat) : Int)) (x2 := 1) (x3 := -1) (hc := by omega) _) (cwV 3 hts (kgV wm248 wm250 wm2 wm41 wmcX2_append) rfl rfl rfl (by decide +kernel) ⟨Nat.le_of_ble_eq_true rfl, Nat.le_of_ble_eq_true rfl⟩) (k_preV hK hPc hDc (ci := 2) (q0 := 0) rfl rfl) rfl rfl hl.1 rfl (lv_room (Nat.le_of_ble_eq_true rfl)) dX2_addByte_50 ⟨Nat.le_of_ble_eq_true rfl, Nat.le_of_ble_eq_true rfl⟩) (fun u H locs hw hP hD hS => ?_)
        have hP : va_P D vwCl [(hp, .inr (2, [.ref ob, .ref og, .ref ap, .ref al, .ref aq, .int (iI ((cnt + 1 : Nat) : Int))])), (ap, .inl (cI, 300, .inl (kA (uZ P cnt ((p0 : Nat) : Int))))), (al, .inl (cI, 300, .inl (kA (uZ L cnt 1)))), (aq, .inl (cI, 300, .inl (kA (uZ S cnt (-1)))))] H := hP
        have hD : va_D A [(hp, .inr (2, [.ref ob, .ref og, .ref ap, .ref al, .ref aq, .int (iI ((cnt + 1 : Nat) : Int))])), (ap, .inl (cI, 300, .inl (kA (uZ P cnt ((p0 : Nat) : Int))))), (al, .inl (cI, 300, .inl (kA (uZ L cnt 1)))), (aq, .inl (cI, 300, .inl (kA (uZ S cnt (-1)))))] := hD
        refine W.widen (k := 0) (n := 0) (Nat.le_of_ble_eq_true rfl) (Nat.le_of_ble_eq_true rfl) ?_
        exact k_vret (uZ P cnt ((p0 : Nat) : Int), uZ L cnt 1, uZ S cnt (-1), cnt + 1) hx hb hr hlocks hK hP hD hS [0, 1, 2, 3] (by decide) rfl rfl (by unfold adB; rw [if_neg (fun h => by omega)]) hAe hQ dX2_addByte_53
      · skip
        have c30 := iI_leF (a := (40 : Int)) (b := (rZ L cnt (((cnt : Nat) : Int) - 1) : Int)) c30 (by omega)
        refine lv_aload_n hx hb dX2_addByte_33 rfl (lv_at hl 1 rfl) ?_
        refine va_get (D := D) (ci := 2) (v := .ref al) (C := RX2) (T := TX2) (N := 6) hx hb hts hi_X2 hown hK hP 0 rfl rfl 3 (by decide) fl27 (fun _ h9 => h9) rfl dX2_addByte_34 ?_
        refine lv_iload_n hx hb dX2_addByte_37 rfl (lv_at hl 0 rfl) ?_
        refine lv_dup2_11 hx hb dX2_addByte_38 rfl rfl ?_
        refine k_iald hx hb hK hP 2 0 rfl rfl (cnt - 1) (by omega) dX2_addByte_39 ?_
        refine kn_i (y := iI (L (cnt - 1) : Int)) (rfl) ?_
        refine lv_iconst (v := iI (1 : Int)) hx hb dX2_addByte_40 rfl ?_
        refine lv_iadd hx hb dX2_addByte_41 ?_
        refine kn_i (iA (c := (L (cnt - 1) + 1 : Int)) (by omega)) ?_
        refine k_iast hx hb hK hP hD hS 2 0 rfl rfl (cnt - 1) (by omega) dX2_addByte_42 (fun H locs hP hD hS => ?_)
        have hP : va_P D vwCl [(hp, .inr (2, [.ref ob, .ref og, .ref ap, .ref al, .ref aq, .int (iI ((cnt : Nat) : Int))])), (ap, .inl (cI, 300, .inl (kA P))), (al, .inl (cI, 300, .inl (upd (kA L) (cnt - 1) (iI (L (cnt - 1) + 1 : Int))))), (aq, .inl (cI, 300, .inl (kA S)))] H := hP
        have hD : va_D A [(hp, .inr (2, [.ref ob, .ref og, .ref ap, .ref al, .ref aq, .int (iI ((cnt : Nat) : Int))])), (ap, .inl (cI, 300, .inl (kA P))), (al, .inl (cI, 300, .inl (upd (kA L) (cnt - 1) (iI (L (cnt - 1) + 1 : Int))))), (aq, .inl (cI, 300, .inl (kA S)))] := hD
        rw [show (upd (kA L) (cnt - 1) (iI (L (cnt - 1) + 1 : Int))) = (kA (uZ L (cnt - 1) (L (cnt - 1) + 1))) from kA_upd L (cnt - 1) _] at hP hD
        refine lv_goto (tgt := 53) hx hb dX2_addByte_43 (by decide) ?_
        exact k_vret (P, uZ L (cnt - 1) (L (cnt - 1) + 1), S, cnt) hx hb hr hlocks hK hP hD hS [0, 1, 2, 3] (by decide) rfl rfl (by unfold adB; rw [if_pos (by omega)]) hAe hQ dX2_addByte_53

abbrev rm_c_Plan_polr : Room := { frames := 2, cells := 0, slots := 0, locals := 40 }
set_option maxHeartbeats 4000000 in
set_option maxRecDepth 100000 in
theorem c_Plan_polr (l : Launch) (D : va_G) (cI cZ : ClassId) (hp : Nat) (ob : Nat) (og : Nat) (ap : Nat) (al : Nat) (aq : Nat) (cnt : Nat) (ab : Nat) (nb : Nat) (fb : Nat → Int32) (ag : Nat) (ng : Nat) (fg : Nat → Int32) (p0 : Nat) (hnb : nb ≤ 300) (hng : ng ≤ 300) (hp0 : p0 ≤ ng) : MI l yX2_placeOfLongestRun wsX2_placeOfLongestRun rm_c_Plan_polr D (kT cI cZ) [.ref hp, .int (iI ((p0 : Nat) : Int))] [(hp, .inr (2, [.ref ob, .ref og, .ref ap, .ref al, .ref aq, .int (iI ((cnt : Nat) : Int))])), (ob, .inr (3, [.ref ab, .int (iI ((nb : Nat) : Int))])), (ab, .inl (cI, 300, .inl fb)), (og, .inr (3, [.ref ag, .int (iI ((ng : Nat) : Int))])), (ag, .inl (cI, 300, .inl fg))] (fun (r : Int32) (_ : Unit) => r = iI ((lsQ (lr fg fb ng nb p0) nb : Nat) : Int)) (fun (u : Unit) => match u with | _ => [(hp, .inr (2, [.ref ob, .ref og, .ref ap, .ref al, .ref aq, .int (iI ((cnt : Nat) : Int))])), (ob, .inr (3, [.ref ab, .int (iI ((nb : Nat) : Int))])), (ab, .inl (cI, 300, .inl fb)), (og, .inr (3, [.ref ag, .int (iI ((ng : Nat) : Int))])), (ag, .inl (cI, 300, .inl fg))]) 0 0 := by
  intro sz
  refine k_of (cc := cX2_placeOfLongestRun) (maxL := 6) (ret := (some .int)) (by decide) rfl (Nat.le_of_ble_eq_true rfl) ?_
  intro p e s m args below meth c A Q hAe hQ hx hb hr hml hts hown hlocks hnm hP hK hD hS hA ls hl
  have hl : lv_has ls 6 [(0, .ref hp), (1, .int (iI ((p0 : Nat) : Int)))] := hl
  have hi_X2 : ∀ w ∈ u_ws RX2 TX2 6, w ∈ wsX2_placeOfLongestRun := fun w h => km (ikX2 w h)
  have fl14 := hts _ (km wm78)
  have fl20 := hts _ (km wm79)
  have hmx := fun q => mxR_le (r := (lr fg fb ng nb p0)) (b := nb) (fun q => lr_le) q
  refine lv_iconst (v := iI ((0 : Nat) : Int)) hx hb dX2_placeOfLongestRun_0 rfl ?_
  refine lv_istore_n (lv' := [(2, .int (iI ((0 : Nat) : Int))), (0, .ref hp), (1, .int (iI ((p0 : Nat) : Int)))]) hx hb dX2_placeOfLongestRun_1 rfl hl (by decide) rfl (fun ls hl => ?_)
  refine lv_iconst (v := iI ((0 : Nat) : Int)) hx hb dX2_placeOfLongestRun_2 rfl ?_
  refine lv_istore_n (lv' := [(3, .int (iI ((0 : Nat) : Int))), (2, .int (iI ((0 : Nat) : Int))), (0, .ref hp), (1, .int (iI ((p0 : Nat) : Int)))]) hx hb dX2_placeOfLongestRun_3 rfl hl (by decide) rfl (fun ls hl => ?_)
  refine lv_iconst (v := iI ((0 : Nat) : Int)) hx hb dX2_placeOfLongestRun_4 rfl ?_
  refine lv_istore (lv' := [(4, .int (iI ((0 : Nat) : Int))), (3, .int (iI ((0 : Nat) : Int))), (2, .int (iI ((0 : Nat) : Int))), (0, .ref hp), (1, .int (iI ((p0 : Nat) : Int)))]) hx hb dX2_placeOfLongestRun_5 hl (by decide) rfl (fun ls hl => ?_)
  have lp7 : ∀ (fu : Nat) (q : Nat) (H : Heap) (locs : List Loc) (ls : Array Slot), nb - q < fu → (q ≤ nb) → va_P D vwCl [(hp, .inr (2, [.ref ob, .ref og, .ref ap, .ref al, .ref aq, .int (iI ((cnt : Nat) : Int))])), (ob, .inr (3, [.ref ab, .int (iI ((nb : Nat) : Int))])), (ab, .inl (cI, 300, .inl fb)), (og, .inr (3, [.ref ag, .int (iI ((ng : Nat) : Int))])), (ag, .inl (cI, 300, .inl fg))] H → va_D A [(hp, .inr (2, [.ref ob, .ref og, .ref ap, .ref al, .ref aq, .int (iI ((cnt : Nat) : Int))])), (ob, .inr (3, [.ref ab, .int (iI ((nb : Nat) : Int))])), (ab, .inl (cI, 300, .inl fb)), (og, .inr (3, [.ref ag, .int (iI ((ng : Nat) : Int))])), (ag, .inl (cI, 300, .inl fg))] → va_S A s.heap H locs → lv_has ls 6 [(0, .ref hp), (1, .int (iI ((p0 : Nat) : Int))), (2, .int (iI ((mxR (lr fg fb ng nb p0) q : Nat) : Int))), (3, .int (iI ((lsQ (lr fg fb ng nb p0) q : Nat) : Int))), (4, .int (iI ((q : Nat) : Int)))] → W p l e rm_c_Plan_polr s m args below meth c H locs 0 0 Q (F0 m 7 ls []) := by
    intro fu
    induction fu with
    | zero => intro q H locs ls hfu; exact absurd hfu (Nat.not_lt_zero _)
    | succ fu ih7 =>
      intro q H locs ls hfu hq hP hD hS hl
      have hm1 := hmx q
      refine lv_iload hx hb dX2_placeOfLongestRun_7 (lv_at hl 4 rfl) ?_
      refine lv_aload_n hx hb dX2_placeOfLongestRun_9 rfl (lv_at hl 0 rfl) ?_
      refine va_get (D := D) (ci := 2) (v := .ref ob) (C := RX2) (T := TX2) (N := 6) hx hb hts hi_X2 hown hK hP 0 rfl rfl 0 (by decide) fl14 (fun _ h9 => h9) rfl dX2_placeOfLongestRun_10 ?_
      refine k_calli (wc := [(ob, .inr (3, [.ref ab, .int (iI ((nb : Nat) : Int))])), (ab, .inl (cI, 300, .inl fb))]) (wr := [(hp, .inr (2, [.ref ob, .ref og, .ref ap, .ref al, .ref aq, .int (iI ((cnt : Nat) : Int))])), (og, .inr (3, [.ref ag, .int (iI ((ng : Nat) : Int))])), (ag, .inl (cI, 300, .inl fg))]) (wf := fun _ => [(hp, .inr (2, [.ref ob, .ref og, .ref ap, .ref al, .ref aq, .int (iI ((cnt : Nat) : Int))])), (ob, .inr (3, [.ref ab, .int (iI ((nb : Nat) : Int))])), (ab, .inl (cI, 300, .inl fb)), (og, .inr (3, [.ref ag, .int (iI ((ng : Nat) : Int))])), (ag, .inl (cI, 300, .inl fg))]) hK hP hD hS hA [1, 2] [0, 3, 4] [0, 3, 4, 1, 2] ⟨⟨rfl, rfl, by decide⟩, rfl, by decide, by decide⟩ (fun _ => ⟨rfl, rfl⟩) (by decide) (fun hPc hDc => va_runV (As := []) (rest := [.int (iI ((q : Nat) : Int))]) ⟨hx, hb, hml, hown, hts⟩ (c_Row_count l D cI cZ (h := ob) (a := ab) (M := 300) (n := nb) (f := fb)  _) (cwV 0 hts (kgV wm239 wm193 wm194 wm39 wmcX3_count) rfl rfl rfl (by decide +kernel) ⟨Nat.le_of_ble_eq_true rfl, Nat.le_of_ble_eq_true rfl⟩) (k_preV hK hPc hDc (ci := 3) (q0 := 0) rfl rfl) rfl rfl hl.1 rfl (lv_room (Nat.le_of_ble_eq_true rfl)) dX2_placeOfLongestRun_13 ⟨Nat.le_of_ble_eq_true rfl, Nat.le_of_ble_eq_true rfl⟩) (fun r13 u H locs hw hP hD hS => ?_)
      have hP : va_P D vwCl [(hp, .inr (2, [.ref ob, .ref og, .ref ap, .ref al, .ref aq, .int (iI ((cnt : Nat) : Int))])), (ob, .inr (3, [.ref ab, .int (iI ((nb : Nat) : Int))])), (ab, .inl (cI, 300, .inl fb)), (og, .inr (3, [.ref ag, .int (iI ((ng : Nat) : Int))])), (ag, .inl (cI, 300, .inl fg))] H := hP
      have hD : va_D A [(hp, .inr (2, [.ref ob, .ref og, .ref ap, .ref al, .ref aq, .int (iI ((cnt : Nat) : Int))])), (ob, .inr (3, [.ref ab, .int (iI ((nb : Nat) : Int))])), (ab, .inl (cI, 300, .inl fb)), (og, .inr (3, [.ref ag, .int (iI ((ng : Nat) : Int))])), (ag, .inl (cI, 300, .inl fg))] := hD
      refine W.widen (k := 0) (n := 0) (Nat.le_of_ble_eq_true rfl) (Nat.le_of_ble_eq_true rfl) ?_
      have hw : r13 = iI ((nb : Nat) : Int) := hw
      subst hw
      refine lv_iload_n hx hb dX2_placeOfLongestRun_16 rfl (lv_at hl 2 rfl) ?_
      refine lv_isub hx hb dX2_placeOfLongestRun_17 ?_
      refine kn_i (iB (c := (((nb : Nat) : Int) - ((mxR (lr fg fb ng nb p0) q : Nat) : Int) : Int)) (by omega)) ?_
      refine lv_icmp_ge (tgt := 55) hx hb dX2_placeOfLongestRun_18 (by decide) (fun c18 => ?_) (fun c18 => ?_)
      · skip
        have c18 := iI_leT (a := (((nb : Nat) : Int) - ((mxR (lr fg fb ng nb p0) q : Nat) : Int) : Int)) (b := ((q : Nat) : Int)) c18 (by omega)
        refine lv_iload_n hx hb dX2_placeOfLongestRun_55 rfl (lv_at hl 3 rfl) ?_
        exact k_iret () hx hb hr hlocks hK hP hD hS [0, 1, 2, 3, 4] (by decide) rfl rfl (by rw [lsQ_stop (r := lr fg fb ng nb p0) hq (fun j h1 h2 => Nat.le_trans lr_le' (by omega))]) hAe hQ dX2_placeOfLongestRun_56
      · skip
        have c18 := iI_leF (a := (((nb : Nat) : Int) - ((mxR (lr fg fb ng nb p0) q : Nat) : Int) : Int)) (b := ((q : Nat) : Int)) c18 (by omega)
        refine lv_aload_n hx hb dX2_placeOfLongestRun_21 rfl (lv_at hl 0 rfl) ?_
        refine va_get (D := D) (ci := 2) (v := .ref og) (C := RX2) (T := TX2) (N := 6) hx hb hts hi_X2 hown hK hP 0 rfl rfl 1 (by decide) fl20 (fun _ h9 => h9) rfl dX2_placeOfLongestRun_22 ?_
        refine lv_iload_n hx hb dX2_placeOfLongestRun_25 rfl (lv_at hl 1 rfl) ?_
        refine lv_aload_n hx hb dX2_placeOfLongestRun_26 rfl (lv_at hl 0 rfl) ?_
        refine va_get (D := D) (ci := 2) (v := .ref ob) (C := RX2) (T := TX2) (N := 6) hx hb hts hi_X2 hown hK hP 0 rfl rfl 0 (by decide) fl14 (fun _ h9 => h9) rfl dX2_placeOfLongestRun_27 ?_
        refine lv_iload hx hb dX2_placeOfLongestRun_30 (lv_at hl 4 rfl) ?_
        have hlr := lr_le (fg := fg) (fb := fb) (ng := ng) (nb := nb) (p := p0) (q := q)
        refine k_calli (wc := [(og, .inr (3, [.ref ag, .int (iI ((ng : Nat) : Int))])), (ag, .inl (cI, 300, .inl fg)), (ob, .inr (3, [.ref ab, .int (iI ((nb : Nat) : Int))])), (ab, .inl (cI, 300, .inl fb))]) (wr := [(hp, .inr (2, [.ref ob, .ref og, .ref ap, .ref al, .ref aq, .int (iI ((cnt : Nat) : Int))]))]) (wf := fun _ => [(hp, .inr (2, [.ref ob, .ref og, .ref ap, .ref al, .ref aq, .int (iI ((cnt : Nat) : Int))])), (ob, .inr (3, [.ref ab, .int (iI ((nb : Nat) : Int))])), (ab, .inl (cI, 300, .inl fb)), (og, .inr (3, [.ref ag, .int (iI ((ng : Nat) : Int))])), (ag, .inl (cI, 300, .inl fg))]) hK hP hD hS hA [3, 4, 1, 2] [0] [0, 3, 4, 1, 2] ⟨⟨rfl, rfl, by decide⟩, rfl, by decide, by decide⟩ (fun _ => ⟨rfl, rfl⟩) (by decide) (fun hPc hDc => va_runV (As := [.int (iI ((p0 : Nat) : Int)), .ref ob, .int (iI ((q : Nat) : Int))]) (rest := []) ⟨hx, hb, hml, hown, hts⟩ (c_Row_sameFrom l D cI cZ (h := og) (a := ag) (M := 300) (n := ng) (f := fg) (h2 := ob) (a2 := ab) (M2 := 300) (n2 := nb) (g := fb) (i := p0) (j := q) (hM := by omega) (hn := by omega) (hM2 := by omega) (hn2 := by omega) (hi := by omega) (hj := by omega) _) (cwV 3 hts (kgV wm244 wm245 wm246 wm39 wmcX3_sameFrom) rfl rfl rfl (by decide +kernel) ⟨Nat.le_of_ble_eq_true rfl, Nat.le_of_ble_eq_true rfl⟩) (k_preV hK hPc hDc (ci := 3) (q0 := 0) rfl rfl) rfl rfl hl.1 rfl (lv_room (Nat.le_of_ble_eq_true rfl)) dX2_placeOfLongestRun_32 ⟨Nat.le_of_ble_eq_true rfl, Nat.le_of_ble_eq_true rfl⟩) (fun r32 u H locs hw hP hD hS => ?_)
        have hP : va_P D vwCl [(hp, .inr (2, [.ref ob, .ref og, .ref ap, .ref al, .ref aq, .int (iI ((cnt : Nat) : Int))])), (ob, .inr (3, [.ref ab, .int (iI ((nb : Nat) : Int))])), (ab, .inl (cI, 300, .inl fb)), (og, .inr (3, [.ref ag, .int (iI ((ng : Nat) : Int))])), (ag, .inl (cI, 300, .inl fg))] H := hP
        have hD : va_D A [(hp, .inr (2, [.ref ob, .ref og, .ref ap, .ref al, .ref aq, .int (iI ((cnt : Nat) : Int))])), (ob, .inr (3, [.ref ab, .int (iI ((nb : Nat) : Int))])), (ab, .inl (cI, 300, .inl fb)), (og, .inr (3, [.ref ag, .int (iI ((ng : Nat) : Int))])), (ag, .inl (cI, 300, .inl fg))] := hD
        refine W.widen (k := 0) (n := 0) (Nat.le_of_ble_eq_true rfl) (Nat.le_of_ble_eq_true rfl) ?_
        have hw : r32 = iI (((lr fg fb ng nb p0) q : Nat) : Int) := hw
        subst hw
        refine lv_istore (lv' := [(5, .int (iI (((lr fg fb ng nb p0) q : Nat) : Int))), (0, .ref hp), (1, .int (iI ((p0 : Nat) : Int))), (2, .int (iI ((mxR (lr fg fb ng nb p0) q : Nat) : Int))), (3, .int (iI ((lsQ (lr fg fb ng nb p0) q : Nat) : Int))), (4, .int (iI ((q : Nat) : Int)))]) hx hb dX2_placeOfLongestRun_35 hl (by decide) rfl (fun ls hl => ?_)
        refine lv_iload hx hb dX2_placeOfLongestRun_37 (lv_at hl 0 rfl) ?_
        refine lv_iload_n hx hb dX2_placeOfLongestRun_39 rfl (lv_at hl 3 rfl) ?_
        refine lv_icmp_le (tgt := 49) hx hb dX2_placeOfLongestRun_40 (by decide) (fun c40 => ?_) (fun c40 => ?_)
        · skip
          have c40 := iI_leT (a := (((lr fg fb ng nb p0) q : Nat) : Int)) (b := ((mxR (lr fg fb ng nb p0) q : Nat) : Int)) c40 (by omega)
          refine lv_iinc (v := iI ((q + 1 : Nat) : Int)) (lv' := [(4, .int (iI ((q + 1 : Nat) : Int))), (5, .int (iI (((lr fg fb ng nb p0) q : Nat) : Int))), (0, .ref hp), (1, .int (iI ((p0 : Nat) : Int))), (2, .int (iI ((mxR (lr fg fb ng nb p0) q : Nat) : Int))), (3, .int (iI ((lsQ (lr fg fb ng nb p0) q : Nat) : Int)))]) hx hb dX2_placeOfLongestRun_49 hl (k := 5) rfl (iA (by omega)) (by decide) rfl (fun ls hl => ?_)
          refine lv_goto (tgt := 7) hx hb dX2_placeOfLongestRun_52 (by decide) ?_
          have hl9 : lv_has ls 6 [(0, .ref hp), (1, .int (iI ((p0 : Nat) : Int))), (2, .int (iI ((mxR (lr fg fb ng nb p0) (q + 1) : Nat) : Int))), (3, .int (iI ((lsQ (lr fg fb ng nb p0) (q + 1) : Nat) : Int))), (4, .int (iI (((q + 1) : Nat) : Int)))] := by
            have hl := lv_sub hl [2, 3, 4, 5, 0] rfl
            rw [mxR_t (by omega), lsQ_t (by omega)]
            exact hl
          exact ih7 (q + 1) _ _ _ (by omega) (by omega) hP hD hS hl9
        · skip
          have c40 := iI_leF (a := (((lr fg fb ng nb p0) q : Nat) : Int)) (b := ((mxR (lr fg fb ng nb p0) q : Nat) : Int)) c40 (by omega)
          refine lv_iload hx hb dX2_placeOfLongestRun_43 (lv_at hl 0 rfl) ?_
          refine lv_istore_n (lv' := [(2, .int (iI (((lr fg fb ng nb p0) q : Nat) : Int))), (5, .int (iI (((lr fg fb ng nb p0) q : Nat) : Int))), (0, .ref hp), (1, .int (iI ((p0 : Nat) : Int))), (3, .int (iI ((lsQ (lr fg fb ng nb p0) q : Nat) : Int))), (4, .int (iI ((q : Nat) : Int)))]) hx hb dX2_placeOfLongestRun_45 rfl hl (by decide) rfl (fun ls hl => ?_)
          refine lv_iload hx hb dX2_placeOfLongestRun_46 (lv_at hl 5 rfl) ?_
          refine lv_istore_n (lv' := [(3, .int (iI ((q : Nat) : Int))), (2, .int (iI (((lr fg fb ng nb p0) q : Nat) : Int))), (5, .int (iI (((lr fg fb ng nb p0) q : Nat) : Int))), (0, .ref hp), (1, .int (iI ((p0 : Nat) : Int))), (4, .int (iI ((q : Nat) : Int)))]) hx hb dX2_placeOfLongestRun_48 rfl hl (by decide) rfl (fun ls hl => ?_)
          refine lv_iinc (v := iI ((q + 1 : Nat) : Int)) (lv' := [(4, .int (iI ((q + 1 : Nat) : Int))), (3, .int (iI ((q : Nat) : Int))), (2, .int (iI (((lr fg fb ng nb p0) q : Nat) : Int))), (5, .int (iI (((lr fg fb ng nb p0) q : Nat) : Int))), (0, .ref hp), (1, .int (iI ((p0 : Nat) : Int)))]) hx hb dX2_placeOfLongestRun_49 hl (k := 5) rfl (iA (by omega)) (by decide) rfl (fun ls hl => ?_)
          refine lv_goto (tgt := 7) hx hb dX2_placeOfLongestRun_52 (by decide) ?_
          have hl9 : lv_has ls 6 [(0, .ref hp), (1, .int (iI ((p0 : Nat) : Int))), (2, .int (iI ((mxR (lr fg fb ng nb p0) (q + 1) : Nat) : Int))), (3, .int (iI ((lsQ (lr fg fb ng nb p0) (q + 1) : Nat) : Int))), (4, .int (iI (((q + 1) : Nat) : Int)))] := by
            have hl := lv_sub hl [4, 5, 2, 1, 0] rfl
            rw [mxR_f (by omega), lsQ_f (by omega)]
            exact hl
          exact ih7 (q + 1) _ _ _ (by omega) (by omega) hP hD hS hl9
  exact lp7 _ 0 _ _ _ (Nat.lt_succ_self _) (by omega) hP hD hS (lv_sub hl [3, 4, 2, 1, 0] rfl)
end
section
abbrev rm_c_Plan_layOut : Room := { frames := 4, cells := 0, slots := 0, locals := 85 }
set_option maxHeartbeats 4000000 in
set_option maxRecDepth 100000 in
theorem c_Plan_layOut (l : Launch) (D : va_G) (cI cZ : ClassId) (hp : Nat) (ob : Nat) (og : Nat) (ap : Nat) (al : Nat) (aq : Nat) (cnt : Nat) (P : Nat → Int) (L : Nat → Int) (S : Nat → Int) (ab : Nat) (nb : Nat) (fb : Nat → Int32) (ag : Nat) (ng : Nat) (fg : Nat → Int32) (h1 : Nat) (a1 : Nat) (n1 : Nat) (f1 : Nat → Int32) (h2 : Nat) (a2 : Nat) (n2 : Nat) (f2 : Nat → Int32) (hn1 : n1 ≤ 300) (hn2 : n2 ≤ 300) : MV l yX2_layOut wsX2_layOut rm_c_Plan_layOut D (kT cI cZ) [.ref hp, .ref h1, .ref h2] [(hp, .inr (2, [.ref ob, .ref og, .ref ap, .ref al, .ref aq, .int (iI ((cnt : Nat) : Int))])), (ap, .inl (cI, 300, .inl (kA P))), (al, .inl (cI, 300, .inl (kA L))), (aq, .inl (cI, 300, .inl (kA S))), (ob, .inr (3, [.ref ab, .int (iI ((nb : Nat) : Int))])), (ab, .inl (cI, 300, .inl fb)), (og, .inr (3, [.ref ag, .int (iI ((ng : Nat) : Int))])), (ag, .inl (cI, 300, .inl fg)), (h1, .inr (3, [.ref a1, .int (iI ((n1 : Nat) : Int))])), (a1, .inl (cI, 300, .inl f1)), (h2, .inr (3, [.ref a2, .int (iI ((n2 : Nat) : Int))])), (a2, .inl (cI, 300, .inl f2))] (fun (u : (Nat → Int) × (Nat → Int) × (Nat → Int) × Nat) => u = layF (lr (apL fg 0 (sl f2 0 n2)) (apL fb 0 (sl f1 0 n1)) n2 n1) n1 n2 300 0 P L S 0) (fun (u : (Nat → Int) × (Nat → Int) × (Nat → Int) × Nat) => match u with | ⟨P8, L8, S8, c8⟩ => [(hp, .inr (2, [.ref ob, .ref og, .ref ap, .ref al, .ref aq, .int (iI ((c8 : Nat) : Int))])), (ap, .inl (cI, 300, .inl (kA P8))), (al, .inl (cI, 300, .inl (kA L8))), (aq, .inl (cI, 300, .inl (kA S8))), (ob, .inr (3, [.ref ab, .int (iI ((n1 : Nat) : Int))])), (ab, .inl (cI, 300, .inl (apL fb 0 (sl f1 0 n1)))), (og, .inr (3, [.ref ag, .int (iI ((n2 : Nat) : Int))])), (ag, .inl (cI, 300, .inl (apL fg 0 (sl f2 0 n2)))), (h1, .inr (3, [.ref a1, .int (iI ((n1 : Nat) : Int))])), (a1, .inl (cI, 300, .inl f1)), (h2, .inr (3, [.ref a2, .int (iI ((n2 : Nat) : Int))])), (a2, .inl (cI, 300, .inl f2))]) 0 0 := by
  intro sz
  refine k_of (cc := cX2_layOut) (maxL := 7) (ret := none) (by decide) rfl (Nat.le_of_ble_eq_true rfl) ?_
  intro p e s m args below meth c A Q hAe hQ hx hb hr hml hts hown hlocks hnm hP hK hD hS hA ls hl
  have hl : lv_has ls 7 [(0, .ref hp), (1, .ref h1), (2, .ref h2)] := hl
  have hi_X2 : ∀ w ∈ u_ws RX2 TX2 6, w ∈ wsX2_layOut := fun w h => km (ikX2 w h)
  have fl14 := hts _ (km wm78)
  have fl20 := hts _ (km wm79)
  have fl33 := hts _ (km wm83)
  refine lv_aload_n hx hb dX2_layOut_0 rfl (lv_at hl 0 rfl) ?_
  refine va_get (D := D) (ci := 2) (v := .ref ob) (C := RX2) (T := TX2) (N := 6) hx hb hts hi_X2 hown hK hP 0 rfl rfl 0 (by decide) fl14 (fun _ h9 => h9) rfl dX2_layOut_1 ?_
  refine lv_aload_n hx hb dX2_layOut_4 rfl (lv_at hl 1 rfl) ?_
  refine k_callv (wc := [(ob, .inr (3, [.ref ab, .int (iI ((nb : Nat) : Int))])), (ab, .inl (cI, 300, .inl fb)), (h1, .inr (3, [.ref a1, .int (iI ((n1 : Nat) : Int))])), (a1, .inl (cI, 300, .inl f1))]) (wr := [(hp, .inr (2, [.ref ob, .ref og, .ref ap, .ref al, .ref aq, .int (iI ((cnt : Nat) : Int))])), (ap, .inl (cI, 300, .inl (kA P))), (al, .inl (cI, 300, .inl (kA L))), (aq, .inl (cI, 300, .inl (kA S))), (og, .inr (3, [.ref ag, .int (iI ((ng : Nat) : Int))])), (ag, .inl (cI, 300, .inl fg)), (h2, .inr (3, [.ref a2, .int (iI ((n2 : Nat) : Int))])), (a2, .inl (cI, 300, .inl f2))]) (wf := fun _ => [(hp, .inr (2, [.ref ob, .ref og, .ref ap, .ref al, .ref aq, .int (iI ((cnt : Nat) : Int))])), (ap, .inl (cI, 300, .inl (kA P))), (al, .inl (cI, 300, .inl (kA L))), (aq, .inl (cI, 300, .inl (kA S))), (ob, .inr (3, [.ref ab, .int (iI ((n1 : Nat) : Int))])), (ab, .inl (cI, 300, .inl (apL fb 0 (sl f1 0 n1)))), (og, .inr (3, [.ref ag, .int (iI ((ng : Nat) : Int))])), (ag, .inl (cI, 300, .inl fg)), (h1, .inr (3, [.ref a1, .int (iI ((n1 : Nat) : Int))])), (a1, .inl (cI, 300, .inl f1)), (h2, .inr (3, [.ref a2, .int (iI ((n2 : Nat) : Int))])), (a2, .inl (cI, 300, .inl f2))]) hK hP hD hS hA [4, 5, 8, 9] [0, 1, 2, 3, 6, 7, 10, 11] [0, 1, 2, 3, 8, 9, 4, 5, 10, 11, 6, 7] ⟨⟨rfl, rfl, by decide⟩, rfl, by decide, by decide⟩ (fun _ => ⟨rfl, rfl⟩) (by decide) (fun hPc hDc => va_runV (As := [.ref h1]) (rest := []) ⟨hx, hb, hml, hown, hts⟩ (c_Row_become l D cI cZ (h := ob) (a := ab) (M := 300) (n := nb) (f := fb) (h2 := h1) (a2 := a1) (M2 := 300) (n2 := n1) (g := f1) (hM := by omega) (hM2 := by omega) (hn2 := by omega) (hk := by omega) _) (cwV 1 hts (kgV wm238 wm209 wm210 wm39 wmcX3_become) rfl rfl rfl (by decide +kernel) ⟨Nat.le_of_ble_eq_true rfl, Nat.le_of_ble_eq_true rfl⟩) (k_preV hK hPc hDc (ci := 3) (q0 := 0) rfl rfl) rfl rfl hl.1 rfl (lv_room (Nat.le_of_ble_eq_true rfl)) dX2_layOut_5 ⟨Nat.le_of_ble_eq_true rfl, Nat.le_of_ble_eq_true rfl⟩) (fun u H locs hw hP hD hS => ?_)
  have hP : va_P D vwCl [(hp, .inr (2, [.ref ob, .ref og, .ref ap, .ref al, .ref aq, .int (iI ((cnt : Nat) : Int))])), (ap, .inl (cI, 300, .inl (kA P))), (al, .inl (cI, 300, .inl (kA L))), (aq, .inl (cI, 300, .inl (kA S))), (ob, .inr (3, [.ref ab, .int (iI ((n1 : Nat) : Int))])), (ab, .inl (cI, 300, .inl (apL fb 0 (sl f1 0 n1)))), (og, .inr (3, [.ref ag, .int (iI ((ng : Nat) : Int))])), (ag, .inl (cI, 300, .inl fg)), (h1, .inr (3, [.ref a1, .int (iI ((n1 : Nat) : Int))])), (a1, .inl (cI, 300, .inl f1)), (h2, .inr (3, [.ref a2, .int (iI ((n2 : Nat) : Int))])), (a2, .inl (cI, 300, .inl f2))] H := hP
  have hD : va_D A [(hp, .inr (2, [.ref ob, .ref og, .ref ap, .ref al, .ref aq, .int (iI ((cnt : Nat) : Int))])), (ap, .inl (cI, 300, .inl (kA P))), (al, .inl (cI, 300, .inl (kA L))), (aq, .inl (cI, 300, .inl (kA S))), (ob, .inr (3, [.ref ab, .int (iI ((n1 : Nat) : Int))])), (ab, .inl (cI, 300, .inl (apL fb 0 (sl f1 0 n1)))), (og, .inr (3, [.ref ag, .int (iI ((ng : Nat) : Int))])), (ag, .inl (cI, 300, .inl fg)), (h1, .inr (3, [.ref a1, .int (iI ((n1 : Nat) : Int))])), (a1, .inl (cI, 300, .inl f1)), (h2, .inr (3, [.ref a2, .int (iI ((n2 : Nat) : Int))])), (a2, .inl (cI, 300, .inl f2))] := hD
  refine W.widen (k := 0) (n := 0) (Nat.le_of_ble_eq_true rfl) (Nat.le_of_ble_eq_true rfl) ?_
  refine lv_aload_n hx hb dX2_layOut_8 rfl (lv_at hl 0 rfl) ?_
  refine va_get (D := D) (ci := 2) (v := .ref og) (C := RX2) (T := TX2) (N := 6) hx hb hts hi_X2 hown hK hP 0 rfl rfl 1 (by decide) fl20 (fun _ h9 => h9) rfl dX2_layOut_9 ?_
  refine lv_aload_n hx hb dX2_layOut_12 rfl (lv_at hl 2 rfl) ?_
  refine k_callv (wc := [(og, .inr (3, [.ref ag, .int (iI ((ng : Nat) : Int))])), (ag, .inl (cI, 300, .inl fg)), (h2, .inr (3, [.ref a2, .int (iI ((n2 : Nat) : Int))])), (a2, .inl (cI, 300, .inl f2))]) (wr := [(hp, .inr (2, [.ref ob, .ref og, .ref ap, .ref al, .ref aq, .int (iI ((cnt : Nat) : Int))])), (ap, .inl (cI, 300, .inl (kA P))), (al, .inl (cI, 300, .inl (kA L))), (aq, .inl (cI, 300, .inl (kA S))), (ob, .inr (3, [.ref ab, .int (iI ((n1 : Nat) : Int))])), (ab, .inl (cI, 300, .inl (apL fb 0 (sl f1 0 n1)))), (h1, .inr (3, [.ref a1, .int (iI ((n1 : Nat) : Int))])), (a1, .inl (cI, 300, .inl f1))]) (wf := fun _ => [(hp, .inr (2, [.ref ob, .ref og, .ref ap, .ref al, .ref aq, .int (iI ((cnt : Nat) : Int))])), (ap, .inl (cI, 300, .inl (kA P))), (al, .inl (cI, 300, .inl (kA L))), (aq, .inl (cI, 300, .inl (kA S))), (ob, .inr (3, [.ref ab, .int (iI ((n1 : Nat) : Int))])), (ab, .inl (cI, 300, .inl (apL fb 0 (sl f1 0 n1)))), (og, .inr (3, [.ref ag, .int (iI ((n2 : Nat) : Int))])), (ag, .inl (cI, 300, .inl (apL fg 0 (sl f2 0 n2)))), (h1, .inr (3, [.ref a1, .int (iI ((n1 : Nat) : Int))])), (a1, .inl (cI, 300, .inl f1)), (h2, .inr (3, [.ref a2, .int (iI ((n2 : Nat) : Int))])), (a2, .inl (cI, 300, .inl f2))]) hK hP hD hS hA [6, 7, 10, 11] [0, 1, 2, 3, 4, 5, 8, 9] [0, 1, 2, 3, 4, 5, 8, 9, 6, 7, 10, 11] ⟨⟨rfl, rfl, by decide⟩, rfl, by decide, by decide⟩ (fun _ => ⟨rfl, rfl⟩) (by decide) (fun hPc hDc => va_runV (As := [.ref h2]) (rest := []) ⟨hx, hb, hml, hown, hts⟩ (c_Row_become l D cI cZ (h := og) (a := ag) (M := 300) (n := ng) (f := fg) (h2 := h2) (a2 := a2) (M2 := 300) (n2 := n2) (g := f2) (hM := by omega) (hM2 := by omega) (hn2 := by omega) (hk := by omega) _) (cwV 1 hts (kgV wm238 wm209 wm210 wm39 wmcX3_become) rfl rfl rfl (by decide +kernel) ⟨Nat.le_of_ble_eq_true rfl, Nat.le_of_ble_eq_true rfl⟩) (k_preV hK hPc hDc (ci := 3) (q0 := 0) rfl rfl) rfl rfl hl.1 rfl (lv_room (Nat.le_of_ble_eq_true rfl)) dX2_layOut_13 ⟨Nat.le_of_ble_eq_true rfl, Nat.le_of_ble_eq_true rfl⟩) (fun u H locs hw hP hD hS => ?_)
  have hP : va_P D vwCl [(hp, .inr (2, [.ref ob, .ref og, .ref ap, .ref al, .ref aq, .int (iI ((cnt : Nat) : Int))])), (ap, .inl (cI, 300, .inl (kA P))), (al, .inl (cI, 300, .inl (kA L))), (aq, .inl (cI, 300, .inl (kA S))), (ob, .inr (3, [.ref ab, .int (iI ((n1 : Nat) : Int))])), (ab, .inl (cI, 300, .inl (apL fb 0 (sl f1 0 n1)))), (og, .inr (3, [.ref ag, .int (iI ((n2 : Nat) : Int))])), (ag, .inl (cI, 300, .inl (apL fg 0 (sl f2 0 n2)))), (h1, .inr (3, [.ref a1, .int (iI ((n1 : Nat) : Int))])), (a1, .inl (cI, 300, .inl f1)), (h2, .inr (3, [.ref a2, .int (iI ((n2 : Nat) : Int))])), (a2, .inl (cI, 300, .inl f2))] H := hP
  have hD : va_D A [(hp, .inr (2, [.ref ob, .ref og, .ref ap, .ref al, .ref aq, .int (iI ((cnt : Nat) : Int))])), (ap, .inl (cI, 300, .inl (kA P))), (al, .inl (cI, 300, .inl (kA L))), (aq, .inl (cI, 300, .inl (kA S))), (ob, .inr (3, [.ref ab, .int (iI ((n1 : Nat) : Int))])), (ab, .inl (cI, 300, .inl (apL fb 0 (sl f1 0 n1)))), (og, .inr (3, [.ref ag, .int (iI ((n2 : Nat) : Int))])), (ag, .inl (cI, 300, .inl (apL fg 0 (sl f2 0 n2)))), (h1, .inr (3, [.ref a1, .int (iI ((n1 : Nat) : Int))])), (a1, .inl (cI, 300, .inl f1)), (h2, .inr (3, [.ref a2, .int (iI ((n2 : Nat) : Int))])), (a2, .inl (cI, 300, .inl f2))] := hD
  refine W.widen (k := 0) (n := 0) (Nat.le_of_ble_eq_true rfl) (Nat.le_of_ble_eq_true rfl) ?_
  refine lv_aload_n hx hb dX2_layOut_16 rfl (lv_at hl 0 rfl) ?_
  refine lv_iconst (v := iI ((0 : Nat) : Int)) hx hb dX2_layOut_17 rfl ?_
  refine va_put (D := D) (ci := 2) (v := .int (iI ((0 : Nat) : Int))) (ty := .int) (C := RX2) (T := TX2) (N := 6) hx hb hts hi_X2 tyX2 tyX2_ok nmX2 hown hK hP hD hS 0 rfl rfl 5 (by decide) fl33 (fun _ h9 => h9) rfl (by decide +kernel) rfl rfl (Nat.le_of_ble_eq_true rfl) dX2_layOut_18 (fun H locs hP hD hS => ?_)
  have hP : va_P D vwCl [(hp, .inr (2, [.ref ob, .ref og, .ref ap, .ref al, .ref aq, .int (iI ((0 : Nat) : Int))])), (ap, .inl (cI, 300, .inl (kA P))), (al, .inl (cI, 300, .inl (kA L))), (aq, .inl (cI, 300, .inl (kA S))), (ob, .inr (3, [.ref ab, .int (iI ((n1 : Nat) : Int))])), (ab, .inl (cI, 300, .inl (apL fb 0 (sl f1 0 n1)))), (og, .inr (3, [.ref ag, .int (iI ((n2 : Nat) : Int))])), (ag, .inl (cI, 300, .inl (apL fg 0 (sl f2 0 n2)))), (h1, .inr (3, [.ref a1, .int (iI ((n1 : Nat) : Int))])), (a1, .inl (cI, 300, .inl f1)), (h2, .inr (3, [.ref a2, .int (iI ((n2 : Nat) : Int))])), (a2, .inl (cI, 300, .inl f2))] H := hP
  have hD : va_D A [(hp, .inr (2, [.ref ob, .ref og, .ref ap, .ref al, .ref aq, .int (iI ((0 : Nat) : Int))])), (ap, .inl (cI, 300, .inl (kA P))), (al, .inl (cI, 300, .inl (kA L))), (aq, .inl (cI, 300, .inl (kA S))), (ob, .inr (3, [.ref ab, .int (iI ((n1 : Nat) : Int))])), (ab, .inl (cI, 300, .inl (apL fb 0 (sl f1 0 n1)))), (og, .inr (3, [.ref ag, .int (iI ((n2 : Nat) : Int))])), (ag, .inl (cI, 300, .inl (apL fg 0 (sl f2 0 n2)))), (h1, .inr (3, [.ref a1, .int (iI ((n1 : Nat) : Int))])), (a1, .inl (cI, 300, .inl f1)), (h2, .inr (3, [.ref a2, .int (iI ((n2 : Nat) : Int))])), (a2, .inl (cI, 300, .inl f2))] := hD
  refine lv_iconst (v := iI ((0 : Nat) : Int)) hx hb dX2_layOut_21 rfl ?_
  refine lv_istore_n (lv' := [(3, .int (iI ((0 : Nat) : Int))), (0, .ref hp), (1, .ref h1), (2, .ref h2)]) hx hb dX2_layOut_22 rfl hl (by decide) rfl (fun ls hl => ?_)
  refine lv_iconst (v := iI ((0 : Nat) : Int)) hx hb dX2_layOut_23 rfl ?_
  refine lv_istore (lv' := [(4, .int (iI ((0 : Nat) : Int))), (3, .int (iI ((0 : Nat) : Int))), (0, .ref hp), (1, .ref h1), (2, .ref h2)]) hx hb dX2_layOut_24 hl (by decide) rfl (fun ls hl => ?_)
  have lp26 : ∀ (fu : Nat) (t : Nat) (p0 : Nat) (c9 : Nat) (P9 : Nat → Int) (L9 : Nat → Int) (S9 : Nat → Int) (H : Heap) (locs : List Loc) (ls : Array Slot), 300 - t < fu → (t ≤ 300) → (p0 ≤ n2) → (c9 ≤ t) → (LW P9 L9 S9 c9 n1 p0) → (layF (lr (apL fg 0 (sl f2 0 n2)) (apL fb 0 (sl f1 0 n1)) n2 n1) n1 n2 (300 - t) p0 P9 L9 S9 c9 = layF (lr (apL fg 0 (sl f2 0 n2)) (apL fb 0 (sl f1 0 n1)) n2 n1) n1 n2 300 0 P L S 0) → va_P D vwCl [(hp, .inr (2, [.ref ob, .ref og, .ref ap, .ref al, .ref aq, .int (iI ((c9 : Nat) : Int))])), (ap, .inl (cI, 300, .inl (kA P9))), (al, .inl (cI, 300, .inl (kA L9))), (aq, .inl (cI, 300, .inl (kA S9))), (ob, .inr (3, [.ref ab, .int (iI ((n1 : Nat) : Int))])), (ab, .inl (cI, 300, .inl (apL fb 0 (sl f1 0 n1)))), (og, .inr (3, [.ref ag, .int (iI ((n2 : Nat) : Int))])), (ag, .inl (cI, 300, .inl (apL fg 0 (sl f2 0 n2)))), (h1, .inr (3, [.ref a1, .int (iI ((n1 : Nat) : Int))])), (a1, .inl (cI, 300, .inl f1)), (h2, .inr (3, [.ref a2, .int (iI ((n2 : Nat) : Int))])), (a2, .inl (cI, 300, .inl f2))] H → va_D A [(hp, .inr (2, [.ref ob, .ref og, .ref ap, .ref al, .ref aq, .int (iI ((c9 : Nat) : Int))])), (ap, .inl (cI, 300, .inl (kA P9))), (al, .inl (cI, 300, .inl (kA L9))), (aq, .inl (cI, 300, .inl (kA S9))), (ob, .inr (3, [.ref ab, .int (iI ((n1 : Nat) : Int))])), (ab, .inl (cI, 300, .inl (apL fb 0 (sl f1 0 n1)))), (og, .inr (3, [.ref ag, .int (iI ((n2 : Nat) : Int))])), (ag, .inl (cI, 300, .inl (apL fg 0 (sl f2 0 n2)))), (h1, .inr (3, [.ref a1, .int (iI ((n1 : Nat) : Int))])), (a1, .inl (cI, 300, .inl f1)), (h2, .inr (3, [.ref a2, .int (iI ((n2 : Nat) : Int))])), (a2, .inl (cI, 300, .inl f2))] → va_S A s.heap H locs → lv_has ls 7 [(0, .ref hp), (3, .int (iI ((p0 : Nat) : Int))), (4, .int (iI ((t : Nat) : Int)))] → W p l e rm_c_Plan_layOut s m args below meth c H locs 0 0 Q (F0 m 26 ls []) := by
    intro fu
    induction fu with
    | zero => intro t p0 c9 P9 L9 S9 H locs ls hfu; exact absurd hfu (Nat.not_lt_zero _)
    | succ fu ih26 =>
      intro t p0 c9 P9 L9 S9 H locs ls hfu ht hp0 htc hW hF hP hD hS hl
      refine lv_iload hx hb dX2_layOut_26 (lv_at hl 2 rfl) ?_
      refine lv_sipush (v := iI (300 : Int)) hx hb dX2_layOut_28 (by decide) ?_
      refine lv_icmp_ge (tgt := 105) hx hb dX2_layOut_31 (by decide) (fun c31 => ?_) (fun c31 => ?_)
      · skip
        have c31 := iI_leT (a := (300 : Int)) (b := ((t : Nat) : Int)) c31 (by omega)
        exact k_vret (P9, L9, S9, c9) hx hb hr hlocks hK hP hD hS [0, 1, 2, 3, 4, 5, 6, 7, 8, 9, 10, 11] (by decide) rfl rfl (by rw [← hF, layF_e (by omega)]) hAe hQ dX2_layOut_105
      · skip
        have c31 := iI_leF (a := (300 : Int)) (b := ((t : Nat) : Int)) c31 (by omega)
        refine lv_iload_n hx hb dX2_layOut_34 rfl (lv_at hl 1 rfl) ?_
        refine lv_aload_n hx hb dX2_layOut_35 rfl (lv_at hl 0 rfl) ?_
        refine va_get (D := D) (ci := 2) (v := .ref og) (C := RX2) (T := TX2) (N := 6) hx hb hts hi_X2 hown hK hP 0 rfl rfl 1 (by decide) fl20 (fun _ h9 => h9) rfl dX2_layOut_36 ?_
        refine k_calli (wc := [(og, .inr (3, [.ref ag, .int (iI ((n2 : Nat) : Int))])), (ag, .inl (cI, 300, .inl (apL fg 0 (sl f2 0 n2))))]) (wr := [(hp, .inr (2, [.ref ob, .ref og, .ref ap, .ref al, .ref aq, .int (iI ((c9 : Nat) : Int))])), (ap, .inl (cI, 300, .inl (kA P9))), (al, .inl (cI, 300, .inl (kA L9))), (aq, .inl (cI, 300, .inl (kA S9))), (ob, .inr (3, [.ref ab, .int (iI ((n1 : Nat) : Int))])), (ab, .inl (cI, 300, .inl (apL fb 0 (sl f1 0 n1)))), (h1, .inr (3, [.ref a1, .int (iI ((n1 : Nat) : Int))])), (a1, .inl (cI, 300, .inl f1)), (h2, .inr (3, [.ref a2, .int (iI ((n2 : Nat) : Int))])), (a2, .inl (cI, 300, .inl f2))]) (wf := fun _ => [(hp, .inr (2, [.ref ob, .ref og, .ref ap, .ref al, .ref aq, .int (iI ((c9 : Nat) : Int))])), (ap, .inl (cI, 300, .inl (kA P9))), (al, .inl (cI, 300, .inl (kA L9))), (aq, .inl (cI, 300, .inl (kA S9))), (ob, .inr (3, [.ref ab, .int (iI ((n1 : Nat) : Int))])), (ab, .inl (cI, 300, .inl (apL fb 0 (sl f1 0 n1)))), (og, .inr (3, [.ref ag, .int (iI ((n2 : Nat) : Int))])), (ag, .inl (cI, 300, .inl (apL fg 0 (sl f2 0 n2)))), (h1, .inr (3, [.ref a1, .int (iI ((n1 : Nat) : Int))])), (a1, .inl (cI, 300, .inl f1)), (h2, .inr (3, [.ref a2, .int (iI ((n2 : Nat) : Int))])), (a2, .inl (cI, 300, .inl f2))]) hK hP hD hS hA [6, 7] [0, 1, 2, 3, 4, 5, 8, 9, 10, 11] [0, 1, 2, 3, 4, 5, 10, 11, 6, 7, 8, 9] ⟨⟨rfl, rfl, by decide⟩, rfl, by decide, by decide⟩ (fun _ => ⟨rfl, rfl⟩) (by decide) (fun hPc hDc => va_runV (As := []) (rest := [.int (iI ((p0 : Nat) : Int))]) ⟨hx, hb, hml, hown, hts⟩ (c_Row_count l D cI cZ (h := og) (a := ag) (M := 300) (n := n2) (f := (apL fg 0 (sl f2 0 n2)))  _) (cwV 0 hts (kgV wm239 wm193 wm194 wm39 wmcX3_count) rfl rfl rfl (by decide +kernel) ⟨Nat.le_of_ble_eq_true rfl, Nat.le_of_ble_eq_true rfl⟩) (k_preV hK hPc hDc (ci := 3) (q0 := 0) rfl rfl) rfl rfl hl.1 rfl (lv_room (Nat.le_of_ble_eq_true rfl)) dX2_layOut_39 ⟨Nat.le_of_ble_eq_true rfl, Nat.le_of_ble_eq_true rfl⟩) (fun r39 u H locs hw hP hD hS => ?_)
        have hP : va_P D vwCl [(hp, .inr (2, [.ref ob, .ref og, .ref ap, .ref al, .ref aq, .int (iI ((c9 : Nat) : Int))])), (ap, .inl (cI, 300, .inl (kA P9))), (al, .inl (cI, 300, .inl (kA L9))), (aq, .inl (cI, 300, .inl (kA S9))), (ob, .inr (3, [.ref ab, .int (iI ((n1 : Nat) : Int))])), (ab, .inl (cI, 300, .inl (apL fb 0 (sl f1 0 n1)))), (og, .inr (3, [.ref ag, .int (iI ((n2 : Nat) : Int))])), (ag, .inl (cI, 300, .inl (apL fg 0 (sl f2 0 n2)))), (h1, .inr (3, [.ref a1, .int (iI ((n1 : Nat) : Int))])), (a1, .inl (cI, 300, .inl f1)), (h2, .inr (3, [.ref a2, .int (iI ((n2 : Nat) : Int))])), (a2, .inl (cI, 300, .inl f2))] H := hP
        have hD : va_D A [(hp, .inr (2, [.ref ob, .ref og, .ref ap, .ref al, .ref aq, .int (iI ((c9 : Nat) : Int))])), (ap, .inl (cI, 300, .inl (kA P9))), (al, .inl (cI, 300, .inl (kA L9))), (aq, .inl (cI, 300, .inl (kA S9))), (ob, .inr (3, [.ref ab, .int (iI ((n1 : Nat) : Int))])), (ab, .inl (cI, 300, .inl (apL fb 0 (sl f1 0 n1)))), (og, .inr (3, [.ref ag, .int (iI ((n2 : Nat) : Int))])), (ag, .inl (cI, 300, .inl (apL fg 0 (sl f2 0 n2)))), (h1, .inr (3, [.ref a1, .int (iI ((n1 : Nat) : Int))])), (a1, .inl (cI, 300, .inl f1)), (h2, .inr (3, [.ref a2, .int (iI ((n2 : Nat) : Int))])), (a2, .inl (cI, 300, .inl f2))] := hD
        refine W.widen (k := 0) (n := 0) (Nat.le_of_ble_eq_true rfl) (Nat.le_of_ble_eq_true rfl) ?_
        have hw : r39 = iI ((n2 : Nat) : Int) := hw
        subst hw
        refine lv_icmp_ge (tgt := 105) hx hb dX2_layOut_42 (by decide) (fun c42 => ?_) (fun c42 => ?_)
        · skip
          have c42 := iI_leT (a := ((n2 : Nat) : Int)) (b := ((p0 : Nat) : Int)) c42 (by omega)
          exact k_vret (P9, L9, S9, c9) hx hb hr hlocks hK hP hD hS [0, 1, 2, 3, 4, 5, 6, 7, 8, 9, 10, 11] (by decide) rfl rfl (by rw [← hF, layF_e (by omega)]) hAe hQ dX2_layOut_105
        · skip
          have c42 := iI_leF (a := ((n2 : Nat) : Int)) (b := ((p0 : Nat) : Int)) c42 (by omega)
          refine lv_aload_n hx hb dX2_layOut_45 rfl (lv_at hl 0 rfl) ?_
          refine lv_iload_n hx hb dX2_layOut_46 rfl (lv_at hl 1 rfl) ?_
          refine k_calli (wc := [(hp, .inr (2, [.ref ob, .ref og, .ref ap, .ref al, .ref aq, .int (iI ((c9 : Nat) : Int))])), (ob, .inr (3, [.ref ab, .int (iI ((n1 : Nat) : Int))])), (ab, .inl (cI, 300, .inl (apL fb 0 (sl f1 0 n1)))), (og, .inr (3, [.ref ag, .int (iI ((n2 : Nat) : Int))])), (ag, .inl (cI, 300, .inl (apL fg 0 (sl f2 0 n2))))]) (wr := [(ap, .inl (cI, 300, .inl (kA P9))), (al, .inl (cI, 300, .inl (kA L9))), (aq, .inl (cI, 300, .inl (kA S9))), (h1, .inr (3, [.ref a1, .int (iI ((n1 : Nat) : Int))])), (a1, .inl (cI, 300, .inl f1)), (h2, .inr (3, [.ref a2, .int (iI ((n2 : Nat) : Int))])), (a2, .inl (cI, 300, .inl f2))]) (wf := fun _ => [(hp, .inr (2, [.ref ob, .ref og, .ref ap, .ref al, .ref aq, .int (iI ((c9 : Nat) : Int))])), (ap, .inl (cI, 300, .inl (kA P9))), (al, .inl (cI, 300, .inl (kA L9))), (aq, .inl (cI, 300, .inl (kA S9))), (ob, .inr (3, [.ref ab, .int (iI ((n1 : Nat) : Int))])), (ab, .inl (cI, 300, .inl (apL fb 0 (sl f1 0 n1)))), (og, .inr (3, [.ref ag, .int (iI ((n2 : Nat) : Int))])), (ag, .inl (cI, 300, .inl (apL fg 0 (sl f2 0 n2)))), (h1, .inr (3, [.ref a1, .int (iI ((n1 : Nat) : Int))])), (a1, .inl (cI, 300, .inl f1)), (h2, .inr (3, [.ref a2, .int (iI ((n2 : Nat) : Int))])), (a2, .inl (cI, 300, .inl f2))]) hK hP hD hS hA [0, 4, 5, 6, 7] [1, 2, 3, 8, 9, 10, 11] [7, 0, 1, 2, 8, 9, 10, 11, 3, 4, 5, 6] ⟨⟨rfl, rfl, by decide⟩, rfl, by decide, by decide⟩ (fun _ => ⟨rfl, rfl⟩) (by decide) (fun hPc hDc => va_runV (As := [.int (iI ((p0 : Nat) : Int))]) (rest := []) ⟨hx, hb, hml, hown, hts⟩ (c_Plan_polr l D cI cZ (hp := hp) (ob := ob) (og := og) (ap := ap) (al := al) (aq := aq) (cnt := c9) (ab := ab) (nb := n1) (fb := (apL fb 0 (sl f1 0 n1))) (ag := ag) (ng := n2) (fg := (apL fg 0 (sl f2 0 n2))) (p0 := p0) (hnb := by omega) (hng := by omega) (hp0 := by omega) _) (cwV 1 hts (kgV wm240 wm242 wm1 wm41 wmcX2_placeOfLongestRun) rfl rfl rfl (by decide +kernel) ⟨Nat.le_of_ble_eq_true rfl, Nat.le_of_ble_eq_true rfl⟩) (k_preV hK hPc hDc (ci := 2) (q0 := 0) rfl rfl) rfl rfl hl.1 rfl (lv_room (Nat.le_of_ble_eq_true rfl)) dX2_layOut_47 ⟨Nat.le_of_ble_eq_true rfl, Nat.le_of_ble_eq_true rfl⟩) (fun r47 u H locs hw hP hD hS => ?_)
          have hP : va_P D vwCl [(hp, .inr (2, [.ref ob, .ref og, .ref ap, .ref al, .ref aq, .int (iI ((c9 : Nat) : Int))])), (ap, .inl (cI, 300, .inl (kA P9))), (al, .inl (cI, 300, .inl (kA L9))), (aq, .inl (cI, 300, .inl (kA S9))), (ob, .inr (3, [.ref ab, .int (iI ((n1 : Nat) : Int))])), (ab, .inl (cI, 300, .inl (apL fb 0 (sl f1 0 n1)))), (og, .inr (3, [.ref ag, .int (iI ((n2 : Nat) : Int))])), (ag, .inl (cI, 300, .inl (apL fg 0 (sl f2 0 n2)))), (h1, .inr (3, [.ref a1, .int (iI ((n1 : Nat) : Int))])), (a1, .inl (cI, 300, .inl f1)), (h2, .inr (3, [.ref a2, .int (iI ((n2 : Nat) : Int))])), (a2, .inl (cI, 300, .inl f2))] H := hP
          have hD : va_D A [(hp, .inr (2, [.ref ob, .ref og, .ref ap, .ref al, .ref aq, .int (iI ((c9 : Nat) : Int))])), (ap, .inl (cI, 300, .inl (kA P9))), (al, .inl (cI, 300, .inl (kA L9))), (aq, .inl (cI, 300, .inl (kA S9))), (ob, .inr (3, [.ref ab, .int (iI ((n1 : Nat) : Int))])), (ab, .inl (cI, 300, .inl (apL fb 0 (sl f1 0 n1)))), (og, .inr (3, [.ref ag, .int (iI ((n2 : Nat) : Int))])), (ag, .inl (cI, 300, .inl (apL fg 0 (sl f2 0 n2)))), (h1, .inr (3, [.ref a1, .int (iI ((n1 : Nat) : Int))])), (a1, .inl (cI, 300, .inl f1)), (h2, .inr (3, [.ref a2, .int (iI ((n2 : Nat) : Int))])), (a2, .inl (cI, 300, .inl f2))] := hD
          refine W.widen (k := 0) (n := 0) (Nat.le_of_ble_eq_true rfl) (Nat.le_of_ble_eq_true rfl) ?_
          have hw : r47 = iI ((lsQ (lr (apL fg 0 (sl f2 0 n2)) (apL fb 0 (sl f1 0 n1)) n2 n1 p0) n1 : Nat) : Int) := hw
          subst hw
          refine lv_istore (lv' := [(5, .int (iI ((lsQ (lr (apL fg 0 (sl f2 0 n2)) (apL fb 0 (sl f1 0 n1)) n2 n1 p0) n1 : Nat) : Int))), (0, .ref hp), (3, .int (iI ((p0 : Nat) : Int))), (4, .int (iI ((t : Nat) : Int)))]) hx hb dX2_layOut_50 hl (by decide) rfl (fun ls hl => ?_)
          refine lv_aload_n hx hb dX2_layOut_52 rfl (lv_at hl 1 rfl) ?_
          refine va_get (D := D) (ci := 2) (v := .ref og) (C := RX2) (T := TX2) (N := 6) hx hb hts hi_X2 hown hK hP 0 rfl rfl 1 (by decide) fl20 (fun _ h9 => h9) rfl dX2_layOut_53 ?_
          refine lv_iload_n hx hb dX2_layOut_56 rfl (lv_at hl 2 rfl) ?_
          refine lv_aload_n hx hb dX2_layOut_57 rfl (lv_at hl 1 rfl) ?_
          refine va_get (D := D) (ci := 2) (v := .ref ob) (C := RX2) (T := TX2) (N := 6) hx hb hts hi_X2 hown hK hP 0 rfl rfl 0 (by decide) fl14 (fun _ h9 => h9) rfl dX2_layOut_58 ?_
          refine lv_iload hx hb dX2_layOut_61 (lv_at hl 0 rfl) ?_
          refine k_calli (wc := [(og, .inr (3, [.ref ag, .int (iI ((n2 : Nat) : Int))])), (ag, .inl (cI, 300, .inl (apL fg 0 (sl f2 0 n2)))), (ob, .inr (3, [.ref ab, .int (iI ((n1 : Nat) : Int))])), (ab, .inl (cI, 300, .inl (apL fb 0 (sl f1 0 n1))))]) (wr := [(hp, .inr (2, [.ref ob, .ref og, .ref ap, .ref al, .ref aq, .int (iI ((c9 : Nat) : Int))])), (ap, .inl (cI, 300, .inl (kA P9))), (al, .inl (cI, 300, .inl (kA L9))), (aq, .inl (cI, 300, .inl (kA S9))), (h1, .inr (3, [.ref a1, .int (iI ((n1 : Nat) : Int))])), (a1, .inl (cI, 300, .inl f1)), (h2, .inr (3, [.ref a2, .int (iI ((n2 : Nat) : Int))])), (a2, .inl (cI, 300, .inl f2))]) (wf := fun _ => [(hp, .inr (2, [.ref ob, .ref og, .ref ap, .ref al, .ref aq, .int (iI ((c9 : Nat) : Int))])), (ap, .inl (cI, 300, .inl (kA P9))), (al, .inl (cI, 300, .inl (kA L9))), (aq, .inl (cI, 300, .inl (kA S9))), (ob, .inr (3, [.ref ab, .int (iI ((n1 : Nat) : Int))])), (ab, .inl (cI, 300, .inl (apL fb 0 (sl f1 0 n1)))), (og, .inr (3, [.ref ag, .int (iI ((n2 : Nat) : Int))])), (ag, .inl (cI, 300, .inl (apL fg 0 (sl f2 0 n2)))), (h1, .inr (3, [.ref a1, .int (iI ((n1 : Nat) : Int))])), (a1, .inl (cI, 300, .inl f1)), (h2, .inr (3, [.ref a2, .int (iI ((n2 : Nat) : Int))])), (a2, .inl (cI, 300, .inl f2))]) hK hP hD hS hA [6, 7, 4, 5] [0, 1, 2, 3, 8, 9, 10, 11] [0, 1, 2, 3, 10, 11, 8, 9, 4, 5, 6, 7] ⟨⟨rfl, rfl, by decide⟩, rfl, by decide, by decide⟩ (fun _ => ⟨rfl, rfl⟩) (by decide) (fun hPc hDc => va_runV (As := [.int (iI ((p0 : Nat) : Int)), .ref ob, .int (iI ((lsQ (lr (apL fg 0 (sl f2 0 n2)) (apL fb 0 (sl f1 0 n1)) n2 n1 p0) n1 : Nat) : Int))]) (rest := []) ⟨hx, hb, hml, hown, hts⟩ (c_Row_sameFrom l D cI cZ (h := og) (a := ag) (M := 300) (n := n2) (f := (apL fg 0 (sl f2 0 n2))) (h2 := ob) (a2 := ab) (M2 := 300) (n2 := n1) (g := (apL fb 0 (sl f1 0 n1))) (i := p0) (j := lsQ (lr (apL fg 0 (sl f2 0 n2)) (apL fb 0 (sl f1 0 n1)) n2 n1 p0) n1) (hM := by omega) (hn := by omega) (hM2 := by omega) (hn2 := by omega) (hi := by omega) (hj := lsQ_le _ _) _) (cwV 3 hts (kgV wm244 wm245 wm246 wm39 wmcX3_sameFrom) rfl rfl rfl (by decide +kernel) ⟨Nat.le_of_ble_eq_true rfl, Nat.le_of_ble_eq_true rfl⟩) (k_preV hK hPc hDc (ci := 3) (q0 := 0) rfl rfl) rfl rfl hl.1 rfl (lv_room (Nat.le_of_ble_eq_true rfl)) dX2_layOut_63 ⟨Nat.le_of_ble_eq_true rfl, Nat.le_of_ble_eq_true rfl⟩) (fun r63 u H locs hw hP hD hS => ?_)
          have hP : va_P D vwCl [(hp, .inr (2, [.ref ob, .ref og, .ref ap, .ref al, .ref aq, .int (iI ((c9 : Nat) : Int))])), (ap, .inl (cI, 300, .inl (kA P9))), (al, .inl (cI, 300, .inl (kA L9))), (aq, .inl (cI, 300, .inl (kA S9))), (ob, .inr (3, [.ref ab, .int (iI ((n1 : Nat) : Int))])), (ab, .inl (cI, 300, .inl (apL fb 0 (sl f1 0 n1)))), (og, .inr (3, [.ref ag, .int (iI ((n2 : Nat) : Int))])), (ag, .inl (cI, 300, .inl (apL fg 0 (sl f2 0 n2)))), (h1, .inr (3, [.ref a1, .int (iI ((n1 : Nat) : Int))])), (a1, .inl (cI, 300, .inl f1)), (h2, .inr (3, [.ref a2, .int (iI ((n2 : Nat) : Int))])), (a2, .inl (cI, 300, .inl f2))] H := hP
          have hD : va_D A [(hp, .inr (2, [.ref ob, .ref og, .ref ap, .ref al, .ref aq, .int (iI ((c9 : Nat) : Int))])), (ap, .inl (cI, 300, .inl (kA P9))), (al, .inl (cI, 300, .inl (kA L9))), (aq, .inl (cI, 300, .inl (kA S9))), (ob, .inr (3, [.ref ab, .int (iI ((n1 : Nat) : Int))])), (ab, .inl (cI, 300, .inl (apL fb 0 (sl f1 0 n1)))), (og, .inr (3, [.ref ag, .int (iI ((n2 : Nat) : Int))])), (ag, .inl (cI, 300, .inl (apL fg 0 (sl f2 0 n2)))), (h1, .inr (3, [.ref a1, .int (iI ((n1 : Nat) : Int))])), (a1, .inl (cI, 300, .inl f1)), (h2, .inr (3, [.ref a2, .int (iI ((n2 : Nat) : Int))])), (a2, .inl (cI, 300, .inl f2))] := hD
          refine W.widen (k := 0) (n := 0) (Nat.le_of_ble_eq_true rfl) (Nat.le_of_ble_eq_true rfl) ?_
          have hw : r63 = iI ((mxR (lr (apL fg 0 (sl f2 0 n2)) (apL fb 0 (sl f1 0 n1)) n2 n1 p0) n1 : Nat) : Int) := hw.trans (congrArg (fun z : Nat => iI (z : Int)) lr_at)
          subst hw
          have hm2 : mxR (lr (apL fg 0 (sl f2 0 n2)) (apL fb 0 (sl f1 0 n1)) n2 n1 p0) n1 ≤ n2 - p0 := mxR_le (fun q => lr_leg) n1
          have hm3 : mxR (lr (apL fg 0 (sl f2 0 n2)) (apL fb 0 (sl f1 0 n1)) n2 n1 p0) n1 ≤ n1 - lsQ (lr (apL fg 0 (sl f2 0 n2)) (apL fb 0 (sl f1 0 n1)) n2 n1 p0) n1 := by
            have := lr_le' (fg := (apL fg 0 (sl f2 0 n2))) (fb := (apL fb 0 (sl f1 0 n1))) (ng := n2) (nb := n1) (p := p0) (q := lsQ (lr (apL fg 0 (sl f2 0 n2)) (apL fb 0 (sl f1 0 n1)) n2 n1 p0) n1)
            rw [lr_at] at this
            exact this
          have hm4 := lsQ_le (lr (apL fg 0 (sl f2 0 n2)) (apL fb 0 (sl f1 0 n1)) n2 n1 p0) n1
          refine lv_istore (lv' := [(6, .int (iI ((mxR (lr (apL fg 0 (sl f2 0 n2)) (apL fb 0 (sl f1 0 n1)) n2 n1 p0) n1 : Nat) : Int))), (5, .int (iI ((lsQ (lr (apL fg 0 (sl f2 0 n2)) (apL fb 0 (sl f1 0 n1)) n2 n1 p0) n1 : Nat) : Int))), (0, .ref hp), (3, .int (iI ((p0 : Nat) : Int))), (4, .int (iI ((t : Nat) : Int)))]) hx hb dX2_layOut_66 hl (by decide) rfl (fun ls hl => ?_)
          refine lv_iload hx hb dX2_layOut_68 (lv_at hl 0 rfl) ?_
          refine lv_iconst (v := iI (4 : Int)) hx hb dX2_layOut_70 rfl ?_
          refine lv_icmp_lt (tgt := 91) hx hb dX2_layOut_71 (by decide) (fun c71 => ?_) (fun c71 => ?_)
          · skip
            have c71 := iI_ltT (a := ((mxR (lr (apL fg 0 (sl f2 0 n2)) (apL fb 0 (sl f1 0 n1)) n2 n1 p0) n1 : Nat) : Int)) (b := (4 : Int)) c71 (by omega)
            refine lv_aload_n hx hb dX2_layOut_91 rfl (lv_at hl 2 rfl) ?_
            refine lv_iload_n hx hb dX2_layOut_92 rfl (lv_at hl 3 rfl) ?_
            refine k_callv (wc := [(hp, .inr (2, [.ref ob, .ref og, .ref ap, .ref al, .ref aq, .int (iI ((c9 : Nat) : Int))])), (ap, .inl (cI, 300, .inl (kA P9))), (al, .inl (cI, 300, .inl (kA L9))), (aq, .inl (cI, 300, .inl (kA S9)))]) (wr := [(ob, .inr (3, [.ref ab, .int (iI ((n1 : Nat) : Int))])), (ab, .inl (cI, 300, .inl (apL fb 0 (sl f1 0 n1)))), (og, .inr (3, [.ref ag, .int (iI ((n2 : Nat) : Int))])), (ag, .inl (cI, 300, .inl (apL fg 0 (sl f2 0 n2)))), (h1, .inr (3, [.ref a1, .int (iI ((n1 : Nat) : Int))])), (a1, .inl (cI, 300, .inl f1)), (h2, .inr (3, [.ref a2, .int (iI ((n2 : Nat) : Int))])), (a2, .inl (cI, 300, .inl f2))]) (wf := fun u => match u with | ⟨P8, L8, S8, c8⟩ => [(hp, .inr (2, [.ref ob, .ref og, .ref ap, .ref al, .ref aq, .int (iI ((c8 : Nat) : Int))])), (ap, .inl (cI, 300, .inl (kA P8))), (al, .inl (cI, 300, .inl (kA L8))), (aq, .inl (cI, 300, .inl (kA S8))), (ob, .inr (3, [.ref ab, .int (iI ((n1 : Nat) : Int))])), (ab, .inl (cI, 300, .inl (apL fb 0 (sl f1 0 n1)))), (og, .inr (3, [.ref ag, .int (iI ((n2 : Nat) : Int))])), (ag, .inl (cI, 300, .inl (apL fg 0 (sl f2 0 n2)))), (h1, .inr (3, [.ref a1, .int (iI ((n1 : Nat) : Int))])), (a1, .inl (cI, 300, .inl f1)), (h2, .inr (3, [.ref a2, .int (iI ((n2 : Nat) : Int))])), (a2, .inl (cI, 300, .inl f2))]) hK hP hD hS hA [0, 1, 2, 3] [4, 5, 6, 7, 8, 9, 10, 11] [8, 9, 10, 11, 0, 1, 2, 3, 4, 5, 6, 7] ⟨⟨rfl, rfl, by decide⟩, rfl, by decide, by decide⟩ (fun _ => ⟨rfl, rfl⟩) (by decide) (fun hPc hDc => va_runV (As := [.int (iI ((p0 : Nat) : Int))]) (rest := []) ⟨hx, hb, hml, hown, hts⟩ (c_Plan_addByte l D cI cZ (hp := hp) (ob := ob) (og := og) (ap := ap) (al := al) (aq := aq) (cnt := c9) (P := P9) (L := L9) (S := S9) (p0 := p0) (hc := by omega) (hLr := fun i hi => by have := hW.1 i hi; omega) (hSr := fun i hi => by have := hW.1 i hi; omega) _) (cwV 1 hts (kgV wm252 wm254 wm3 wm41 wmcX2_addByte) rfl rfl rfl (by decide +kernel) ⟨Nat.le_of_ble_eq_true rfl, Nat.le_of_ble_eq_true rfl⟩) (k_preV hK hPc hDc (ci := 2) (q0 := 0) rfl rfl) rfl rfl hl.1 rfl (lv_room (Nat.le_of_ble_eq_true rfl)) dX2_layOut_93 ⟨Nat.le_of_ble_eq_true rfl, Nat.le_of_ble_eq_true rfl⟩) (fun u H locs hw hP hD hS => ?_)
            obtain ⟨P8, L8, S8, c8⟩ := u
            have hP : va_P D vwCl [(hp, .inr (2, [.ref ob, .ref og, .ref ap, .ref al, .ref aq, .int (iI ((c8 : Nat) : Int))])), (ap, .inl (cI, 300, .inl (kA P8))), (al, .inl (cI, 300, .inl (kA L8))), (aq, .inl (cI, 300, .inl (kA S8))), (ob, .inr (3, [.ref ab, .int (iI ((n1 : Nat) : Int))])), (ab, .inl (cI, 300, .inl (apL fb 0 (sl f1 0 n1)))), (og, .inr (3, [.ref ag, .int (iI ((n2 : Nat) : Int))])), (ag, .inl (cI, 300, .inl (apL fg 0 (sl f2 0 n2)))), (h1, .inr (3, [.ref a1, .int (iI ((n1 : Nat) : Int))])), (a1, .inl (cI, 300, .inl f1)), (h2, .inr (3, [.ref a2, .int (iI ((n2 : Nat) : Int))])), (a2, .inl (cI, 300, .inl f2))] H := hP
            have hD : va_D A [(hp, .inr (2, [.ref ob, .ref og, .ref ap, .ref al, .ref aq, .int (iI ((c8 : Nat) : Int))])), (ap, .inl (cI, 300, .inl (kA P8))), (al, .inl (cI, 300, .inl (kA L8))), (aq, .inl (cI, 300, .inl (kA S8))), (ob, .inr (3, [.ref ab, .int (iI ((n1 : Nat) : Int))])), (ab, .inl (cI, 300, .inl (apL fb 0 (sl f1 0 n1)))), (og, .inr (3, [.ref ag, .int (iI ((n2 : Nat) : Int))])), (ag, .inl (cI, 300, .inl (apL fg 0 (sl f2 0 n2)))), (h1, .inr (3, [.ref a1, .int (iI ((n1 : Nat) : Int))])), (a1, .inl (cI, 300, .inl f1)), (h2, .inr (3, [.ref a2, .int (iI ((n2 : Nat) : Int))])), (a2, .inl (cI, 300, .inl f2))] := hD
            refine W.widen (k := 0) (n := 0) (Nat.le_of_ble_eq_true rfl) (Nat.le_of_ble_eq_true rfl) ?_
            obtain ⟨e1, e2, e3, e4⟩ : P8 = (adB P9 L9 S9 c9 p0).1 ∧ L8 = (adB P9 L9 S9 c9 p0).2.1 ∧ S8 = (adB P9 L9 S9 c9 p0).2.2.1 ∧ c8 = (adB P9 L9 S9 c9 p0).2.2.2 := by rw [← hw]; exact ⟨rfl, rfl, rfl, rfl⟩
            refine lv_iinc (v := iI ((p0 + 1 : Nat) : Int)) (lv' := [(3, .int (iI ((p0 + 1 : Nat) : Int))), (6, .int (iI ((mxR (lr (apL fg 0 (sl f2 0 n2)) (apL fb 0 (sl f1 0 n1)) n2 n1 p0) n1 : Nat) : Int))), (5, .int (iI ((lsQ (lr (apL fg 0 (sl f2 0 n2)) (apL fb 0 (sl f1 0 n1)) n2 n1 p0) n1 : Nat) : Int))), (0, .ref hp), (4, .int (iI ((t : Nat) : Int)))]) hx hb dX2_layOut_96 hl (k := 3) rfl (iA (by omega)) (by decide) rfl (fun ls hl => ?_)
            refine lv_iinc (v := iI ((t + 1 : Nat) : Int)) (lv' := [(4, .int (iI ((t + 1 : Nat) : Int))), (3, .int (iI ((p0 + 1 : Nat) : Int))), (6, .int (iI ((mxR (lr (apL fg 0 (sl f2 0 n2)) (apL fb 0 (sl f1 0 n1)) n2 n1 p0) n1 : Nat) : Int))), (5, .int (iI ((lsQ (lr (apL fg 0 (sl f2 0 n2)) (apL fb 0 (sl f1 0 n1)) n2 n1 p0) n1 : Nat) : Int))), (0, .ref hp)]) hx hb dX2_layOut_99 hl (k := 4) rfl (iA (by omega)) (by decide) rfl (fun ls hl => ?_)
            refine lv_goto (tgt := 26) hx hb dX2_layOut_102 (by decide) ?_
            exact ih26 (t + 1) (p0 + 1) c8 P8 L8 S8 _ _ _ (by omega) (by omega) (by omega) (by rw [e4]; exact Nat.le_trans (adB_c _ _ _ _ _) (by omega)) (by rw [e1, e2, e3, e4]; exact LW_adB hW) (by rw [e1, e2, e3, e4, ← layF_a (by omega) (by omega) (by omega)]; exact hF) hP hD hS (lv_sub hl [4, 1, 0] rfl)
          · skip
            have c71 := iI_ltF (a := ((mxR (lr (apL fg 0 (sl f2 0 n2)) (apL fb 0 (sl f1 0 n1)) n2 n1 p0) n1 : Nat) : Int)) (b := (4 : Int)) c71 (by omega)
            refine lv_aload_n hx hb dX2_layOut_74 rfl (lv_at hl 2 rfl) ?_
            refine lv_iload_n hx hb dX2_layOut_75 rfl (lv_at hl 3 rfl) ?_
            refine lv_iload hx hb dX2_layOut_76 (lv_at hl 0 rfl) ?_
            refine lv_iload hx hb dX2_layOut_78 (lv_at hl 1 rfl) ?_
            refine k_callv (wc := [(hp, .inr (2, [.ref ob, .ref og, .ref ap, .ref al, .ref aq, .int (iI ((c9 : Nat) : Int))])), (ap, .inl (cI, 300, .inl (kA P9))), (al, .inl (cI, 300, .inl (kA L9))), (aq, .inl (cI, 300, .inl (kA S9)))]) (wr := [(ob, .inr (3, [.ref ab, .int (iI ((n1 : Nat) : Int))])), (ab, .inl (cI, 300, .inl (apL fb 0 (sl f1 0 n1)))), (og, .inr (3, [.ref ag, .int (iI ((n2 : Nat) : Int))])), (ag, .inl (cI, 300, .inl (apL fg 0 (sl f2 0 n2)))), (h1, .inr (3, [.ref a1, .int (iI ((n1 : Nat) : Int))])), (a1, .inl (cI, 300, .inl f1)), (h2, .inr (3, [.ref a2, .int (iI ((n2 : Nat) : Int))])), (a2, .inl (cI, 300, .inl f2))]) (wf := fun _ => [(hp, .inr (2, [.ref ob, .ref og, .ref ap, .ref al, .ref aq, .int (iI ((c9 + 1 : Nat) : Int))])), (ap, .inl (cI, 300, .inl (kA (uZ P9 c9 ((p0 : Nat) : Int))))), (al, .inl (cI, 300, .inl (kA (uZ L9 c9 ((mxR (lr (apL fg 0 (sl f2 0 n2)) (apL fb 0 (sl f1 0 n1)) n2 n1 p0) n1 : Nat) : Int))))), (aq, .inl (cI, 300, .inl (kA (uZ S9 c9 ((lsQ (lr (apL fg 0 (sl f2 0 n2)) (apL fb 0 (sl f1 0 n1)) n2 n1 p0) n1 : Nat) : Int))))), (ob, .inr (3, [.ref ab, .int (iI ((n1 : Nat) : Int))])), (ab, .inl (cI, 300, .inl (apL fb 0 (sl f1 0 n1)))), (og, .inr (3, [.ref ag, .int (iI ((n2 : Nat) : Int))])), (ag, .inl (cI, 300, .inl (apL fg 0 (sl f2 0 n2)))), (h1, .inr (3, [.ref a1, .int (iI ((n1 : Nat) : Int))])), (a1, .inl (cI, 300, .inl f1)), (h2, .inr (3, [.ref a2, .int (iI ((n2 : Nat) : Int))])), (a2, .inl (cI, 300, .inl f2))]) hK hP hD hS hA [0, 1, 2, 3] [4, 5, 6, 7, 8, 9, 10, 11] [8, 9, 10, 11, 0, 1, 2, 3, 4, 5, 6, 7] ⟨⟨rfl, rfl, by decide⟩, rfl, by decide, by decide⟩ (fun _ => ⟨rfl, rfl⟩) (by decide) (fun hPc hDc => va_runV (As := [.int (iI ((p0 : Nat) : Int)), .int (iI ((mxR (lr (apL fg 0 (sl f2 0 n2)) (apL fb 0 (sl f1 0 n1)) n2 n1 p0) n1 : Nat) : Int)), .int (iI ((lsQ (lr (apL fg 0 (sl f2 0 n2)) (apL fb 0 (sl f1 0 n1)) n2 n1 p0) n1 : Nat) : Int))]) (rest := []) ⟨hx, hb, hml, hown, hts⟩ (c_Plan_append l D cI cZ (hp := hp) (ob := ob) (og := og) (ap := ap) (al := al) (aq := aq) (cnt := c9) (P := P9) (L := L9) (S := S9) (x1 := ((p0 : Nat) : Int)) (x2 := ((mxR (lr (apL fg 0 (sl f2 0 n2)) (apL fb 0 (sl f1 0 n1)) n2 n1 p0) n1 : Nat) : Int)) (x3 := ((lsQ (lr (apL fg 0 (sl f2 0 n2)) (apL fb 0 (sl f1 0 n1)) n2 n1 p0) n1 : Nat) : Int)) (hc := by omega) _) (cwV 3 hts (kgV wm248 wm250 wm2 wm41 wmcX2_append) rfl rfl rfl (by decide +kernel) ⟨Nat.le_of_ble_eq_true rfl, Nat.le_of_ble_eq_true rfl⟩) (k_preV hK hPc hDc (ci := 2) (q0 := 0) rfl rfl) rfl rfl hl.1 rfl (lv_room (Nat.le_of_ble_eq_true rfl)) dX2_layOut_80 ⟨Nat.le_of_ble_eq_true rfl, Nat.le_of_ble_eq_true rfl⟩) (fun u H locs hw hP hD hS => ?_)
            have hP : va_P D vwCl [(hp, .inr (2, [.ref ob, .ref og, .ref ap, .ref al, .ref aq, .int (iI ((c9 + 1 : Nat) : Int))])), (ap, .inl (cI, 300, .inl (kA (uZ P9 c9 ((p0 : Nat) : Int))))), (al, .inl (cI, 300, .inl (kA (uZ L9 c9 ((mxR (lr (apL fg 0 (sl f2 0 n2)) (apL fb 0 (sl f1 0 n1)) n2 n1 p0) n1 : Nat) : Int))))), (aq, .inl (cI, 300, .inl (kA (uZ S9 c9 ((lsQ (lr (apL fg 0 (sl f2 0 n2)) (apL fb 0 (sl f1 0 n1)) n2 n1 p0) n1 : Nat) : Int))))), (ob, .inr (3, [.ref ab, .int (iI ((n1 : Nat) : Int))])), (ab, .inl (cI, 300, .inl (apL fb 0 (sl f1 0 n1)))), (og, .inr (3, [.ref ag, .int (iI ((n2 : Nat) : Int))])), (ag, .inl (cI, 300, .inl (apL fg 0 (sl f2 0 n2)))), (h1, .inr (3, [.ref a1, .int (iI ((n1 : Nat) : Int))])), (a1, .inl (cI, 300, .inl f1)), (h2, .inr (3, [.ref a2, .int (iI ((n2 : Nat) : Int))])), (a2, .inl (cI, 300, .inl f2))] H := hP
            have hD : va_D A [(hp, .inr (2, [.ref ob, .ref og, .ref ap, .ref al, .ref aq, .int (iI ((c9 + 1 : Nat) : Int))])), (ap, .inl (cI, 300, .inl (kA (uZ P9 c9 ((p0 : Nat) : Int))))), (al, .inl (cI, 300, .inl (kA (uZ L9 c9 ((mxR (lr (apL fg 0 (sl f2 0 n2)) (apL fb 0 (sl f1 0 n1)) n2 n1 p0) n1 : Nat) : Int))))), (aq, .inl (cI, 300, .inl (kA (uZ S9 c9 ((lsQ (lr (apL fg 0 (sl f2 0 n2)) (apL fb 0 (sl f1 0 n1)) n2 n1 p0) n1 : Nat) : Int))))), (ob, .inr (3, [.ref ab, .int (iI ((n1 : Nat) : Int))])), (ab, .inl (cI, 300, .inl (apL fb 0 (sl f1 0 n1)))), (og, .inr (3, [.ref ag, .int (iI ((n2 : Nat) : Int))])), (ag, .inl (cI, 300, .inl (apL fg 0 (sl f2 0 n2)))), (h1, .inr (3, [.ref a1, .int (iI ((n1 : Nat) : Int))])), (a1, .inl (cI, 300, .inl f1)), (h2, .inr (3, [.ref a2, .int (iI ((n2 : Nat) : Int))])), (a2, .inl (cI, 300, .inl f2))] := hD
            refine W.widen (k := 0) (n := 0) (Nat.le_of_ble_eq_true rfl) (Nat.le_of_ble_eq_true rfl) ?_
            refine lv_iload_n hx hb dX2_layOut_83 rfl (lv_at hl 3 rfl) ?_
            refine lv_iload hx hb dX2_layOut_84 (lv_at hl 0 rfl) ?_
            refine lv_iadd hx hb dX2_layOut_86 ?_
            refine kn_i (iA (c := (((p0 + mxR (lr (apL fg 0 (sl f2 0 n2)) (apL fb 0 (sl f1 0 n1)) n2 n1 p0) n1) : Nat) : Int)) (by omega)) ?_
            refine lv_istore_n (lv' := [(3, .int (iI (((p0 + mxR (lr (apL fg 0 (sl f2 0 n2)) (apL fb 0 (sl f1 0 n1)) n2 n1 p0) n1) : Nat) : Int))), (6, .int (iI ((mxR (lr (apL fg 0 (sl f2 0 n2)) (apL fb 0 (sl f1 0 n1)) n2 n1 p0) n1 : Nat) : Int))), (5, .int (iI ((lsQ (lr (apL fg 0 (sl f2 0 n2)) (apL fb 0 (sl f1 0 n1)) n2 n1 p0) n1 : Nat) : Int))), (0, .ref hp), (4, .int (iI ((t : Nat) : Int)))]) hx hb dX2_layOut_87 rfl hl (by decide) rfl (fun ls hl => ?_)
            refine lv_goto (tgt := 99) hx hb dX2_layOut_88 (by decide) ?_
            refine lv_iinc (v := iI ((t + 1 : Nat) : Int)) (lv' := [(4, .int (iI ((t + 1 : Nat) : Int))), (3, .int (iI (((p0 + mxR (lr (apL fg 0 (sl f2 0 n2)) (apL fb 0 (sl f1 0 n1)) n2 n1 p0) n1) : Nat) : Int))), (6, .int (iI ((mxR (lr (apL fg 0 (sl f2 0 n2)) (apL fb 0 (sl f1 0 n1)) n2 n1 p0) n1 : Nat) : Int))), (5, .int (iI ((lsQ (lr (apL fg 0 (sl f2 0 n2)) (apL fb 0 (sl f1 0 n1)) n2 n1 p0) n1 : Nat) : Int))), (0, .ref hp)]) hx hb dX2_layOut_99 hl (k := 4) rfl (iA (by omega)) (by decide) rfl (fun ls hl => ?_)
            refine lv_goto (tgt := 26) hx hb dX2_layOut_102 (by decide) ?_
            exact ih26 (t + 1) (p0 + mxR (lr (apL fg 0 (sl f2 0 n2)) (apL fb 0 (sl f1 0 n1)) n2 n1 p0) n1) (c9 + 1) (uZ P9 c9 ((p0 : Nat) : Int)) (uZ L9 c9 ((mxR (lr (apL fg 0 (sl f2 0 n2)) (apL fb 0 (sl f1 0 n1)) n2 n1 p0) n1 : Nat) : Int)) (uZ S9 c9 ((lsQ (lr (apL fg 0 (sl f2 0 n2)) (apL fb 0 (sl f1 0 n1)) n2 n1 p0) n1 : Nat) : Int)) _ _ _ (by omega) (by omega) (by omega) (by omega) (LW_push hW (by omega) (Or.inr (by omega))) (by rw [← layF_c (by omega) (by omega) (by omega)]; exact hF) hP hD hS (lv_sub hl [4, 1, 0] rfl)
  exact lp26 _ 0 0 0 P L S _ _ _ (Nat.lt_succ_self _) (by omega) (by omega) (by omega) (LW_0 P L S n1) (by rfl) hP hD hS (lv_sub hl [2, 1, 0] rfl)

abbrev rm_c_Plan_withoutSign : Room := { frames := 0, cells := 0, slots := 0, locals := 0 }
set_option maxHeartbeats 4000000 in
set_option maxRecDepth 100000 in
theorem c_Plan_withoutSign (l : Launch) (D : va_G) (cI cZ : ClassId) (z : Int) (hz : -400 ≤ z ∧ z ≤ 400) : MI l yX2_withoutSign wsX2_withoutSign rm_c_Plan_withoutSign D (kT cI cZ) [.int (iI (z : Int))] [] (fun (r : Int32) (_ : Unit) => r = iI ((zz z : Nat) : Int)) (fun (u : Unit) => match u with | _ => []) 0 0 := by
  intro sz
  refine k_of (cc := cX2_withoutSign) (maxL := 1) (ret := (some .int)) (by decide) rfl (Nat.le_of_ble_eq_true rfl) ?_
  intro p e s m args below meth c A Q hAe hQ hx hb hr hml hts hown hlocks hnm hP hK hD hS hA ls hl
  have hl : lv_has ls 1 [(0, .int (iI (z : Int)))] := hl
  refine lv_iload_n hx hb dX2_withoutSign_0 rfl (lv_at hl 0 rfl) ?_
  refine lv_if_ge (tgt := 13) hx hb dX2_withoutSign_1 (by decide) (fun c1 => ?_) (fun c1 => ?_)
  · skip
    have c1 := iI_leT (a := (0 : Int)) (b := (z : Int)) c1 (by omega)
    refine lv_iconst (v := iI (2 : Int)) hx hb dX2_withoutSign_13 rfl ?_
    refine lv_iload_n hx hb dX2_withoutSign_14 rfl (lv_at hl 0 rfl) ?_
    refine lv_imul hx hb dX2_withoutSign_15 ?_
    refine kn_i (iM (c := (((2 * z).toNat : Nat) : Int)) (by omega)) ?_
    exact k_iret () hx hb hr hlocks hK hP hD hS [] (by decide) rfl rfl (by unfold zz; first | rw [if_pos (by omega)] | rw [if_neg (by omega)]) hAe hQ dX2_withoutSign_16
  · skip
    have c1 := iI_leF (a := (0 : Int)) (b := (z : Int)) c1 (by omega)
    refine lv_bipush (v := iI (-2 : Int)) hx hb dX2_withoutSign_4 (by decide) ?_
    refine lv_iload_n hx hb dX2_withoutSign_6 rfl (lv_at hl 0 rfl) ?_
    refine lv_imul hx hb dX2_withoutSign_7 ?_
    refine kn_i (iM (c := (-2 * z : Int)) (by omega)) ?_
    refine lv_iconst (v := iI (1 : Int)) hx hb dX2_withoutSign_8 rfl ?_
    refine lv_isub hx hb dX2_withoutSign_9 ?_
    refine kn_i (iB (c := (((-2 * z - 1).toNat : Nat) : Int)) (by omega)) ?_
    refine lv_goto (tgt := 16) hx hb dX2_withoutSign_10 (by decide) ?_
    exact k_iret () hx hb hr hlocks hK hP hD hS [] (by decide) rfl rfl (by unfold zz; first | rw [if_pos (by omega)] | rw [if_neg (by omega)]) hAe hQ dX2_withoutSign_16
end
section
abbrev rm_c_Plan_writeTo : Room := { frames := 3, cells := 0, slots := 0, locals := 63 }
set_option maxHeartbeats 4000000 in
set_option maxRecDepth 100000 in
theorem c_Plan_writeTo (l : Launch) (D : va_G) (cI cZ : ClassId) (hp : Nat) (ob : Nat) (og : Nat) (ap : Nat) (al : Nat) (aq : Nat) (cnt : Nat) (P : Nat → Int) (L : Nat → Int) (S : Nat → Int) (ab : Nat) (nb : Nat) (fb : Nat → Int32) (ag : Nat) (ng : Nat) (fg : Nat → Int32) (h3 : Nat) (a3 : Nat) (n3 : Nat) (f3 : Nat → Int32) (hnb : nb ≤ 300) (hng : ng ≤ 300) (hW : LW P L S cnt nb ng) : MV l yX2_writeTo wsX2_writeTo rm_c_Plan_writeTo D (kT cI cZ) [.ref hp, .ref h3] [(hp, .inr (2, [.ref ob, .ref og, .ref ap, .ref al, .ref aq, .int (iI ((cnt : Nat) : Int))])), (ap, .inl (cI, 300, .inl (kA P))), (al, .inl (cI, 300, .inl (kA L))), (aq, .inl (cI, 300, .inl (kA S))), (ob, .inr (3, [.ref ab, .int (iI ((nb : Nat) : Int))])), (ab, .inl (cI, 300, .inl fb)), (og, .inr (3, [.ref ag, .int (iI ((ng : Nat) : Int))])), (ag, .inl (cI, 300, .inl fg)), (h3, .inr (3, [.ref a3, .int (iI ((n3 : Nat) : Int))])), (a3, .inl (cI, 900, .inl f3))] (fun (_ : Unit) => True) (fun (u : Unit) => match u with | _ => [(hp, .inr (2, [.ref ob, .ref og, .ref ap, .ref al, .ref aq, .int (iI ((cnt : Nat) : Int))])), (ap, .inl (cI, 300, .inl (kA P))), (al, .inl (cI, 300, .inl (kA L))), (aq, .inl (cI, 300, .inl (kA S))), (ob, .inr (3, [.ref ab, .int (iI ((nb : Nat) : Int))])), (ab, .inl (cI, 300, .inl fb)), (og, .inr (3, [.ref ag, .int (iI ((ng : Nat) : Int))])), (ag, .inl (cI, 300, .inl fg)), (h3, .inr (3, [.ref a3, .int (iI (((hdB fb fg nb ng ++ wrS fg P L S cnt 0 0).length : Nat) : Int))])), (a3, .inl (cI, 900, .inl (apL f3 0 (hdB fb fg nb ng ++ wrS fg P L S cnt 0 0))))]) 0 0 := by
  intro sz
  refine k_of (cc := cX2_writeTo) (maxL := 4) (ret := none) (by decide) rfl (Nat.le_of_ble_eq_true rfl) ?_
  intro p e s m args below meth c A Q hAe hQ hx hb hr hml hts hown hlocks hnm hP hK hD hS hA ls hl
  have hl : lv_has ls 4 [(0, .ref hp), (1, .ref h3)] := hl
  have hi_X2 : ∀ w ∈ u_ws RX2 TX2 6, w ∈ wsX2_writeTo := fun w h => km (ikX2 w h)
  have fl14 := hts _ (km wm78)
  have fl20 := hts _ (km wm79)
  have fl33 := hts _ (km wm83)
  have hc := hW.2.2.2.2
  have a1 := (vb_len 3 nb).1
  have a2 := (vb_len 3 ng).1
  have a3l := hdB_len fb fg nb ng
  refine lv_aload_n hx hb dX2_writeTo_0 rfl (lv_at hl 1 rfl) ?_
  refine k_callv (wc := [(h3, .inr (3, [.ref a3, .int (iI ((n3 : Nat) : Int))])), (a3, .inl (cI, 900, .inl f3))]) (wr := [(hp, .inr (2, [.ref ob, .ref og, .ref ap, .ref al, .ref aq, .int (iI ((cnt : Nat) : Int))])), (ap, .inl (cI, 300, .inl (kA P))), (al, .inl (cI, 300, .inl (kA L))), (aq, .inl (cI, 300, .inl (kA S))), (ob, .inr (3, [.ref ab, .int (iI ((nb : Nat) : Int))])), (ab, .inl (cI, 300, .inl fb)), (og, .inr (3, [.ref ag, .int (iI ((ng : Nat) : Int))])), (ag, .inl (cI, 300, .inl fg))]) (wf := fun _ => [(hp, .inr (2, [.ref ob, .ref og, .ref ap, .ref al, .ref aq, .int (iI ((cnt : Nat) : Int))])), (ap, .inl (cI, 300, .inl (kA P))), (al, .inl (cI, 300, .inl (kA L))), (aq, .inl (cI, 300, .inl (kA S))), (ob, .inr (3, [.ref ab, .int (iI ((nb : Nat) : Int))])), (ab, .inl (cI, 300, .inl fb)), (og, .inr (3, [.ref ag, .int (iI ((ng : Nat) : Int))])), (ag, .inl (cI, 300, .inl fg)), (h3, .inr (3, [.ref a3, .int (iI ((0 : Nat) : Int))])), (a3, .inl (cI, 900, .inl f3))]) hK hP hD hS hA [8, 9] [0, 1, 2, 3, 4, 5, 6, 7] [0, 1, 2, 3, 4, 5, 6, 7, 8, 9] ⟨⟨rfl, rfl, by decide⟩, rfl, by decide, by decide⟩ (fun _ => ⟨rfl, rfl⟩) (by decide) (fun hPc hDc => va_runV (As := []) (rest := []) ⟨hx, hb, hml, hown, hts⟩ (c_Row_clear l D cI cZ (h := h3) (a := a3) (M := 900) (n := n3) (f := f3)  _) (cwV 0 hts (kgV wm280 wm213 wm214 wm39 wmcX3_clear) rfl rfl rfl (by decide +kernel) ⟨Nat.le_of_ble_eq_true rfl, Nat.le_of_ble_eq_true rfl⟩) (k_preV hK hPc hDc (ci := 3) (q0 := 0) rfl rfl) rfl rfl hl.1 rfl (lv_room (Nat.le_of_ble_eq_true rfl)) dX2_writeTo_1 ⟨Nat.le_of_ble_eq_true rfl, Nat.le_of_ble_eq_true rfl⟩) (fun u H locs hw hP hD hS => ?_)
  have hP : va_P D vwCl [(hp, .inr (2, [.ref ob, .ref og, .ref ap, .ref al, .ref aq, .int (iI ((cnt : Nat) : Int))])), (ap, .inl (cI, 300, .inl (kA P))), (al, .inl (cI, 300, .inl (kA L))), (aq, .inl (cI, 300, .inl (kA S))), (ob, .inr (3, [.ref ab, .int (iI ((nb : Nat) : Int))])), (ab, .inl (cI, 300, .inl fb)), (og, .inr (3, [.ref ag, .int (iI ((ng : Nat) : Int))])), (ag, .inl (cI, 300, .inl fg)), (h3, .inr (3, [.ref a3, .int (iI ((0 : Nat) : Int))])), (a3, .inl (cI, 900, .inl f3))] H := hP
  have hD : va_D A [(hp, .inr (2, [.ref ob, .ref og, .ref ap, .ref al, .ref aq, .int (iI ((cnt : Nat) : Int))])), (ap, .inl (cI, 300, .inl (kA P))), (al, .inl (cI, 300, .inl (kA L))), (aq, .inl (cI, 300, .inl (kA S))), (ob, .inr (3, [.ref ab, .int (iI ((nb : Nat) : Int))])), (ab, .inl (cI, 300, .inl fb)), (og, .inr (3, [.ref ag, .int (iI ((ng : Nat) : Int))])), (ag, .inl (cI, 300, .inl fg)), (h3, .inr (3, [.ref a3, .int (iI ((0 : Nat) : Int))])), (a3, .inl (cI, 900, .inl f3))] := hD
  refine W.widen (k := 0) (n := 0) (Nat.le_of_ble_eq_true rfl) (Nat.le_of_ble_eq_true rfl) ?_
  refine lv_aload_n hx hb dX2_writeTo_4 rfl (lv_at hl 1 rfl) ?_
  refine lv_aload_n hx hb dX2_writeTo_5 rfl (lv_at hl 0 rfl) ?_
  refine va_get (D := D) (ci := 2) (v := .ref ob) (C := RX2) (T := TX2) (N := 6) hx hb hts hi_X2 hown hK hP 0 rfl rfl 0 (by decide) fl14 (fun _ h9 => h9) rfl dX2_writeTo_6 ?_
  refine k_calli (wc := [(ob, .inr (3, [.ref ab, .int (iI ((nb : Nat) : Int))])), (ab, .inl (cI, 300, .inl fb))]) (wr := [(hp, .inr (2, [.ref ob, .ref og, .ref ap, .ref al, .ref aq, .int (iI ((cnt : Nat) : Int))])), (ap, .inl (cI, 300, .inl (kA P))), (al, .inl (cI, 300, .inl (kA L))), (aq, .inl (cI, 300, .inl (kA S))), (og, .inr (3, [.ref ag, .int (iI ((ng : Nat) : Int))])), (ag, .inl (cI, 300, .inl fg)), (h3, .inr (3, [.ref a3, .int (iI ((0 : Nat) : Int))])), (a3, .inl (cI, 900, .inl f3))]) (wf := fun _ => [(hp, .inr (2, [.ref ob, .ref og, .ref ap, .ref al, .ref aq, .int (iI ((cnt : Nat) : Int))])), (ap, .inl (cI, 300, .inl (kA P))), (al, .inl (cI, 300, .inl (kA L))), (aq, .inl (cI, 300, .inl (kA S))), (ob, .inr (3, [.ref ab, .int (iI ((nb : Nat) : Int))])), (ab, .inl (cI, 300, .inl fb)), (og, .inr (3, [.ref ag, .int (iI ((ng : Nat) : Int))])), (ag, .inl (cI, 300, .inl fg)), (h3, .inr (3, [.ref a3, .int (iI ((0 : Nat) : Int))])), (a3, .inl (cI, 900, .inl f3))]) hK hP hD hS hA [4, 5] [0, 1, 2, 3, 6, 7, 8, 9] [0, 1, 2, 3, 8, 9, 4, 5, 6, 7] ⟨⟨rfl, rfl, by decide⟩, rfl, by decide, by decide⟩ (fun _ => ⟨rfl, rfl⟩) (by decide) (fun hPc hDc => va_runV (As := []) (rest := [.ref h3]) ⟨hx, hb, hml, hown, hts⟩ (c_Row_count l D cI cZ (h := ob) (a := ab) (M := 300) (n := nb) (f := fb)  _) (cwV 0 hts (kgV wm239 wm193 wm194 wm39 wmcX3_count) rfl rfl rfl (by decide +kernel) ⟨Nat.le_of_ble_eq_true rfl, Nat.le_of_ble_eq_true rfl⟩) (k_preV hK hPc hDc (ci := 3) (q0 := 0) rfl rfl) rfl rfl hl.1 rfl (lv_room (Nat.le_of_ble_eq_true rfl)) dX2_writeTo_9 ⟨Nat.le_of_ble_eq_true rfl, Nat.le_of_ble_eq_true rfl⟩) (fun r9 u H locs hw hP hD hS => ?_)
  have hP : va_P D vwCl [(hp, .inr (2, [.ref ob, .ref og, .ref ap, .ref al, .ref aq, .int (iI ((cnt : Nat) : Int))])), (ap, .inl (cI, 300, .inl (kA P))), (al, .inl (cI, 300, .inl (kA L))), (aq, .inl (cI, 300, .inl (kA S))), (ob, .inr (3, [.ref ab, .int (iI ((nb : Nat) : Int))])), (ab, .inl (cI, 300, .inl fb)), (og, .inr (3, [.ref ag, .int (iI ((ng : Nat) : Int))])), (ag, .inl (cI, 300, .inl fg)), (h3, .inr (3, [.ref a3, .int (iI ((0 : Nat) : Int))])), (a3, .inl (cI, 900, .inl f3))] H := hP
  have hD : va_D A [(hp, .inr (2, [.ref ob, .ref og, .ref ap, .ref al, .ref aq, .int (iI ((cnt : Nat) : Int))])), (ap, .inl (cI, 300, .inl (kA P))), (al, .inl (cI, 300, .inl (kA L))), (aq, .inl (cI, 300, .inl (kA S))), (ob, .inr (3, [.ref ab, .int (iI ((nb : Nat) : Int))])), (ab, .inl (cI, 300, .inl fb)), (og, .inr (3, [.ref ag, .int (iI ((ng : Nat) : Int))])), (ag, .inl (cI, 300, .inl fg)), (h3, .inr (3, [.ref a3, .int (iI ((0 : Nat) : Int))])), (a3, .inl (cI, 900, .inl f3))] := hD
  refine W.widen (k := 0) (n := 0) (Nat.le_of_ble_eq_true rfl) (Nat.le_of_ble_eq_true rfl) ?_
  have hw : r9 = iI ((nb : Nat) : Int) := hw
  subst hw
  refine k_callv (wc := [(h3, .inr (3, [.ref a3, .int (iI ((0 : Nat) : Int))])), (a3, .inl (cI, 900, .inl f3))]) (wr := [(hp, .inr (2, [.ref ob, .ref og, .ref ap, .ref al, .ref aq, .int (iI ((cnt : Nat) : Int))])), (ap, .inl (cI, 300, .inl (kA P))), (al, .inl (cI, 300, .inl (kA L))), (aq, .inl (cI, 300, .inl (kA S))), (ob, .inr (3, [.ref ab, .int (iI ((nb : Nat) : Int))])), (ab, .inl (cI, 300, .inl fb)), (og, .inr (3, [.ref ag, .int (iI ((ng : Nat) : Int))])), (ag, .inl (cI, 300, .inl fg))]) (wf := fun _ => [(hp, .inr (2, [.ref ob, .ref og, .ref ap, .ref al, .ref aq, .int (iI ((cnt : Nat) : Int))])), (ap, .inl (cI, 300, .inl (kA P))), (al, .inl (cI, 300, .inl (kA L))), (aq, .inl (cI, 300, .inl (kA S))), (ob, .inr (3, [.ref ab, .int (iI ((nb : Nat) : Int))])), (ab, .inl (cI, 300, .inl fb)), (og, .inr (3, [.ref ag, .int (iI ((ng : Nat) : Int))])), (ag, .inl (cI, 300, .inl fg)), (h3, .inr (3, [.ref a3, .int (iI ((0 + (vb 3 nb).length : Nat) : Int))])), (a3, .inl (cI, 900, .inl (apL f3 0 (vb 3 nb))))]) hK hP hD hS hA [8, 9] [0, 1, 2, 3, 4, 5, 6, 7] [0, 1, 2, 3, 4, 5, 6, 7, 8, 9] ⟨⟨rfl, rfl, by decide⟩, rfl, by decide, by decide⟩ (fun _ => ⟨rfl, rfl⟩) (by decide) (fun hPc hDc => va_runV (As := [.int (iI ((nb : Nat) : Int))]) (rest := []) ⟨hx, hb, hml, hown, hts⟩ (c_Row_addVarint l D cI cZ (h := h3) (a := a3) (M := 900) (n := 0) (f := f3) (v := nb) (hM := by omega) (hn := by omega) (hv := by omega) _) (cwV 1 hts (kgV wm281 wm282 wm283 wm39 wmcX3_addVarint) rfl rfl rfl (by decide +kernel) ⟨Nat.le_of_ble_eq_true rfl, Nat.le_of_ble_eq_true rfl⟩) (k_preV hK hPc hDc (ci := 3) (q0 := 0) rfl rfl) rfl rfl hl.1 rfl (lv_room (Nat.le_of_ble_eq_true rfl)) dX2_writeTo_12 ⟨Nat.le_of_ble_eq_true rfl, Nat.le_of_ble_eq_true rfl⟩) (fun u H locs hw hP hD hS => ?_)
  have hP : va_P D vwCl [(hp, .inr (2, [.ref ob, .ref og, .ref ap, .ref al, .ref aq, .int (iI ((cnt : Nat) : Int))])), (ap, .inl (cI, 300, .inl (kA P))), (al, .inl (cI, 300, .inl (kA L))), (aq, .inl (cI, 300, .inl (kA S))), (ob, .inr (3, [.ref ab, .int (iI ((nb : Nat) : Int))])), (ab, .inl (cI, 300, .inl fb)), (og, .inr (3, [.ref ag, .int (iI ((ng : Nat) : Int))])), (ag, .inl (cI, 300, .inl fg)), (h3, .inr (3, [.ref a3, .int (iI ((0 + (vb 3 nb).length : Nat) : Int))])), (a3, .inl (cI, 900, .inl (apL f3 0 (vb 3 nb))))] H := hP
  have hD : va_D A [(hp, .inr (2, [.ref ob, .ref og, .ref ap, .ref al, .ref aq, .int (iI ((cnt : Nat) : Int))])), (ap, .inl (cI, 300, .inl (kA P))), (al, .inl (cI, 300, .inl (kA L))), (aq, .inl (cI, 300, .inl (kA S))), (ob, .inr (3, [.ref ab, .int (iI ((nb : Nat) : Int))])), (ab, .inl (cI, 300, .inl fb)), (og, .inr (3, [.ref ag, .int (iI ((ng : Nat) : Int))])), (ag, .inl (cI, 300, .inl fg)), (h3, .inr (3, [.ref a3, .int (iI ((0 + (vb 3 nb).length : Nat) : Int))])), (a3, .inl (cI, 900, .inl (apL f3 0 (vb 3 nb))))] := hD
  refine W.widen (k := 0) (n := 0) (Nat.le_of_ble_eq_true rfl) (Nat.le_of_ble_eq_true rfl) ?_
  rw [show iI ((0 + (vb 3 nb).length : Nat) : Int) = iI (((vb 3 nb).length : Nat) : Int) from by rw [Nat.zero_add]] at hP hD
  refine lv_aload_n hx hb dX2_writeTo_15 rfl (lv_at hl 1 rfl) ?_
  refine lv_aload_n hx hb dX2_writeTo_16 rfl (lv_at hl 0 rfl) ?_
  refine va_get (D := D) (ci := 2) (v := .ref og) (C := RX2) (T := TX2) (N := 6) hx hb hts hi_X2 hown hK hP 0 rfl rfl 1 (by decide) fl20 (fun _ h9 => h9) rfl dX2_writeTo_17 ?_
  refine k_calli (wc := [(og, .inr (3, [.ref ag, .int (iI ((ng : Nat) : Int))])), (ag, .inl (cI, 300, .inl fg))]) (wr := [(hp, .inr (2, [.ref ob, .ref og, .ref ap, .ref al, .ref aq, .int (iI ((cnt : Nat) : Int))])), (ap, .inl (cI, 300, .inl (kA P))), (al, .inl (cI, 300, .inl (kA L))), (aq, .inl (cI, 300, .inl (kA S))), (ob, .inr (3, [.ref ab, .int (iI ((nb : Nat) : Int))])), (ab, .inl (cI, 300, .inl fb)), (h3, .inr (3, [.ref a3, .int (iI (((vb 3 nb).length : Nat) : Int))])), (a3, .inl (cI, 900, .inl (apL f3 0 (vb 3 nb))))]) (wf := fun _ => [(hp, .inr (2, [.ref ob, .ref og, .ref ap, .ref al, .ref aq, .int (iI ((cnt : Nat) : Int))])), (ap, .inl (cI, 300, .inl (kA P))), (al, .inl (cI, 300, .inl (kA L))), (aq, .inl (cI, 300, .inl (kA S))), (ob, .inr (3, [.ref ab, .int (iI ((nb : Nat) : Int))])), (ab, .inl (cI, 300, .inl fb)), (og, .inr (3, [.ref ag, .int (iI ((ng : Nat) : Int))])), (ag, .inl (cI, 300, .inl fg)), (h3, .inr (3, [.ref a3, .int (iI (((vb 3 nb).length : Nat) : Int))])), (a3, .inl (cI, 900, .inl (apL f3 0 (vb 3 nb))))]) hK hP hD hS hA [6, 7] [0, 1, 2, 3, 4, 5, 8, 9] [0, 1, 2, 3, 4, 5, 8, 9, 6, 7] ⟨⟨rfl, rfl, by decide⟩, rfl, by decide, by decide⟩ (fun _ => ⟨rfl, rfl⟩) (by decide) (fun hPc hDc => va_runV (As := []) (rest := [.ref h3]) ⟨hx, hb, hml, hown, hts⟩ (c_Row_count l D cI cZ (h := og) (a := ag) (M := 300) (n := ng) (f := fg)  _) (cwV 0 hts (kgV wm239 wm193 wm194 wm39 wmcX3_count) rfl rfl rfl (by decide +kernel) ⟨Nat.le_of_ble_eq_true rfl, Nat.le_of_ble_eq_true rfl⟩) (k_preV hK hPc hDc (ci := 3) (q0 := 0) rfl rfl) rfl rfl hl.1 rfl (lv_room (Nat.le_of_ble_eq_true rfl)) dX2_writeTo_20 ⟨Nat.le_of_ble_eq_true rfl, Nat.le_of_ble_eq_true rfl⟩) (fun r20 u H locs hw hP hD hS => ?_)
  have hP : va_P D vwCl [(hp, .inr (2, [.ref ob, .ref og, .ref ap, .ref al, .ref aq, .int (iI ((cnt : Nat) : Int))])), (ap, .inl (cI, 300, .inl (kA P))), (al, .inl (cI, 300, .inl (kA L))), (aq, .inl (cI, 300, .inl (kA S))), (ob, .inr (3, [.ref ab, .int (iI ((nb : Nat) : Int))])), (ab, .inl (cI, 300, .inl fb)), (og, .inr (3, [.ref ag, .int (iI ((ng : Nat) : Int))])), (ag, .inl (cI, 300, .inl fg)), (h3, .inr (3, [.ref a3, .int (iI (((vb 3 nb).length : Nat) : Int))])), (a3, .inl (cI, 900, .inl (apL f3 0 (vb 3 nb))))] H := hP
  have hD : va_D A [(hp, .inr (2, [.ref ob, .ref og, .ref ap, .ref al, .ref aq, .int (iI ((cnt : Nat) : Int))])), (ap, .inl (cI, 300, .inl (kA P))), (al, .inl (cI, 300, .inl (kA L))), (aq, .inl (cI, 300, .inl (kA S))), (ob, .inr (3, [.ref ab, .int (iI ((nb : Nat) : Int))])), (ab, .inl (cI, 300, .inl fb)), (og, .inr (3, [.ref ag, .int (iI ((ng : Nat) : Int))])), (ag, .inl (cI, 300, .inl fg)), (h3, .inr (3, [.ref a3, .int (iI (((vb 3 nb).length : Nat) : Int))])), (a3, .inl (cI, 900, .inl (apL f3 0 (vb 3 nb))))] := hD
  refine W.widen (k := 0) (n := 0) (Nat.le_of_ble_eq_true rfl) (Nat.le_of_ble_eq_true rfl) ?_
  have hw : r20 = iI ((ng : Nat) : Int) := hw
  subst hw
  refine k_callv (wc := [(h3, .inr (3, [.ref a3, .int (iI (((vb 3 nb).length : Nat) : Int))])), (a3, .inl (cI, 900, .inl (apL f3 0 (vb 3 nb))))]) (wr := [(hp, .inr (2, [.ref ob, .ref og, .ref ap, .ref al, .ref aq, .int (iI ((cnt : Nat) : Int))])), (ap, .inl (cI, 300, .inl (kA P))), (al, .inl (cI, 300, .inl (kA L))), (aq, .inl (cI, 300, .inl (kA S))), (ob, .inr (3, [.ref ab, .int (iI ((nb : Nat) : Int))])), (ab, .inl (cI, 300, .inl fb)), (og, .inr (3, [.ref ag, .int (iI ((ng : Nat) : Int))])), (ag, .inl (cI, 300, .inl fg))]) (wf := fun _ => [(hp, .inr (2, [.ref ob, .ref og, .ref ap, .ref al, .ref aq, .int (iI ((cnt : Nat) : Int))])), (ap, .inl (cI, 300, .inl (kA P))), (al, .inl (cI, 300, .inl (kA L))), (aq, .inl (cI, 300, .inl (kA S))), (ob, .inr (3, [.ref ab, .int (iI ((nb : Nat) : Int))])), (ab, .inl (cI, 300, .inl fb)), (og, .inr (3, [.ref ag, .int (iI ((ng : Nat) : Int))])), (ag, .inl (cI, 300, .inl fg)), (h3, .inr (3, [.ref a3, .int (iI ((((vb 3 nb).length) + (vb 3 ng).length : Nat) : Int))])), (a3, .inl (cI, 900, .inl (apL (apL f3 0 (vb 3 nb)) ((vb 3 nb).length) (vb 3 ng))))]) hK hP hD hS hA [8, 9] [0, 1, 2, 3, 4, 5, 6, 7] [0, 1, 2, 3, 4, 5, 6, 7, 8, 9] ⟨⟨rfl, rfl, by decide⟩, rfl, by decide, by decide⟩ (fun _ => ⟨rfl, rfl⟩) (by decide) (fun hPc hDc => va_runV (As := [.int (iI ((ng : Nat) : Int))]) (rest := []) ⟨hx, hb, hml, hown, hts⟩ (c_Row_addVarint l D cI cZ (h := h3) (a := a3) (M := 900) (n := (vb 3 nb).length) (f := (apL f3 0 (vb 3 nb))) (v := ng) (hM := by omega) (hn := by omega) (hv := by omega) _) (cwV 1 hts (kgV wm281 wm282 wm283 wm39 wmcX3_addVarint) rfl rfl rfl (by decide +kernel) ⟨Nat.le_of_ble_eq_true rfl, Nat.le_of_ble_eq_true rfl⟩) (k_preV hK hPc hDc (ci := 3) (q0 := 0) rfl rfl) rfl rfl hl.1 rfl (lv_room (Nat.le_of_ble_eq_true rfl)) dX2_writeTo_23 ⟨Nat.le_of_ble_eq_true rfl, Nat.le_of_ble_eq_true rfl⟩) (fun u H locs hw hP hD hS => ?_)
  have hP : va_P D vwCl [(hp, .inr (2, [.ref ob, .ref og, .ref ap, .ref al, .ref aq, .int (iI ((cnt : Nat) : Int))])), (ap, .inl (cI, 300, .inl (kA P))), (al, .inl (cI, 300, .inl (kA L))), (aq, .inl (cI, 300, .inl (kA S))), (ob, .inr (3, [.ref ab, .int (iI ((nb : Nat) : Int))])), (ab, .inl (cI, 300, .inl fb)), (og, .inr (3, [.ref ag, .int (iI ((ng : Nat) : Int))])), (ag, .inl (cI, 300, .inl fg)), (h3, .inr (3, [.ref a3, .int (iI ((((vb 3 nb).length) + (vb 3 ng).length : Nat) : Int))])), (a3, .inl (cI, 900, .inl (apL (apL f3 0 (vb 3 nb)) ((vb 3 nb).length) (vb 3 ng))))] H := hP
  have hD : va_D A [(hp, .inr (2, [.ref ob, .ref og, .ref ap, .ref al, .ref aq, .int (iI ((cnt : Nat) : Int))])), (ap, .inl (cI, 300, .inl (kA P))), (al, .inl (cI, 300, .inl (kA L))), (aq, .inl (cI, 300, .inl (kA S))), (ob, .inr (3, [.ref ab, .int (iI ((nb : Nat) : Int))])), (ab, .inl (cI, 300, .inl fb)), (og, .inr (3, [.ref ag, .int (iI ((ng : Nat) : Int))])), (ag, .inl (cI, 300, .inl fg)), (h3, .inr (3, [.ref a3, .int (iI ((((vb 3 nb).length) + (vb 3 ng).length : Nat) : Int))])), (a3, .inl (cI, 900, .inl (apL (apL f3 0 (vb 3 nb)) ((vb 3 nb).length) (vb 3 ng))))] := hD
  refine W.widen (k := 0) (n := 0) (Nat.le_of_ble_eq_true rfl) (Nat.le_of_ble_eq_true rfl) ?_
  rw [show (apL (apL f3 0 (vb 3 nb)) ((vb 3 nb).length) (vb 3 ng)) = (apL f3 0 (vb 3 nb ++ vb 3 ng)) from apL0] at hP hD
  rw [show iI ((((vb 3 nb).length) + (vb 3 ng).length : Nat) : Int) = iI (((vb 3 nb ++ vb 3 ng).length : Nat) : Int) from len_v] at hP hD
  refine lv_aload_n hx hb dX2_writeTo_26 rfl (lv_at hl 1 rfl) ?_
  refine lv_aload_n hx hb dX2_writeTo_27 rfl (lv_at hl 0 rfl) ?_
  refine va_get (D := D) (ci := 2) (v := .ref ob) (C := RX2) (T := TX2) (N := 6) hx hb hts hi_X2 hown hK hP 0 rfl rfl 0 (by decide) fl14 (fun _ h9 => h9) rfl dX2_writeTo_28 ?_
  refine k_calli (wc := [(ob, .inr (3, [.ref ab, .int (iI ((nb : Nat) : Int))])), (ab, .inl (cI, 300, .inl fb))]) (wr := [(hp, .inr (2, [.ref ob, .ref og, .ref ap, .ref al, .ref aq, .int (iI ((cnt : Nat) : Int))])), (ap, .inl (cI, 300, .inl (kA P))), (al, .inl (cI, 300, .inl (kA L))), (aq, .inl (cI, 300, .inl (kA S))), (og, .inr (3, [.ref ag, .int (iI ((ng : Nat) : Int))])), (ag, .inl (cI, 300, .inl fg)), (h3, .inr (3, [.ref a3, .int (iI (((vb 3 nb ++ vb 3 ng).length : Nat) : Int))])), (a3, .inl (cI, 900, .inl (apL f3 0 (vb 3 nb ++ vb 3 ng))))]) (wf := fun _ => [(hp, .inr (2, [.ref ob, .ref og, .ref ap, .ref al, .ref aq, .int (iI ((cnt : Nat) : Int))])), (ap, .inl (cI, 300, .inl (kA P))), (al, .inl (cI, 300, .inl (kA L))), (aq, .inl (cI, 300, .inl (kA S))), (ob, .inr (3, [.ref ab, .int (iI ((nb : Nat) : Int))])), (ab, .inl (cI, 300, .inl fb)), (og, .inr (3, [.ref ag, .int (iI ((ng : Nat) : Int))])), (ag, .inl (cI, 300, .inl fg)), (h3, .inr (3, [.ref a3, .int (iI (((vb 3 nb ++ vb 3 ng).length : Nat) : Int))])), (a3, .inl (cI, 900, .inl (apL f3 0 (vb 3 nb ++ vb 3 ng))))]) hK hP hD hS hA [4, 5] [0, 1, 2, 3, 6, 7, 8, 9] [0, 1, 2, 3, 8, 9, 4, 5, 6, 7] ⟨⟨rfl, rfl, by decide⟩, rfl, by decide, by decide⟩ (fun _ => ⟨rfl, rfl⟩) (by decide) (fun hPc hDc => va_runV (As := []) (rest := [.ref h3]) ⟨hx, hb, hml, hown, hts⟩ (c_Row_digest l D cI cZ (h := ob) (a := ab) (M := 300) (n := nb) (f := fb) (hM := by omega) (hn := by omega) _) (cwV 0 hts (kgV wm285 wm286 wm287 wm39 wmcX3_digest) rfl rfl rfl (by decide +kernel) ⟨Nat.le_of_ble_eq_true rfl, Nat.le_of_ble_eq_true rfl⟩) (k_preV hK hPc hDc (ci := 3) (q0 := 0) rfl rfl) rfl rfl hl.1 rfl (lv_room (Nat.le_of_ble_eq_true rfl)) dX2_writeTo_31 ⟨Nat.le_of_ble_eq_true rfl, Nat.le_of_ble_eq_true rfl⟩) (fun r31 u H locs hw hP hD hS => ?_)
  have hP : va_P D vwCl [(hp, .inr (2, [.ref ob, .ref og, .ref ap, .ref al, .ref aq, .int (iI ((cnt : Nat) : Int))])), (ap, .inl (cI, 300, .inl (kA P))), (al, .inl (cI, 300, .inl (kA L))), (aq, .inl (cI, 300, .inl (kA S))), (ob, .inr (3, [.ref ab, .int (iI ((nb : Nat) : Int))])), (ab, .inl (cI, 300, .inl fb)), (og, .inr (3, [.ref ag, .int (iI ((ng : Nat) : Int))])), (ag, .inl (cI, 300, .inl fg)), (h3, .inr (3, [.ref a3, .int (iI (((vb 3 nb ++ vb 3 ng).length : Nat) : Int))])), (a3, .inl (cI, 900, .inl (apL f3 0 (vb 3 nb ++ vb 3 ng))))] H := hP
  have hD : va_D A [(hp, .inr (2, [.ref ob, .ref og, .ref ap, .ref al, .ref aq, .int (iI ((cnt : Nat) : Int))])), (ap, .inl (cI, 300, .inl (kA P))), (al, .inl (cI, 300, .inl (kA L))), (aq, .inl (cI, 300, .inl (kA S))), (ob, .inr (3, [.ref ab, .int (iI ((nb : Nat) : Int))])), (ab, .inl (cI, 300, .inl fb)), (og, .inr (3, [.ref ag, .int (iI ((ng : Nat) : Int))])), (ag, .inl (cI, 300, .inl fg)), (h3, .inr (3, [.ref a3, .int (iI (((vb 3 nb ++ vb 3 ng).length : Nat) : Int))])), (a3, .inl (cI, 900, .inl (apL f3 0 (vb 3 nb ++ vb 3 ng))))] := hD
  refine W.widen (k := 0) (n := 0) (Nat.le_of_ble_eq_true rfl) (Nat.le_of_ble_eq_true rfl) ?_
  have hw : r31 = (dg fb nb) := hw
  subst hw
  refine k_callv (wc := [(h3, .inr (3, [.ref a3, .int (iI (((vb 3 nb ++ vb 3 ng).length : Nat) : Int))])), (a3, .inl (cI, 900, .inl (apL f3 0 (vb 3 nb ++ vb 3 ng))))]) (wr := [(hp, .inr (2, [.ref ob, .ref og, .ref ap, .ref al, .ref aq, .int (iI ((cnt : Nat) : Int))])), (ap, .inl (cI, 300, .inl (kA P))), (al, .inl (cI, 300, .inl (kA L))), (aq, .inl (cI, 300, .inl (kA S))), (ob, .inr (3, [.ref ab, .int (iI ((nb : Nat) : Int))])), (ab, .inl (cI, 300, .inl fb)), (og, .inr (3, [.ref ag, .int (iI ((ng : Nat) : Int))])), (ag, .inl (cI, 300, .inl fg))]) (wf := fun _ => [(hp, .inr (2, [.ref ob, .ref og, .ref ap, .ref al, .ref aq, .int (iI ((cnt : Nat) : Int))])), (ap, .inl (cI, 300, .inl (kA P))), (al, .inl (cI, 300, .inl (kA L))), (aq, .inl (cI, 300, .inl (kA S))), (ob, .inr (3, [.ref ab, .int (iI ((nb : Nat) : Int))])), (ab, .inl (cI, 300, .inl fb)), (og, .inr (3, [.ref ag, .int (iI ((ng : Nat) : Int))])), (ag, .inl (cI, 300, .inl fg)), (h3, .inr (3, [.ref a3, .int (iI ((((vb 3 nb ++ vb 3 ng).length) + 4 : Nat) : Int))])), (a3, .inl (cI, 900, .inl (apL (apL f3 0 (vb 3 nb ++ vb 3 ng)) ((vb 3 nb ++ vb 3 ng).length) (wL (dg fb nb)))))]) hK hP hD hS hA [8, 9] [0, 1, 2, 3, 4, 5, 6, 7] [0, 1, 2, 3, 4, 5, 6, 7, 8, 9] ⟨⟨rfl, rfl, by decide⟩, rfl, by decide, by decide⟩ (fun _ => ⟨rfl, rfl⟩) (by decide) (fun hPc hDc => va_runV (As := [.int (dg fb nb)]) (rest := []) ⟨hx, hb, hml, hown, hts⟩ (c_Row_addWord l D cI cZ (h := h3) (a := a3) (M := 900) (n := (vb 3 nb ++ vb 3 ng).length) (f := (apL f3 0 (vb 3 nb ++ vb 3 ng))) (w := (dg fb nb)) (hM := by omega) (hn := by simp only [List.length_append]; omega) _) (cwV 1 hts (kgV wm290 wm291 wm292 wm39 wmcX3_addWord) rfl rfl rfl (by decide +kernel) ⟨Nat.le_of_ble_eq_true rfl, Nat.le_of_ble_eq_true rfl⟩) (k_preV hK hPc hDc (ci := 3) (q0 := 0) rfl rfl) rfl rfl hl.1 rfl (lv_room (Nat.le_of_ble_eq_true rfl)) dX2_writeTo_34 ⟨Nat.le_of_ble_eq_true rfl, Nat.le_of_ble_eq_true rfl⟩) (fun u H locs hw hP hD hS => ?_)
  have hP : va_P D vwCl [(hp, .inr (2, [.ref ob, .ref og, .ref ap, .ref al, .ref aq, .int (iI ((cnt : Nat) : Int))])), (ap, .inl (cI, 300, .inl (kA P))), (al, .inl (cI, 300, .inl (kA L))), (aq, .inl (cI, 300, .inl (kA S))), (ob, .inr (3, [.ref ab, .int (iI ((nb : Nat) : Int))])), (ab, .inl (cI, 300, .inl fb)), (og, .inr (3, [.ref ag, .int (iI ((ng : Nat) : Int))])), (ag, .inl (cI, 300, .inl fg)), (h3, .inr (3, [.ref a3, .int (iI ((((vb 3 nb ++ vb 3 ng).length) + 4 : Nat) : Int))])), (a3, .inl (cI, 900, .inl (apL (apL f3 0 (vb 3 nb ++ vb 3 ng)) ((vb 3 nb ++ vb 3 ng).length) (wL (dg fb nb)))))] H := hP
  have hD : va_D A [(hp, .inr (2, [.ref ob, .ref og, .ref ap, .ref al, .ref aq, .int (iI ((cnt : Nat) : Int))])), (ap, .inl (cI, 300, .inl (kA P))), (al, .inl (cI, 300, .inl (kA L))), (aq, .inl (cI, 300, .inl (kA S))), (ob, .inr (3, [.ref ab, .int (iI ((nb : Nat) : Int))])), (ab, .inl (cI, 300, .inl fb)), (og, .inr (3, [.ref ag, .int (iI ((ng : Nat) : Int))])), (ag, .inl (cI, 300, .inl fg)), (h3, .inr (3, [.ref a3, .int (iI ((((vb 3 nb ++ vb 3 ng).length) + 4 : Nat) : Int))])), (a3, .inl (cI, 900, .inl (apL (apL f3 0 (vb 3 nb ++ vb 3 ng)) ((vb 3 nb ++ vb 3 ng).length) (wL (dg fb nb)))))] := hD
  refine W.widen (k := 0) (n := 0) (Nat.le_of_ble_eq_true rfl) (Nat.le_of_ble_eq_true rfl) ?_
  rw [show (apL (apL f3 0 (vb 3 nb ++ vb 3 ng)) ((vb 3 nb ++ vb 3 ng).length) (wL (dg fb nb))) = (apL f3 0 (vb 3 nb ++ vb 3 ng ++ wL (dg fb nb))) from apL0] at hP hD
  rw [show iI ((((vb 3 nb ++ vb 3 ng).length) + 4 : Nat) : Int) = iI (((vb 3 nb ++ vb 3 ng ++ wL (dg fb nb)).length : Nat) : Int) from len_w] at hP hD
  refine lv_aload_n hx hb dX2_writeTo_37 rfl (lv_at hl 1 rfl) ?_
  refine lv_aload_n hx hb dX2_writeTo_38 rfl (lv_at hl 0 rfl) ?_
  refine va_get (D := D) (ci := 2) (v := .ref og) (C := RX2) (T := TX2) (N := 6) hx hb hts hi_X2 hown hK hP 0 rfl rfl 1 (by decide) fl20 (fun _ h9 => h9) rfl dX2_writeTo_39 ?_
  refine k_calli (wc := [(og, .inr (3, [.ref ag, .int (iI ((ng : Nat) : Int))])), (ag, .inl (cI, 300, .inl fg))]) (wr := [(hp, .inr (2, [.ref ob, .ref og, .ref ap, .ref al, .ref aq, .int (iI ((cnt : Nat) : Int))])), (ap, .inl (cI, 300, .inl (kA P))), (al, .inl (cI, 300, .inl (kA L))), (aq, .inl (cI, 300, .inl (kA S))), (ob, .inr (3, [.ref ab, .int (iI ((nb : Nat) : Int))])), (ab, .inl (cI, 300, .inl fb)), (h3, .inr (3, [.ref a3, .int (iI (((vb 3 nb ++ vb 3 ng ++ wL (dg fb nb)).length : Nat) : Int))])), (a3, .inl (cI, 900, .inl (apL f3 0 (vb 3 nb ++ vb 3 ng ++ wL (dg fb nb)))))]) (wf := fun _ => [(hp, .inr (2, [.ref ob, .ref og, .ref ap, .ref al, .ref aq, .int (iI ((cnt : Nat) : Int))])), (ap, .inl (cI, 300, .inl (kA P))), (al, .inl (cI, 300, .inl (kA L))), (aq, .inl (cI, 300, .inl (kA S))), (ob, .inr (3, [.ref ab, .int (iI ((nb : Nat) : Int))])), (ab, .inl (cI, 300, .inl fb)), (og, .inr (3, [.ref ag, .int (iI ((ng : Nat) : Int))])), (ag, .inl (cI, 300, .inl fg)), (h3, .inr (3, [.ref a3, .int (iI (((vb 3 nb ++ vb 3 ng ++ wL (dg fb nb)).length : Nat) : Int))])), (a3, .inl (cI, 900, .inl (apL f3 0 (vb 3 nb ++ vb 3 ng ++ wL (dg fb nb)))))]) hK hP hD hS hA [6, 7] [0, 1, 2, 3, 4, 5, 8, 9] [0, 1, 2, 3, 4, 5, 8, 9, 6, 7] ⟨⟨rfl, rfl, by decide⟩, rfl, by decide, by decide⟩ (fun _ => ⟨rfl, rfl⟩) (by decide) (fun hPc hDc => va_runV (As := []) (rest := [.ref h3]) ⟨hx, hb, hml, hown, hts⟩ (c_Row_digest l D cI cZ (h := og) (a := ag) (M := 300) (n := ng) (f := fg) (hM := by omega) (hn := by omega) _) (cwV 0 hts (kgV wm285 wm286 wm287 wm39 wmcX3_digest) rfl rfl rfl (by decide +kernel) ⟨Nat.le_of_ble_eq_true rfl, Nat.le_of_ble_eq_true rfl⟩) (k_preV hK hPc hDc (ci := 3) (q0 := 0) rfl rfl) rfl rfl hl.1 rfl (lv_room (Nat.le_of_ble_eq_true rfl)) dX2_writeTo_42 ⟨Nat.le_of_ble_eq_true rfl, Nat.le_of_ble_eq_true rfl⟩) (fun r42 u H locs hw hP hD hS => ?_)
  have hP : va_P D vwCl [(hp, .inr (2, [.ref ob, .ref og, .ref ap, .ref al, .ref aq, .int (iI ((cnt : Nat) : Int))])), (ap, .inl (cI, 300, .inl (kA P))), (al, .inl (cI, 300, .inl (kA L))), (aq, .inl (cI, 300, .inl (kA S))), (ob, .inr (3, [.ref ab, .int (iI ((nb : Nat) : Int))])), (ab, .inl (cI, 300, .inl fb)), (og, .inr (3, [.ref ag, .int (iI ((ng : Nat) : Int))])), (ag, .inl (cI, 300, .inl fg)), (h3, .inr (3, [.ref a3, .int (iI (((vb 3 nb ++ vb 3 ng ++ wL (dg fb nb)).length : Nat) : Int))])), (a3, .inl (cI, 900, .inl (apL f3 0 (vb 3 nb ++ vb 3 ng ++ wL (dg fb nb)))))] H := hP
  have hD : va_D A [(hp, .inr (2, [.ref ob, .ref og, .ref ap, .ref al, .ref aq, .int (iI ((cnt : Nat) : Int))])), (ap, .inl (cI, 300, .inl (kA P))), (al, .inl (cI, 300, .inl (kA L))), (aq, .inl (cI, 300, .inl (kA S))), (ob, .inr (3, [.ref ab, .int (iI ((nb : Nat) : Int))])), (ab, .inl (cI, 300, .inl fb)), (og, .inr (3, [.ref ag, .int (iI ((ng : Nat) : Int))])), (ag, .inl (cI, 300, .inl fg)), (h3, .inr (3, [.ref a3, .int (iI (((vb 3 nb ++ vb 3 ng ++ wL (dg fb nb)).length : Nat) : Int))])), (a3, .inl (cI, 900, .inl (apL f3 0 (vb 3 nb ++ vb 3 ng ++ wL (dg fb nb)))))] := hD
  refine W.widen (k := 0) (n := 0) (Nat.le_of_ble_eq_true rfl) (Nat.le_of_ble_eq_true rfl) ?_
  have hw : r42 = (dg fg ng) := hw
  subst hw
  refine k_callv (wc := [(h3, .inr (3, [.ref a3, .int (iI (((vb 3 nb ++ vb 3 ng ++ wL (dg fb nb)).length : Nat) : Int))])), (a3, .inl (cI, 900, .inl (apL f3 0 (vb 3 nb ++ vb 3 ng ++ wL (dg fb nb)))))]) (wr := [(hp, .inr (2, [.ref ob, .ref og, .ref ap, .ref al, .ref aq, .int (iI ((cnt : Nat) : Int))])), (ap, .inl (cI, 300, .inl (kA P))), (al, .inl (cI, 300, .inl (kA L))), (aq, .inl (cI, 300, .inl (kA S))), (ob, .inr (3, [.ref ab, .int (iI ((nb : Nat) : Int))])), (ab, .inl (cI, 300, .inl fb)), (og, .inr (3, [.ref ag, .int (iI ((ng : Nat) : Int))])), (ag, .inl (cI, 300, .inl fg))]) (wf := fun _ => [(hp, .inr (2, [.ref ob, .ref og, .ref ap, .ref al, .ref aq, .int (iI ((cnt : Nat) : Int))])), (ap, .inl (cI, 300, .inl (kA P))), (al, .inl (cI, 300, .inl (kA L))), (aq, .inl (cI, 300, .inl (kA S))), (ob, .inr (3, [.ref ab, .int (iI ((nb : Nat) : Int))])), (ab, .inl (cI, 300, .inl fb)), (og, .inr (3, [.ref ag, .int (iI ((ng : Nat) : Int))])), (ag, .inl (cI, 300, .inl fg)), (h3, .inr (3, [.ref a3, .int (iI ((((vb 3 nb ++ vb 3 ng ++ wL (dg fb nb)).length) + 4 : Nat) : Int))])), (a3, .inl (cI, 900, .inl (apL (apL f3 0 (vb 3 nb ++ vb 3 ng ++ wL (dg fb nb))) ((vb 3 nb ++ vb 3 ng ++ wL (dg fb nb)).length) (wL (dg fg ng)))))]) hK hP hD hS hA [8, 9] [0, 1, 2, 3, 4, 5, 6, 7] [0, 1, 2, 3, 4, 5, 6, 7, 8, 9] ⟨⟨rfl, rfl, by decide⟩, rfl, by decide, by decide⟩ (fun _ => ⟨rfl, rfl⟩) (by decide) (fun hPc hDc => va_runV (As := [.int (dg fg ng)]) (rest := []) ⟨hx, hb, hml, hown, hts⟩ (c_Row_addWord l D cI cZ (h := h3) (a := a3) (M := 900) (n := (vb 3 nb ++ vb 3 ng ++ wL (dg fb nb)).length) (f := (apL f3 0 (vb 3 nb ++ vb 3 ng ++ wL (dg fb nb)))) (w := (dg fg ng)) (hM := by omega) (hn := by simp only [List.length_append, wL, List.length_cons, List.length_nil]; omega) _) (cwV 1 hts (kgV wm290 wm291 wm292 wm39 wmcX3_addWord) rfl rfl rfl (by decide +kernel) ⟨Nat.le_of_ble_eq_true rfl, Nat.le_of_ble_eq_true rfl⟩) (k_preV hK hPc hDc (ci := 3) (q0 := 0) rfl rfl) rfl rfl hl.1 rfl (lv_room (Nat.le_of_ble_eq_true rfl)) dX2_writeTo_45 ⟨Nat.le_of_ble_eq_true rfl, Nat.le_of_ble_eq_true rfl⟩) (fun u H locs hw hP hD hS => ?_)
  have hP : va_P D vwCl [(hp, .inr (2, [.ref ob, .ref og, .ref ap, .ref al, .ref aq, .int (iI ((cnt : Nat) : Int))])), (ap, .inl (cI, 300, .inl (kA P))), (al, .inl (cI, 300, .inl (kA L))), (aq, .inl (cI, 300, .inl (kA S))), (ob, .inr (3, [.ref ab, .int (iI ((nb : Nat) : Int))])), (ab, .inl (cI, 300, .inl fb)), (og, .inr (3, [.ref ag, .int (iI ((ng : Nat) : Int))])), (ag, .inl (cI, 300, .inl fg)), (h3, .inr (3, [.ref a3, .int (iI ((((vb 3 nb ++ vb 3 ng ++ wL (dg fb nb)).length) + 4 : Nat) : Int))])), (a3, .inl (cI, 900, .inl (apL (apL f3 0 (vb 3 nb ++ vb 3 ng ++ wL (dg fb nb))) ((vb 3 nb ++ vb 3 ng ++ wL (dg fb nb)).length) (wL (dg fg ng)))))] H := hP
  have hD : va_D A [(hp, .inr (2, [.ref ob, .ref og, .ref ap, .ref al, .ref aq, .int (iI ((cnt : Nat) : Int))])), (ap, .inl (cI, 300, .inl (kA P))), (al, .inl (cI, 300, .inl (kA L))), (aq, .inl (cI, 300, .inl (kA S))), (ob, .inr (3, [.ref ab, .int (iI ((nb : Nat) : Int))])), (ab, .inl (cI, 300, .inl fb)), (og, .inr (3, [.ref ag, .int (iI ((ng : Nat) : Int))])), (ag, .inl (cI, 300, .inl fg)), (h3, .inr (3, [.ref a3, .int (iI ((((vb 3 nb ++ vb 3 ng ++ wL (dg fb nb)).length) + 4 : Nat) : Int))])), (a3, .inl (cI, 900, .inl (apL (apL f3 0 (vb 3 nb ++ vb 3 ng ++ wL (dg fb nb))) ((vb 3 nb ++ vb 3 ng ++ wL (dg fb nb)).length) (wL (dg fg ng)))))] := hD
  refine W.widen (k := 0) (n := 0) (Nat.le_of_ble_eq_true rfl) (Nat.le_of_ble_eq_true rfl) ?_
  rw [show (apL (apL f3 0 (vb 3 nb ++ vb 3 ng ++ wL (dg fb nb))) ((vb 3 nb ++ vb 3 ng ++ wL (dg fb nb)).length) (wL (dg fg ng))) = (apL f3 0 (vb 3 nb ++ vb 3 ng ++ wL (dg fb nb) ++ wL (dg fg ng))) from apL0] at hP hD
  rw [show iI ((((vb 3 nb ++ vb 3 ng ++ wL (dg fb nb)).length) + 4 : Nat) : Int) = iI (((vb 3 nb ++ vb 3 ng ++ wL (dg fb nb) ++ wL (dg fg ng)).length : Nat) : Int) from len_w] at hP hD
  refine lv_iconst (v := iI (0 : Int)) hx hb dX2_writeTo_48 rfl ?_
  refine lv_istore_n (lv' := [(2, .int (iI (0 : Int))), (0, .ref hp), (1, .ref h3)]) hx hb dX2_writeTo_49 rfl hl (by decide) rfl (fun ls hl => ?_)
  refine lv_iconst (v := iI ((0 : Nat) : Int)) hx hb dX2_writeTo_50 rfl ?_
  refine lv_istore_n (lv' := [(3, .int (iI ((0 : Nat) : Int))), (2, .int (iI (0 : Int))), (0, .ref hp), (1, .ref h3)]) hx hb dX2_writeTo_51 rfl hl (by decide) rfl (fun ls hl => ?_)
  have lp52 : ∀ (fu : Nat) (i : Nat) (bh : Int) (T : List Int32) (H : Heap) (locs : List Loc) (ls : Array Slot), cnt - i < fu → (i ≤ cnt) → (0 ≤ bh ∧ bh ≤ 300) → (T ++ wrS fg P L S (cnt - i) i bh = hdB fb fg nb ng ++ wrS fg P L S cnt 0 0) → ((T.length : Int) ≤ 16 + 2 * eP P L i) → va_P D vwCl [(hp, .inr (2, [.ref ob, .ref og, .ref ap, .ref al, .ref aq, .int (iI ((cnt : Nat) : Int))])), (ap, .inl (cI, 300, .inl (kA P))), (al, .inl (cI, 300, .inl (kA L))), (aq, .inl (cI, 300, .inl (kA S))), (ob, .inr (3, [.ref ab, .int (iI ((nb : Nat) : Int))])), (ab, .inl (cI, 300, .inl fb)), (og, .inr (3, [.ref ag, .int (iI ((ng : Nat) : Int))])), (ag, .inl (cI, 300, .inl fg)), (h3, .inr (3, [.ref a3, .int (iI (((T).length : Nat) : Int))])), (a3, .inl (cI, 900, .inl (apL f3 0 (T))))] H → va_D A [(hp, .inr (2, [.ref ob, .ref og, .ref ap, .ref al, .ref aq, .int (iI ((cnt : Nat) : Int))])), (ap, .inl (cI, 300, .inl (kA P))), (al, .inl (cI, 300, .inl (kA L))), (aq, .inl (cI, 300, .inl (kA S))), (ob, .inr (3, [.ref ab, .int (iI ((nb : Nat) : Int))])), (ab, .inl (cI, 300, .inl fb)), (og, .inr (3, [.ref ag, .int (iI ((ng : Nat) : Int))])), (ag, .inl (cI, 300, .inl fg)), (h3, .inr (3, [.ref a3, .int (iI (((T).length : Nat) : Int))])), (a3, .inl (cI, 900, .inl (apL f3 0 (T))))] → va_S A s.heap H locs → lv_has ls 4 [(0, .ref hp), (1, .ref h3), (2, .int (iI (bh : Int))), (3, .int (iI ((i : Nat) : Int)))] → W p l e rm_c_Plan_writeTo s m args below meth c H locs 0 0 Q (F0 m 52 ls []) := by
    intro fu
    induction fu with
    | zero => intro i bh T H locs ls hfu; exact absurd hfu (Nat.not_lt_zero _)
    | succ fu ih52 =>
      intro i bh T H locs ls hfu hi hbh hT hTl hP hD hS hl
      refine lv_iload_n hx hb dX2_writeTo_52 rfl (lv_at hl 3 rfl) ?_
      refine lv_aload_n hx hb dX2_writeTo_53 rfl (lv_at hl 0 rfl) ?_
      refine va_get (D := D) (ci := 2) (v := .int (iI ((cnt : Nat) : Int))) (C := RX2) (T := TX2) (N := 6) hx hb hts hi_X2 hown hK hP 0 rfl rfl 5 (by decide) fl33 (fun _ h9 => h9) rfl dX2_writeTo_54 ?_
      refine lv_icmp_ge (tgt := 145) hx hb dX2_writeTo_57 (by decide) (fun c57 => ?_) (fun c57 => ?_)
      · skip
        have c57 := iI_leT (a := ((cnt : Nat) : Int)) (b := ((i : Nat) : Int)) c57 (by omega)
        obtain rfl : T = hdB fb fg nb ng ++ wrS fg P L S cnt 0 0 := by rw [← hT, show cnt - i = 0 by omega]; simp [wrS]
        exact k_vret () hx hb hr hlocks hK hP hD hS [0, 1, 2, 3, 4, 5, 6, 7, 8, 9] (by decide) rfl rfl (trivial) hAe hQ dX2_writeTo_145
      · skip
        have c57 := iI_leF (a := ((cnt : Nat) : Int)) (b := ((i : Nat) : Int)) c57 (by omega)
        have h1 := hW.1 i (by omega)
        have h2 := LW_eP hW (show i < cnt by omega)
        have hsl := stB_len (fg := fg) hW (show i < cnt by omega) bh
        have b1 := (vb_len 3 (2 * L i + 1).toNat).1
        have b2 := (vb_len 3 (2 * L i).toNat).1
        refine lv_aload_n hx hb dX2_writeTo_60 rfl (lv_at hl 0 rfl) ?_
        refine lv_iload_n hx hb dX2_writeTo_61 rfl (lv_at hl 3 rfl) ?_
        refine k_calli (wc := [(hp, .inr (2, [.ref ob, .ref og, .ref ap, .ref al, .ref aq, .int (iI ((cnt : Nat) : Int))])), (aq, .inl (cI, 300, .inl (kA S)))]) (wr := [(ap, .inl (cI, 300, .inl (kA P))), (al, .inl (cI, 300, .inl (kA L))), (ob, .inr (3, [.ref ab, .int (iI ((nb : Nat) : Int))])), (ab, .inl (cI, 300, .inl fb)), (og, .inr (3, [.ref ag, .int (iI ((ng : Nat) : Int))])), (ag, .inl (cI, 300, .inl fg)), (h3, .inr (3, [.ref a3, .int (iI (((T).length : Nat) : Int))])), (a3, .inl (cI, 900, .inl (apL f3 0 (T))))]) (wf := fun _ => [(hp, .inr (2, [.ref ob, .ref og, .ref ap, .ref al, .ref aq, .int (iI ((cnt : Nat) : Int))])), (ap, .inl (cI, 300, .inl (kA P))), (al, .inl (cI, 300, .inl (kA L))), (aq, .inl (cI, 300, .inl (kA S))), (ob, .inr (3, [.ref ab, .int (iI ((nb : Nat) : Int))])), (ab, .inl (cI, 300, .inl fb)), (og, .inr (3, [.ref ag, .int (iI ((ng : Nat) : Int))])), (ag, .inl (cI, 300, .inl fg)), (h3, .inr (3, [.ref a3, .int (iI (((T).length : Nat) : Int))])), (a3, .inl (cI, 900, .inl (apL f3 0 (T))))]) hK hP hD hS hA [0, 3] [1, 2, 4, 5, 6, 7, 8, 9] [8, 0, 1, 9, 2, 3, 4, 5, 6, 7] ⟨⟨rfl, rfl, by decide⟩, rfl, by decide, by decide⟩ (fun _ => ⟨rfl, rfl⟩) (by decide) (fun hPc hDc => va_runV (As := [.int (iI ((i : Nat) : Int))]) (rest := []) ⟨hx, hb, hml, hown, hts⟩ (c_Plan_isCopyk l D cI cZ (hp := hp) (ob := ob) (og := og) (ap := ap) (al := al) (aq := aq) (cnt := cnt) (F := S) (k := i) (hc := by omega) (hk := by omega) (hF := fun j hj => by have := hW.1 j hj; omega) _) (cwV 1 hts (kgV wm260 wm261 wm262 wm41 wmcX2_isCopy) rfl rfl rfl (by decide +kernel) ⟨Nat.le_of_ble_eq_true rfl, Nat.le_of_ble_eq_true rfl⟩) (k_preV hK hPc hDc (ci := 2) (q0 := 0) rfl rfl) rfl rfl hl.1 rfl (lv_room (Nat.le_of_ble_eq_true rfl)) dX2_writeTo_62 ⟨Nat.le_of_ble_eq_true rfl, Nat.le_of_ble_eq_true rfl⟩) (fun r62 u H locs hw hP hD hS => ?_)
        have hP : va_P D vwCl [(hp, .inr (2, [.ref ob, .ref og, .ref ap, .ref al, .ref aq, .int (iI ((cnt : Nat) : Int))])), (ap, .inl (cI, 300, .inl (kA P))), (al, .inl (cI, 300, .inl (kA L))), (aq, .inl (cI, 300, .inl (kA S))), (ob, .inr (3, [.ref ab, .int (iI ((nb : Nat) : Int))])), (ab, .inl (cI, 300, .inl fb)), (og, .inr (3, [.ref ag, .int (iI ((ng : Nat) : Int))])), (ag, .inl (cI, 300, .inl fg)), (h3, .inr (3, [.ref a3, .int (iI (((T).length : Nat) : Int))])), (a3, .inl (cI, 900, .inl (apL f3 0 (T))))] H := hP
        have hD : va_D A [(hp, .inr (2, [.ref ob, .ref og, .ref ap, .ref al, .ref aq, .int (iI ((cnt : Nat) : Int))])), (ap, .inl (cI, 300, .inl (kA P))), (al, .inl (cI, 300, .inl (kA L))), (aq, .inl (cI, 300, .inl (kA S))), (ob, .inr (3, [.ref ab, .int (iI ((nb : Nat) : Int))])), (ab, .inl (cI, 300, .inl fb)), (og, .inr (3, [.ref ag, .int (iI ((ng : Nat) : Int))])), (ag, .inl (cI, 300, .inl fg)), (h3, .inr (3, [.ref a3, .int (iI (((T).length : Nat) : Int))])), (a3, .inl (cI, 900, .inl (apL f3 0 (T))))] := hD
        refine W.widen (k := 0) (n := 0) (Nat.le_of_ble_eq_true rfl) (Nat.le_of_ble_eq_true rfl) ?_
        have hw : r62 = kb (decide (¬ S i = -1)) := hw
        subst hw
        refine lv_if_eq (tgt := 110) hx hb dX2_writeTo_65 (by decide) (fun c65 => ?_) (fun c65 => ?_)
        · skip
          have c65 : ¬ (¬ S i = -1) := of_decide_eq_false (kb_T c65)
          refine lv_aload_n hx hb dX2_writeTo_110 rfl (lv_at hl 1 rfl) ?_
          refine lv_iconst (v := iI (2 : Int)) hx hb dX2_writeTo_111 rfl ?_
          refine lv_aload_n hx hb dX2_writeTo_112 rfl (lv_at hl 0 rfl) ?_
          refine lv_iload_n hx hb dX2_writeTo_113 rfl (lv_at hl 3 rfl) ?_
          refine k_calli (wc := [(hp, .inr (2, [.ref ob, .ref og, .ref ap, .ref al, .ref aq, .int (iI ((cnt : Nat) : Int))])), (al, .inl (cI, 300, .inl (kA L)))]) (wr := [(ap, .inl (cI, 300, .inl (kA P))), (aq, .inl (cI, 300, .inl (kA S))), (ob, .inr (3, [.ref ab, .int (iI ((nb : Nat) : Int))])), (ab, .inl (cI, 300, .inl fb)), (og, .inr (3, [.ref ag, .int (iI ((ng : Nat) : Int))])), (ag, .inl (cI, 300, .inl fg)), (h3, .inr (3, [.ref a3, .int (iI (((T).length : Nat) : Int))])), (a3, .inl (cI, 900, .inl (apL f3 0 (T))))]) (wf := fun _ => [(hp, .inr (2, [.ref ob, .ref og, .ref ap, .ref al, .ref aq, .int (iI ((cnt : Nat) : Int))])), (ap, .inl (cI, 300, .inl (kA P))), (al, .inl (cI, 300, .inl (kA L))), (aq, .inl (cI, 300, .inl (kA S))), (ob, .inr (3, [.ref ab, .int (iI ((nb : Nat) : Int))])), (ab, .inl (cI, 300, .inl fb)), (og, .inr (3, [.ref ag, .int (iI ((ng : Nat) : Int))])), (ag, .inl (cI, 300, .inl fg)), (h3, .inr (3, [.ref a3, .int (iI (((T).length : Nat) : Int))])), (a3, .inl (cI, 900, .inl (apL f3 0 (T))))]) hK hP hD hS hA [0, 2] [1, 3, 4, 5, 6, 7, 8, 9] [8, 0, 9, 1, 2, 3, 4, 5, 6, 7] ⟨⟨rfl, rfl, by decide⟩, rfl, by decide, by decide⟩ (fun _ => ⟨rfl, rfl⟩) (by decide) (fun hPc hDc => va_runV (As := [.int (iI ((i : Nat) : Int))]) (rest := [.int (iI (2 : Int)), .ref h3]) ⟨hx, hb, hml, hown, hts⟩ (c_Plan_lengthk l D cI cZ (hp := hp) (ob := ob) (og := og) (ap := ap) (al := al) (aq := aq) (cnt := cnt) (F := L) (k := i) (hc := by omega) (hk := by omega) _) (cwV 1 hts (kgV wm268 wm269 wm270 wm41 wmcX2_length) rfl rfl rfl (by decide +kernel) ⟨Nat.le_of_ble_eq_true rfl, Nat.le_of_ble_eq_true rfl⟩) (k_preV hK hPc hDc (ci := 2) (q0 := 0) rfl rfl) rfl rfl hl.1 rfl (lv_room (Nat.le_of_ble_eq_true rfl)) dX2_writeTo_114 ⟨Nat.le_of_ble_eq_true rfl, Nat.le_of_ble_eq_true rfl⟩) (fun r114 u H locs hw hP hD hS => ?_)
          have hP : va_P D vwCl [(hp, .inr (2, [.ref ob, .ref og, .ref ap, .ref al, .ref aq, .int (iI ((cnt : Nat) : Int))])), (ap, .inl (cI, 300, .inl (kA P))), (al, .inl (cI, 300, .inl (kA L))), (aq, .inl (cI, 300, .inl (kA S))), (ob, .inr (3, [.ref ab, .int (iI ((nb : Nat) : Int))])), (ab, .inl (cI, 300, .inl fb)), (og, .inr (3, [.ref ag, .int (iI ((ng : Nat) : Int))])), (ag, .inl (cI, 300, .inl fg)), (h3, .inr (3, [.ref a3, .int (iI (((T).length : Nat) : Int))])), (a3, .inl (cI, 900, .inl (apL f3 0 (T))))] H := hP
          have hD : va_D A [(hp, .inr (2, [.ref ob, .ref og, .ref ap, .ref al, .ref aq, .int (iI ((cnt : Nat) : Int))])), (ap, .inl (cI, 300, .inl (kA P))), (al, .inl (cI, 300, .inl (kA L))), (aq, .inl (cI, 300, .inl (kA S))), (ob, .inr (3, [.ref ab, .int (iI ((nb : Nat) : Int))])), (ab, .inl (cI, 300, .inl fb)), (og, .inr (3, [.ref ag, .int (iI ((ng : Nat) : Int))])), (ag, .inl (cI, 300, .inl fg)), (h3, .inr (3, [.ref a3, .int (iI (((T).length : Nat) : Int))])), (a3, .inl (cI, 900, .inl (apL f3 0 (T))))] := hD
          refine W.widen (k := 0) (n := 0) (Nat.le_of_ble_eq_true rfl) (Nat.le_of_ble_eq_true rfl) ?_
          have hw : r114 = iI (L i : Int) := hw
          subst hw
          refine lv_imul hx hb dX2_writeTo_117 ?_
          refine kn_i (iM (c := (((2 * L i).toNat : Nat) : Int)) (by omega)) ?_
          refine k_callv (wc := [(h3, .inr (3, [.ref a3, .int (iI (((T).length : Nat) : Int))])), (a3, .inl (cI, 900, .inl (apL f3 0 (T))))]) (wr := [(hp, .inr (2, [.ref ob, .ref og, .ref ap, .ref al, .ref aq, .int (iI ((cnt : Nat) : Int))])), (ap, .inl (cI, 300, .inl (kA P))), (al, .inl (cI, 300, .inl (kA L))), (aq, .inl (cI, 300, .inl (kA S))), (ob, .inr (3, [.ref ab, .int (iI ((nb : Nat) : Int))])), (ab, .inl (cI, 300, .inl fb)), (og, .inr (3, [.ref ag, .int (iI ((ng : Nat) : Int))])), (ag, .inl (cI, 300, .inl fg))]) (wf := fun _ => [(hp, .inr (2, [.ref ob, .ref og, .ref ap, .ref al, .ref aq, .int (iI ((cnt : Nat) : Int))])), (ap, .inl (cI, 300, .inl (kA P))), (al, .inl (cI, 300, .inl (kA L))), (aq, .inl (cI, 300, .inl (kA S))), (ob, .inr (3, [.ref ab, .int (iI ((nb : Nat) : Int))])), (ab, .inl (cI, 300, .inl fb)), (og, .inr (3, [.ref ag, .int (iI ((ng : Nat) : Int))])), (ag, .inl (cI, 300, .inl fg)), (h3, .inr (3, [.ref a3, .int (iI ((((T).length) + (vb 3 ((2 * L i).toNat)).length : Nat) : Int))])), (a3, .inl (cI, 900, .inl (apL (apL f3 0 (T)) ((T).length) (vb 3 ((2 * L i).toNat)))))]) hK hP hD hS hA [8, 9] [0, 1, 2, 3, 4, 5, 6, 7] [0, 1, 2, 3, 4, 5, 6, 7, 8, 9] ⟨⟨rfl, rfl, by decide⟩, rfl, by decide, by decide⟩ (fun _ => ⟨rfl, rfl⟩) (by decide) (fun hPc hDc => va_runV (As := [.int (iI (((2 * L i).toNat : Nat) : Int))]) (rest := []) ⟨hx, hb, hml, hown, hts⟩ (c_Row_addVarint l D cI cZ (h := h3) (a := a3) (M := 900) (n := (T).length) (f := (apL f3 0 (T))) (v := (2 * L i).toNat) (hM := by omega) (hn := by omega) (hv := by omega) _) (cwV 1 hts (kgV wm281 wm282 wm283 wm39 wmcX3_addVarint) rfl rfl rfl (by decide +kernel) ⟨Nat.le_of_ble_eq_true rfl, Nat.le_of_ble_eq_true rfl⟩) (k_preV hK hPc hDc (ci := 3) (q0 := 0) rfl rfl) rfl rfl hl.1 rfl (lv_room (Nat.le_of_ble_eq_true rfl)) dX2_writeTo_118 ⟨Nat.le_of_ble_eq_true rfl, Nat.le_of_ble_eq_true rfl⟩) (fun u H locs hw hP hD hS => ?_)
          have hP : va_P D vwCl [(hp, .inr (2, [.ref ob, .ref og, .ref ap, .ref al, .ref aq, .int (iI ((cnt : Nat) : Int))])), (ap, .inl (cI, 300, .inl (kA P))), (al, .inl (cI, 300, .inl (kA L))), (aq, .inl (cI, 300, .inl (kA S))), (ob, .inr (3, [.ref ab, .int (iI ((nb : Nat) : Int))])), (ab, .inl (cI, 300, .inl fb)), (og, .inr (3, [.ref ag, .int (iI ((ng : Nat) : Int))])), (ag, .inl (cI, 300, .inl fg)), (h3, .inr (3, [.ref a3, .int (iI ((((T).length) + (vb 3 ((2 * L i).toNat)).length : Nat) : Int))])), (a3, .inl (cI, 900, .inl (apL (apL f3 0 (T)) ((T).length) (vb 3 ((2 * L i).toNat)))))] H := hP
          have hD : va_D A [(hp, .inr (2, [.ref ob, .ref og, .ref ap, .ref al, .ref aq, .int (iI ((cnt : Nat) : Int))])), (ap, .inl (cI, 300, .inl (kA P))), (al, .inl (cI, 300, .inl (kA L))), (aq, .inl (cI, 300, .inl (kA S))), (ob, .inr (3, [.ref ab, .int (iI ((nb : Nat) : Int))])), (ab, .inl (cI, 300, .inl fb)), (og, .inr (3, [.ref ag, .int (iI ((ng : Nat) : Int))])), (ag, .inl (cI, 300, .inl fg)), (h3, .inr (3, [.ref a3, .int (iI ((((T).length) + (vb 3 ((2 * L i).toNat)).length : Nat) : Int))])), (a3, .inl (cI, 900, .inl (apL (apL f3 0 (T)) ((T).length) (vb 3 ((2 * L i).toNat)))))] := hD
          refine W.widen (k := 0) (n := 0) (Nat.le_of_ble_eq_true rfl) (Nat.le_of_ble_eq_true rfl) ?_
          rw [show (apL (apL f3 0 (T)) ((T).length) (vb 3 ((2 * L i).toNat))) = (apL f3 0 (T ++ vb 3 (2 * L i).toNat)) from apL0] at hP hD
          rw [show iI ((((T).length) + (vb 3 ((2 * L i).toNat)).length : Nat) : Int) = iI (((T ++ vb 3 (2 * L i).toNat).length : Nat) : Int) from len_v] at hP hD
          refine lv_aload_n hx hb dX2_writeTo_121 rfl (lv_at hl 1 rfl) ?_
          refine lv_aload_n hx hb dX2_writeTo_122 rfl (lv_at hl 0 rfl) ?_
          refine va_get (D := D) (ci := 2) (v := .ref og) (C := RX2) (T := TX2) (N := 6) hx hb hts hi_X2 hown hK hP 0 rfl rfl 1 (by decide) fl20 (fun _ h9 => h9) rfl dX2_writeTo_123 ?_
          refine lv_aload_n hx hb dX2_writeTo_126 rfl (lv_at hl 0 rfl) ?_
          refine lv_iload_n hx hb dX2_writeTo_127 rfl (lv_at hl 3 rfl) ?_
          refine k_calli (wc := [(hp, .inr (2, [.ref ob, .ref og, .ref ap, .ref al, .ref aq, .int (iI ((cnt : Nat) : Int))])), (ap, .inl (cI, 300, .inl (kA P)))]) (wr := [(al, .inl (cI, 300, .inl (kA L))), (aq, .inl (cI, 300, .inl (kA S))), (ob, .inr (3, [.ref ab, .int (iI ((nb : Nat) : Int))])), (ab, .inl (cI, 300, .inl fb)), (og, .inr (3, [.ref ag, .int (iI ((ng : Nat) : Int))])), (ag, .inl (cI, 300, .inl fg)), (h3, .inr (3, [.ref a3, .int (iI (((T ++ vb 3 (2 * L i).toNat).length : Nat) : Int))])), (a3, .inl (cI, 900, .inl (apL f3 0 (T ++ vb 3 (2 * L i).toNat))))]) (wf := fun _ => [(hp, .inr (2, [.ref ob, .ref og, .ref ap, .ref al, .ref aq, .int (iI ((cnt : Nat) : Int))])), (ap, .inl (cI, 300, .inl (kA P))), (al, .inl (cI, 300, .inl (kA L))), (aq, .inl (cI, 300, .inl (kA S))), (ob, .inr (3, [.ref ab, .int (iI ((nb : Nat) : Int))])), (ab, .inl (cI, 300, .inl fb)), (og, .inr (3, [.ref ag, .int (iI ((ng : Nat) : Int))])), (ag, .inl (cI, 300, .inl fg)), (h3, .inr (3, [.ref a3, .int (iI (((T ++ vb 3 (2 * L i).toNat).length : Nat) : Int))])), (a3, .inl (cI, 900, .inl (apL f3 0 (T ++ vb 3 (2 * L i).toNat))))]) hK hP hD hS hA [0, 1] [2, 3, 4, 5, 6, 7, 8, 9] [8, 9, 0, 1, 2, 3, 4, 5, 6, 7] ⟨⟨rfl, rfl, by decide⟩, rfl, by decide, by decide⟩ (fun _ => ⟨rfl, rfl⟩) (by decide) (fun hPc hDc => va_runV (As := [.int (iI ((i : Nat) : Int))]) (rest := [.ref og, .ref h3]) ⟨hx, hb, hml, hown, hts⟩ (c_Plan_placek l D cI cZ (hp := hp) (ob := ob) (og := og) (ap := ap) (al := al) (aq := aq) (cnt := cnt) (F := P) (k := i) (hc := by omega) (hk := by omega) _) (cwV 1 hts (kgV wm297 wm298 wm299 wm41 wmcX2_place) rfl rfl rfl (by decide +kernel) ⟨Nat.le_of_ble_eq_true rfl, Nat.le_of_ble_eq_true rfl⟩) (k_preV hK hPc hDc (ci := 2) (q0 := 0) rfl rfl) rfl rfl hl.1 rfl (lv_room (Nat.le_of_ble_eq_true rfl)) dX2_writeTo_128 ⟨Nat.le_of_ble_eq_true rfl, Nat.le_of_ble_eq_true rfl⟩) (fun r128 u H locs hw hP hD hS => ?_)
          have hP : va_P D vwCl [(hp, .inr (2, [.ref ob, .ref og, .ref ap, .ref al, .ref aq, .int (iI ((cnt : Nat) : Int))])), (ap, .inl (cI, 300, .inl (kA P))), (al, .inl (cI, 300, .inl (kA L))), (aq, .inl (cI, 300, .inl (kA S))), (ob, .inr (3, [.ref ab, .int (iI ((nb : Nat) : Int))])), (ab, .inl (cI, 300, .inl fb)), (og, .inr (3, [.ref ag, .int (iI ((ng : Nat) : Int))])), (ag, .inl (cI, 300, .inl fg)), (h3, .inr (3, [.ref a3, .int (iI (((T ++ vb 3 (2 * L i).toNat).length : Nat) : Int))])), (a3, .inl (cI, 900, .inl (apL f3 0 (T ++ vb 3 (2 * L i).toNat))))] H := hP
          have hD : va_D A [(hp, .inr (2, [.ref ob, .ref og, .ref ap, .ref al, .ref aq, .int (iI ((cnt : Nat) : Int))])), (ap, .inl (cI, 300, .inl (kA P))), (al, .inl (cI, 300, .inl (kA L))), (aq, .inl (cI, 300, .inl (kA S))), (ob, .inr (3, [.ref ab, .int (iI ((nb : Nat) : Int))])), (ab, .inl (cI, 300, .inl fb)), (og, .inr (3, [.ref ag, .int (iI ((ng : Nat) : Int))])), (ag, .inl (cI, 300, .inl fg)), (h3, .inr (3, [.ref a3, .int (iI (((T ++ vb 3 (2 * L i).toNat).length : Nat) : Int))])), (a3, .inl (cI, 900, .inl (apL f3 0 (T ++ vb 3 (2 * L i).toNat))))] := hD
          refine W.widen (k := 0) (n := 0) (Nat.le_of_ble_eq_true rfl) (Nat.le_of_ble_eq_true rfl) ?_
          have hw : r128 = iI (((P i).toNat : Nat) : Int) := hw.trans (congrArg iI (by omega))
          subst hw
          refine lv_aload_n hx hb dX2_writeTo_131 rfl (lv_at hl 0 rfl) ?_
          refine lv_iload_n hx hb dX2_writeTo_132 rfl (lv_at hl 3 rfl) ?_
          refine k_calli (wc := [(hp, .inr (2, [.ref ob, .ref og, .ref ap, .ref al, .ref aq, .int (iI ((cnt : Nat) : Int))])), (al, .inl (cI, 300, .inl (kA L)))]) (wr := [(ap, .inl (cI, 300, .inl (kA P))), (aq, .inl (cI, 300, .inl (kA S))), (ob, .inr (3, [.ref ab, .int (iI ((nb : Nat) : Int))])), (ab, .inl (cI, 300, .inl fb)), (og, .inr (3, [.ref ag, .int (iI ((ng : Nat) : Int))])), (ag, .inl (cI, 300, .inl fg)), (h3, .inr (3, [.ref a3, .int (iI (((T ++ vb 3 (2 * L i).toNat).length : Nat) : Int))])), (a3, .inl (cI, 900, .inl (apL f3 0 (T ++ vb 3 (2 * L i).toNat))))]) (wf := fun _ => [(hp, .inr (2, [.ref ob, .ref og, .ref ap, .ref al, .ref aq, .int (iI ((cnt : Nat) : Int))])), (ap, .inl (cI, 300, .inl (kA P))), (al, .inl (cI, 300, .inl (kA L))), (aq, .inl (cI, 300, .inl (kA S))), (ob, .inr (3, [.ref ab, .int (iI ((nb : Nat) : Int))])), (ab, .inl (cI, 300, .inl fb)), (og, .inr (3, [.ref ag, .int (iI ((ng : Nat) : Int))])), (ag, .inl (cI, 300, .inl fg)), (h3, .inr (3, [.ref a3, .int (iI (((T ++ vb 3 (2 * L i).toNat).length : Nat) : Int))])), (a3, .inl (cI, 900, .inl (apL f3 0 (T ++ vb 3 (2 * L i).toNat))))]) hK hP hD hS hA [0, 2] [1, 3, 4, 5, 6, 7, 8, 9] [8, 0, 9, 1, 2, 3, 4, 5, 6, 7] ⟨⟨rfl, rfl, by decide⟩, rfl, by decide, by decide⟩ (fun _ => ⟨rfl, rfl⟩) (by decide) (fun hPc hDc => va_runV (As := [.int (iI ((i : Nat) : Int))]) (rest := [.int (iI (((P i).toNat : Nat) : Int)), .ref og, .ref h3]) ⟨hx, hb, hml, hown, hts⟩ (c_Plan_lengthk l D cI cZ (hp := hp) (ob := ob) (og := og) (ap := ap) (al := al) (aq := aq) (cnt := cnt) (F := L) (k := i) (hc := by omega) (hk := by omega) _) (cwV 1 hts (kgV wm268 wm269 wm270 wm41 wmcX2_length) rfl rfl rfl (by decide +kernel) ⟨Nat.le_of_ble_eq_true rfl, Nat.le_of_ble_eq_true rfl⟩) (k_preV hK hPc hDc (ci := 2) (q0 := 0) rfl rfl) rfl rfl hl.1 rfl (lv_room (Nat.le_of_ble_eq_true rfl)) dX2_writeTo_133 ⟨Nat.le_of_ble_eq_true rfl, Nat.le_of_ble_eq_true rfl⟩) (fun r133 u H locs hw hP hD hS => ?_)
          have hP : va_P D vwCl [(hp, .inr (2, [.ref ob, .ref og, .ref ap, .ref al, .ref aq, .int (iI ((cnt : Nat) : Int))])), (ap, .inl (cI, 300, .inl (kA P))), (al, .inl (cI, 300, .inl (kA L))), (aq, .inl (cI, 300, .inl (kA S))), (ob, .inr (3, [.ref ab, .int (iI ((nb : Nat) : Int))])), (ab, .inl (cI, 300, .inl fb)), (og, .inr (3, [.ref ag, .int (iI ((ng : Nat) : Int))])), (ag, .inl (cI, 300, .inl fg)), (h3, .inr (3, [.ref a3, .int (iI (((T ++ vb 3 (2 * L i).toNat).length : Nat) : Int))])), (a3, .inl (cI, 900, .inl (apL f3 0 (T ++ vb 3 (2 * L i).toNat))))] H := hP
          have hD : va_D A [(hp, .inr (2, [.ref ob, .ref og, .ref ap, .ref al, .ref aq, .int (iI ((cnt : Nat) : Int))])), (ap, .inl (cI, 300, .inl (kA P))), (al, .inl (cI, 300, .inl (kA L))), (aq, .inl (cI, 300, .inl (kA S))), (ob, .inr (3, [.ref ab, .int (iI ((nb : Nat) : Int))])), (ab, .inl (cI, 300, .inl fb)), (og, .inr (3, [.ref ag, .int (iI ((ng : Nat) : Int))])), (ag, .inl (cI, 300, .inl fg)), (h3, .inr (3, [.ref a3, .int (iI (((T ++ vb 3 (2 * L i).toNat).length : Nat) : Int))])), (a3, .inl (cI, 900, .inl (apL f3 0 (T ++ vb 3 (2 * L i).toNat))))] := hD
          refine W.widen (k := 0) (n := 0) (Nat.le_of_ble_eq_true rfl) (Nat.le_of_ble_eq_true rfl) ?_
          have hw : r133 = iI (((L i).toNat : Nat) : Int) := hw.trans (congrArg iI (by omega))
          subst hw
          refine k_callv (wc := [(h3, .inr (3, [.ref a3, .int (iI (((T ++ vb 3 (2 * L i).toNat).length : Nat) : Int))])), (a3, .inl (cI, 900, .inl (apL f3 0 (T ++ vb 3 (2 * L i).toNat)))), (og, .inr (3, [.ref ag, .int (iI ((ng : Nat) : Int))])), (ag, .inl (cI, 300, .inl fg))]) (wr := [(hp, .inr (2, [.ref ob, .ref og, .ref ap, .ref al, .ref aq, .int (iI ((cnt : Nat) : Int))])), (ap, .inl (cI, 300, .inl (kA P))), (al, .inl (cI, 300, .inl (kA L))), (aq, .inl (cI, 300, .inl (kA S))), (ob, .inr (3, [.ref ab, .int (iI ((nb : Nat) : Int))])), (ab, .inl (cI, 300, .inl fb))]) (wf := fun _ => [(hp, .inr (2, [.ref ob, .ref og, .ref ap, .ref al, .ref aq, .int (iI ((cnt : Nat) : Int))])), (ap, .inl (cI, 300, .inl (kA P))), (al, .inl (cI, 300, .inl (kA L))), (aq, .inl (cI, 300, .inl (kA S))), (ob, .inr (3, [.ref ab, .int (iI ((nb : Nat) : Int))])), (ab, .inl (cI, 300, .inl fb)), (og, .inr (3, [.ref ag, .int (iI ((ng : Nat) : Int))])), (ag, .inl (cI, 300, .inl fg)), (h3, .inr (3, [.ref a3, .int (iI ((((T ++ vb 3 (2 * L i).toNat).length) + ((L i).toNat) : Nat) : Int))])), (a3, .inl (cI, 900, .inl (apL (apL f3 0 (T ++ vb 3 (2 * L i).toNat)) ((T ++ vb 3 (2 * L i).toNat).length) (sl fg ((P i).toNat) ((L i).toNat)))))]) hK hP hD hS hA [8, 9, 6, 7] [0, 1, 2, 3, 4, 5] [0, 1, 2, 3, 4, 5, 8, 9, 6, 7] ⟨⟨rfl, rfl, by decide⟩, rfl, by decide, by decide⟩ (fun _ => ⟨rfl, rfl⟩) (by decide) (fun hPc hDc => va_runV (As := [.ref og, .int (iI (((P i).toNat : Nat) : Int)), .int (iI (((L i).toNat : Nat) : Int))]) (rest := []) ⟨hx, hb, hml, hown, hts⟩ (c_Row_addFrom l D cI cZ (h := h3) (a := a3) (M := 900) (n := (T ++ vb 3 (2 * L i).toNat).length) (f := (apL f3 0 (T ++ vb 3 (2 * L i).toNat))) (h2 := og) (a2 := ag) (M2 := 300) (n2 := ng) (g := fg) (st := (P i).toNat) (k := (L i).toNat) (hM := by omega) (hM2 := by omega) (hn2 := by omega) (hst := by omega) (hk := by rw [List.length_append]; omega) _) (cwV 3 hts (kgV wm301 wm218 wm219 wm39 wmcX3_addFrom) rfl rfl rfl (by decide +kernel) ⟨Nat.le_of_ble_eq_true rfl, Nat.le_of_ble_eq_true rfl⟩) (k_preV hK hPc hDc (ci := 3) (q0 := 0) rfl rfl) rfl rfl hl.1 rfl (lv_room (Nat.le_of_ble_eq_true rfl)) dX2_writeTo_136 ⟨Nat.le_of_ble_eq_true rfl, Nat.le_of_ble_eq_true rfl⟩) (fun u H locs hw hP hD hS => ?_)
          have hP : va_P D vwCl [(hp, .inr (2, [.ref ob, .ref og, .ref ap, .ref al, .ref aq, .int (iI ((cnt : Nat) : Int))])), (ap, .inl (cI, 300, .inl (kA P))), (al, .inl (cI, 300, .inl (kA L))), (aq, .inl (cI, 300, .inl (kA S))), (ob, .inr (3, [.ref ab, .int (iI ((nb : Nat) : Int))])), (ab, .inl (cI, 300, .inl fb)), (og, .inr (3, [.ref ag, .int (iI ((ng : Nat) : Int))])), (ag, .inl (cI, 300, .inl fg)), (h3, .inr (3, [.ref a3, .int (iI ((((T ++ vb 3 (2 * L i).toNat).length) + ((L i).toNat) : Nat) : Int))])), (a3, .inl (cI, 900, .inl (apL (apL f3 0 (T ++ vb 3 (2 * L i).toNat)) ((T ++ vb 3 (2 * L i).toNat).length) (sl fg ((P i).toNat) ((L i).toNat)))))] H := hP
          have hD : va_D A [(hp, .inr (2, [.ref ob, .ref og, .ref ap, .ref al, .ref aq, .int (iI ((cnt : Nat) : Int))])), (ap, .inl (cI, 300, .inl (kA P))), (al, .inl (cI, 300, .inl (kA L))), (aq, .inl (cI, 300, .inl (kA S))), (ob, .inr (3, [.ref ab, .int (iI ((nb : Nat) : Int))])), (ab, .inl (cI, 300, .inl fb)), (og, .inr (3, [.ref ag, .int (iI ((ng : Nat) : Int))])), (ag, .inl (cI, 300, .inl fg)), (h3, .inr (3, [.ref a3, .int (iI ((((T ++ vb 3 (2 * L i).toNat).length) + ((L i).toNat) : Nat) : Int))])), (a3, .inl (cI, 900, .inl (apL (apL f3 0 (T ++ vb 3 (2 * L i).toNat)) ((T ++ vb 3 (2 * L i).toNat).length) (sl fg ((P i).toNat) ((L i).toNat)))))] := hD
          refine W.widen (k := 0) (n := 0) (Nat.le_of_ble_eq_true rfl) (Nat.le_of_ble_eq_true rfl) ?_
          rw [show (apL (apL f3 0 (T ++ vb 3 (2 * L i).toNat)) ((T ++ vb 3 (2 * L i).toNat).length) (sl fg ((P i).toNat) ((L i).toNat))) = (apL f3 0 (T ++ vb 3 (2 * L i).toNat ++ sl fg (P i).toNat (L i).toNat)) from apL0] at hP hD
          rw [show iI ((((T ++ vb 3 (2 * L i).toNat).length) + ((L i).toNat) : Nat) : Int) = iI (((T ++ vb 3 (2 * L i).toNat ++ sl fg (P i).toNat (L i).toNat).length : Nat) : Int) from len_s] at hP hD
          refine lv_iinc (v := iI ((i + 1 : Nat) : Int)) (lv' := [(3, .int (iI ((i + 1 : Nat) : Int))), (0, .ref hp), (1, .ref h3), (2, .int (iI (bh : Int)))]) hx hb dX2_writeTo_139 hl (k := 3) rfl (iA (by omega)) (by decide) rfl (fun ls hl => ?_)
          refine lv_goto (tgt := 52) hx hb dX2_writeTo_142 (by decide) ?_
          have c65 : S i = -1 := by omega
          have q1 : stB fg P L S i bh = vb 3 (2 * L i).toNat ++ sl fg (P i).toNat (L i).toNat := by unfold stB; rw [if_pos c65]
          have q2 : bhN L S i bh = bh := by unfold bhN; rw [if_pos c65]
          exact ih52 (i + 1) bh (T ++ vb 3 (2 * L i).toNat ++ sl fg (P i).toNat (L i).toNat) _ _ _ (by omega) (by omega) (by omega) (by rw [← hT, wrS_s (i := i) (bh := bh) (by omega), q1, q2]; simp only [List.append_assoc]) (by rw [eP_s]; rw [q1] at hsl; simp only [List.length_append] at hsl ⊢; omega) hP hD hS (lv_sub hl [1, 2, 3, 0] rfl)
        · skip
          have c65 : ¬ S i = -1 := of_decide_eq_true (kb_F c65)
          refine lv_aload_n hx hb dX2_writeTo_68 rfl (lv_at hl 1 rfl) ?_
          refine lv_iconst (v := iI (2 : Int)) hx hb dX2_writeTo_69 rfl ?_
          refine lv_aload_n hx hb dX2_writeTo_70 rfl (lv_at hl 0 rfl) ?_
          refine lv_iload_n hx hb dX2_writeTo_71 rfl (lv_at hl 3 rfl) ?_
          refine k_calli (wc := [(hp, .inr (2, [.ref ob, .ref og, .ref ap, .ref al, .ref aq, .int (iI ((cnt : Nat) : Int))])), (al, .inl (cI, 300, .inl (kA L)))]) (wr := [(ap, .inl (cI, 300, .inl (kA P))), (aq, .inl (cI, 300, .inl (kA S))), (ob, .inr (3, [.ref ab, .int (iI ((nb : Nat) : Int))])), (ab, .inl (cI, 300, .inl fb)), (og, .inr (3, [.ref ag, .int (iI ((ng : Nat) : Int))])), (ag, .inl (cI, 300, .inl fg)), (h3, .inr (3, [.ref a3, .int (iI (((T).length : Nat) : Int))])), (a3, .inl (cI, 900, .inl (apL f3 0 (T))))]) (wf := fun _ => [(hp, .inr (2, [.ref ob, .ref og, .ref ap, .ref al, .ref aq, .int (iI ((cnt : Nat) : Int))])), (ap, .inl (cI, 300, .inl (kA P))), (al, .inl (cI, 300, .inl (kA L))), (aq, .inl (cI, 300, .inl (kA S))), (ob, .inr (3, [.ref ab, .int (iI ((nb : Nat) : Int))])), (ab, .inl (cI, 300, .inl fb)), (og, .inr (3, [.ref ag, .int (iI ((ng : Nat) : Int))])), (ag, .inl (cI, 300, .inl fg)), (h3, .inr (3, [.ref a3, .int (iI (((T).length : Nat) : Int))])), (a3, .inl (cI, 900, .inl (apL f3 0 (T))))]) hK hP hD hS hA [0, 2] [1, 3, 4, 5, 6, 7, 8, 9] [8, 0, 9, 1, 2, 3, 4, 5, 6, 7] ⟨⟨rfl, rfl, by decide⟩, rfl, by decide, by decide⟩ (fun _ => ⟨rfl, rfl⟩) (by decide) (fun hPc hDc => va_runV (As := [.int (iI ((i : Nat) : Int))]) (rest := [.int (iI (2 : Int)), .ref h3]) ⟨hx, hb, hml, hown, hts⟩ (c_Plan_lengthk l D cI cZ (hp := hp) (ob := ob) (og := og) (ap := ap) (al := al) (aq := aq) (cnt := cnt) (F := L) (k := i) (hc := by omega) (hk := by omega) _) (cwV 1 hts (kgV wm268 wm269 wm270 wm41 wmcX2_length) rfl rfl rfl (by decide +kernel) ⟨Nat.le_of_ble_eq_true rfl, Nat.le_of_ble_eq_true rfl⟩) (k_preV hK hPc hDc (ci := 2) (q0 := 0) rfl rfl) rfl rfl hl.1 rfl (lv_room (Nat.le_of_ble_eq_true rfl)) dX2_writeTo_72 ⟨Nat.le_of_ble_eq_true rfl, Nat.le_of_ble_eq_true rfl⟩) (fun r72 u H locs hw hP hD hS => ?_)
          have hP : va_P D vwCl [(hp, .inr (2, [.ref ob, .ref og, .ref ap, .ref al, .ref aq, .int (iI ((cnt : Nat) : Int))])), (ap, .inl (cI, 300, .inl (kA P))), (al, .inl (cI, 300, .inl (kA L))), (aq, .inl (cI, 300, .inl (kA S))), (ob, .inr (3, [.ref ab, .int (iI ((nb : Nat) : Int))])), (ab, .inl (cI, 300, .inl fb)), (og, .inr (3, [.ref ag, .int (iI ((ng : Nat) : Int))])), (ag, .inl (cI, 300, .inl fg)), (h3, .inr (3, [.ref a3, .int (iI (((T).length : Nat) : Int))])), (a3, .inl (cI, 900, .inl (apL f3 0 (T))))] H := hP
          have hD : va_D A [(hp, .inr (2, [.ref ob, .ref og, .ref ap, .ref al, .ref aq, .int (iI ((cnt : Nat) : Int))])), (ap, .inl (cI, 300, .inl (kA P))), (al, .inl (cI, 300, .inl (kA L))), (aq, .inl (cI, 300, .inl (kA S))), (ob, .inr (3, [.ref ab, .int (iI ((nb : Nat) : Int))])), (ab, .inl (cI, 300, .inl fb)), (og, .inr (3, [.ref ag, .int (iI ((ng : Nat) : Int))])), (ag, .inl (cI, 300, .inl fg)), (h3, .inr (3, [.ref a3, .int (iI (((T).length : Nat) : Int))])), (a3, .inl (cI, 900, .inl (apL f3 0 (T))))] := hD
          refine W.widen (k := 0) (n := 0) (Nat.le_of_ble_eq_true rfl) (Nat.le_of_ble_eq_true rfl) ?_
          have hw : r72 = iI (L i : Int) := hw
          subst hw
          refine lv_imul hx hb dX2_writeTo_75 ?_
          refine kn_i (iM (c := (2 * L i : Int)) (by omega)) ?_
          refine lv_iconst (v := iI (1 : Int)) hx hb dX2_writeTo_76 rfl ?_
          refine lv_iadd hx hb dX2_writeTo_77 ?_
          refine kn_i (iA (c := (((2 * L i + 1).toNat : Nat) : Int)) (by omega)) ?_
          refine k_callv (wc := [(h3, .inr (3, [.ref a3, .int (iI (((T).length : Nat) : Int))])), (a3, .inl (cI, 900, .inl (apL f3 0 (T))))]) (wr := [(hp, .inr (2, [.ref ob, .ref og, .ref ap, .ref al, .ref aq, .int (iI ((cnt : Nat) : Int))])), (ap, .inl (cI, 300, .inl (kA P))), (al, .inl (cI, 300, .inl (kA L))), (aq, .inl (cI, 300, .inl (kA S))), (ob, .inr (3, [.ref ab, .int (iI ((nb : Nat) : Int))])), (ab, .inl (cI, 300, .inl fb)), (og, .inr (3, [.ref ag, .int (iI ((ng : Nat) : Int))])), (ag, .inl (cI, 300, .inl fg))]) (wf := fun _ => [(hp, .inr (2, [.ref ob, .ref og, .ref ap, .ref al, .ref aq, .int (iI ((cnt : Nat) : Int))])), (ap, .inl (cI, 300, .inl (kA P))), (al, .inl (cI, 300, .inl (kA L))), (aq, .inl (cI, 300, .inl (kA S))), (ob, .inr (3, [.ref ab, .int (iI ((nb : Nat) : Int))])), (ab, .inl (cI, 300, .inl fb)), (og, .inr (3, [.ref ag, .int (iI ((ng : Nat) : Int))])), (ag, .inl (cI, 300, .inl fg)), (h3, .inr (3, [.ref a3, .int (iI ((((T).length) + (vb 3 ((2 * L i + 1).toNat)).length : Nat) : Int))])), (a3, .inl (cI, 900, .inl (apL (apL f3 0 (T)) ((T).length) (vb 3 ((2 * L i + 1).toNat)))))]) hK hP hD hS hA [8, 9] [0, 1, 2, 3, 4, 5, 6, 7] [0, 1, 2, 3, 4, 5, 6, 7, 8, 9] ⟨⟨rfl, rfl, by decide⟩, rfl, by decide, by decide⟩ (fun _ => ⟨rfl, rfl⟩) (by decide) (fun hPc hDc => va_runV (As := [.int (iI (((2 * L i + 1).toNat : Nat) : Int))]) (rest := []) ⟨hx, hb, hml, hown, hts⟩ (c_Row_addVarint l D cI cZ (h := h3) (a := a3) (M := 900) (n := (T).length) (f := (apL f3 0 (T))) (v := (2 * L i + 1).toNat) (hM := by omega) (hn := by omega) (hv := by omega) _) (cwV 1 hts (kgV wm281 wm282 wm283 wm39 wmcX3_addVarint) rfl rfl rfl (by decide +kernel) ⟨Nat.le_of_ble_eq_true rfl, Nat.le_of_ble_eq_true rfl⟩) (k_preV hK hPc hDc (ci := 3) (q0 := 0) rfl rfl) rfl rfl hl.1 rfl (lv_room (Nat.le_of_ble_eq_true rfl)) dX2_writeTo_78 ⟨Nat.le_of_ble_eq_true rfl, Nat.le_of_ble_eq_true rfl⟩) (fun u H locs hw hP hD hS => ?_)
          have hP : va_P D vwCl [(hp, .inr (2, [.ref ob, .ref og, .ref ap, .ref al, .ref aq, .int (iI ((cnt : Nat) : Int))])), (ap, .inl (cI, 300, .inl (kA P))), (al, .inl (cI, 300, .inl (kA L))), (aq, .inl (cI, 300, .inl (kA S))), (ob, .inr (3, [.ref ab, .int (iI ((nb : Nat) : Int))])), (ab, .inl (cI, 300, .inl fb)), (og, .inr (3, [.ref ag, .int (iI ((ng : Nat) : Int))])), (ag, .inl (cI, 300, .inl fg)), (h3, .inr (3, [.ref a3, .int (iI ((((T).length) + (vb 3 ((2 * L i + 1).toNat)).length : Nat) : Int))])), (a3, .inl (cI, 900, .inl (apL (apL f3 0 (T)) ((T).length) (vb 3 ((2 * L i + 1).toNat)))))] H := hP
          have hD : va_D A [(hp, .inr (2, [.ref ob, .ref og, .ref ap, .ref al, .ref aq, .int (iI ((cnt : Nat) : Int))])), (ap, .inl (cI, 300, .inl (kA P))), (al, .inl (cI, 300, .inl (kA L))), (aq, .inl (cI, 300, .inl (kA S))), (ob, .inr (3, [.ref ab, .int (iI ((nb : Nat) : Int))])), (ab, .inl (cI, 300, .inl fb)), (og, .inr (3, [.ref ag, .int (iI ((ng : Nat) : Int))])), (ag, .inl (cI, 300, .inl fg)), (h3, .inr (3, [.ref a3, .int (iI ((((T).length) + (vb 3 ((2 * L i + 1).toNat)).length : Nat) : Int))])), (a3, .inl (cI, 900, .inl (apL (apL f3 0 (T)) ((T).length) (vb 3 ((2 * L i + 1).toNat)))))] := hD
          refine W.widen (k := 0) (n := 0) (Nat.le_of_ble_eq_true rfl) (Nat.le_of_ble_eq_true rfl) ?_
          rw [show (apL (apL f3 0 (T)) ((T).length) (vb 3 ((2 * L i + 1).toNat))) = (apL f3 0 (T ++ vb 3 (2 * L i + 1).toNat)) from apL0] at hP hD
          rw [show iI ((((T).length) + (vb 3 ((2 * L i + 1).toNat)).length : Nat) : Int) = iI (((T ++ vb 3 (2 * L i + 1).toNat).length : Nat) : Int) from len_v] at hP hD
          refine lv_aload_n hx hb dX2_writeTo_81 rfl (lv_at hl 1 rfl) ?_
          refine lv_aload_n hx hb dX2_writeTo_82 rfl (lv_at hl 0 rfl) ?_
          refine lv_iload_n hx hb dX2_writeTo_83 rfl (lv_at hl 3 rfl) ?_
          refine k_calli (wc := [(hp, .inr (2, [.ref ob, .ref og, .ref ap, .ref al, .ref aq, .int (iI ((cnt : Nat) : Int))])), (aq, .inl (cI, 300, .inl (kA S)))]) (wr := [(ap, .inl (cI, 300, .inl (kA P))), (al, .inl (cI, 300, .inl (kA L))), (ob, .inr (3, [.ref ab, .int (iI ((nb : Nat) : Int))])), (ab, .inl (cI, 300, .inl fb)), (og, .inr (3, [.ref ag, .int (iI ((ng : Nat) : Int))])), (ag, .inl (cI, 300, .inl fg)), (h3, .inr (3, [.ref a3, .int (iI (((T ++ vb 3 (2 * L i + 1).toNat).length : Nat) : Int))])), (a3, .inl (cI, 900, .inl (apL f3 0 (T ++ vb 3 (2 * L i + 1).toNat))))]) (wf := fun _ => [(hp, .inr (2, [.ref ob, .ref og, .ref ap, .ref al, .ref aq, .int (iI ((cnt : Nat) : Int))])), (ap, .inl (cI, 300, .inl (kA P))), (al, .inl (cI, 300, .inl (kA L))), (aq, .inl (cI, 300, .inl (kA S))), (ob, .inr (3, [.ref ab, .int (iI ((nb : Nat) : Int))])), (ab, .inl (cI, 300, .inl fb)), (og, .inr (3, [.ref ag, .int (iI ((ng : Nat) : Int))])), (ag, .inl (cI, 300, .inl fg)), (h3, .inr (3, [.ref a3, .int (iI (((T ++ vb 3 (2 * L i + 1).toNat).length : Nat) : Int))])), (a3, .inl (cI, 900, .inl (apL f3 0 (T ++ vb 3 (2 * L i + 1).toNat))))]) hK hP hD hS hA [0, 3] [1, 2, 4, 5, 6, 7, 8, 9] [8, 0, 1, 9, 2, 3, 4, 5, 6, 7] ⟨⟨rfl, rfl, by decide⟩, rfl, by decide, by decide⟩ (fun _ => ⟨rfl, rfl⟩) (by decide) (fun hPc hDc => va_runV (As := [.int (iI ((i : Nat) : Int))]) (rest := [.ref h3]) ⟨hx, hb, hml, hown, hts⟩ (c_Plan_sourcek l D cI cZ (hp := hp) (ob := ob) (og := og) (ap := ap) (al := al) (aq := aq) (cnt := cnt) (F := S) (k := i) (hc := by omega) (hk := by omega) _) (cwV 1 hts (kgV wm264 wm265 wm266 wm41 wmcX2_source) rfl rfl rfl (by decide +kernel) ⟨Nat.le_of_ble_eq_true rfl, Nat.le_of_ble_eq_true rfl⟩) (k_preV hK hPc hDc (ci := 2) (q0 := 0) rfl rfl) rfl rfl hl.1 rfl (lv_room (Nat.le_of_ble_eq_true rfl)) dX2_writeTo_84 ⟨Nat.le_of_ble_eq_true rfl, Nat.le_of_ble_eq_true rfl⟩) (fun r84 u H locs hw hP hD hS => ?_)
          have hP : va_P D vwCl [(hp, .inr (2, [.ref ob, .ref og, .ref ap, .ref al, .ref aq, .int (iI ((cnt : Nat) : Int))])), (ap, .inl (cI, 300, .inl (kA P))), (al, .inl (cI, 300, .inl (kA L))), (aq, .inl (cI, 300, .inl (kA S))), (ob, .inr (3, [.ref ab, .int (iI ((nb : Nat) : Int))])), (ab, .inl (cI, 300, .inl fb)), (og, .inr (3, [.ref ag, .int (iI ((ng : Nat) : Int))])), (ag, .inl (cI, 300, .inl fg)), (h3, .inr (3, [.ref a3, .int (iI (((T ++ vb 3 (2 * L i + 1).toNat).length : Nat) : Int))])), (a3, .inl (cI, 900, .inl (apL f3 0 (T ++ vb 3 (2 * L i + 1).toNat))))] H := hP
          have hD : va_D A [(hp, .inr (2, [.ref ob, .ref og, .ref ap, .ref al, .ref aq, .int (iI ((cnt : Nat) : Int))])), (ap, .inl (cI, 300, .inl (kA P))), (al, .inl (cI, 300, .inl (kA L))), (aq, .inl (cI, 300, .inl (kA S))), (ob, .inr (3, [.ref ab, .int (iI ((nb : Nat) : Int))])), (ab, .inl (cI, 300, .inl fb)), (og, .inr (3, [.ref ag, .int (iI ((ng : Nat) : Int))])), (ag, .inl (cI, 300, .inl fg)), (h3, .inr (3, [.ref a3, .int (iI (((T ++ vb 3 (2 * L i + 1).toNat).length : Nat) : Int))])), (a3, .inl (cI, 900, .inl (apL f3 0 (T ++ vb 3 (2 * L i + 1).toNat))))] := hD
          refine W.widen (k := 0) (n := 0) (Nat.le_of_ble_eq_true rfl) (Nat.le_of_ble_eq_true rfl) ?_
          have hw : r84 = iI (S i : Int) := hw
          subst hw
          refine lv_iload_n hx hb dX2_writeTo_87 rfl (lv_at hl 2 rfl) ?_
          refine lv_isub hx hb dX2_writeTo_88 ?_
          refine kn_i (iB (c := (S i - bh : Int)) (by omega)) ?_
          refine k_calli (wc := []) (wr := [(hp, .inr (2, [.ref ob, .ref og, .ref ap, .ref al, .ref aq, .int (iI ((cnt : Nat) : Int))])), (ap, .inl (cI, 300, .inl (kA P))), (al, .inl (cI, 300, .inl (kA L))), (aq, .inl (cI, 300, .inl (kA S))), (ob, .inr (3, [.ref ab, .int (iI ((nb : Nat) : Int))])), (ab, .inl (cI, 300, .inl fb)), (og, .inr (3, [.ref ag, .int (iI ((ng : Nat) : Int))])), (ag, .inl (cI, 300, .inl fg)), (h3, .inr (3, [.ref a3, .int (iI (((T ++ vb 3 (2 * L i + 1).toNat).length : Nat) : Int))])), (a3, .inl (cI, 900, .inl (apL f3 0 (T ++ vb 3 (2 * L i + 1).toNat))))]) (wf := fun _ => [(hp, .inr (2, [.ref ob, .ref og, .ref ap, .ref al, .ref aq, .int (iI ((cnt : Nat) : Int))])), (ap, .inl (cI, 300, .inl (kA P))), (al, .inl (cI, 300, .inl (kA L))), (aq, .inl (cI, 300, .inl (kA S))), (ob, .inr (3, [.ref ab, .int (iI ((nb : Nat) : Int))])), (ab, .inl (cI, 300, .inl fb)), (og, .inr (3, [.ref ag, .int (iI ((ng : Nat) : Int))])), (ag, .inl (cI, 300, .inl fg)), (h3, .inr (3, [.ref a3, .int (iI (((T ++ vb 3 (2 * L i + 1).toNat).length : Nat) : Int))])), (a3, .inl (cI, 900, .inl (apL f3 0 (T ++ vb 3 (2 * L i + 1).toNat))))]) hK hP hD hS hA [] [0, 1, 2, 3, 4, 5, 6, 7, 8, 9] [0, 1, 2, 3, 4, 5, 6, 7, 8, 9] ⟨⟨rfl, rfl, by decide⟩, rfl, by decide, by decide⟩ (fun _ => ⟨rfl, rfl⟩) (by decide) (fun hPc hDc => va_runS (As := [.int (iI (S i - bh : Int))]) (rest := [.ref h3]) ⟨hx, hb, hml, hown, hts⟩ (c_Plan_withoutSign l D cI cZ (z := S i - bh) (hz := by omega) _) (cwS 1 hts (kgS wm294 wm295 wm41 wmcX2_withoutSign) rfl rfl rfl (by decide +kernel) ⟨Nat.le_of_ble_eq_true rfl, Nat.le_of_ble_eq_true rfl⟩) (k_preS hK hPc hDc) rfl rfl hl.1 rfl (lv_room (Nat.le_of_ble_eq_true rfl)) dX2_writeTo_89 ⟨Nat.le_of_ble_eq_true rfl, Nat.le_of_ble_eq_true rfl⟩) (fun r89 u H locs hw hP hD hS => ?_)
          have hP : va_P D vwCl [(hp, .inr (2, [.ref ob, .ref og, .ref ap, .ref al, .ref aq, .int (iI ((cnt : Nat) : Int))])), (ap, .inl (cI, 300, .inl (kA P))), (al, .inl (cI, 300, .inl (kA L))), (aq, .inl (cI, 300, .inl (kA S))), (ob, .inr (3, [.ref ab, .int (iI ((nb : Nat) : Int))])), (ab, .inl (cI, 300, .inl fb)), (og, .inr (3, [.ref ag, .int (iI ((ng : Nat) : Int))])), (ag, .inl (cI, 300, .inl fg)), (h3, .inr (3, [.ref a3, .int (iI (((T ++ vb 3 (2 * L i + 1).toNat).length : Nat) : Int))])), (a3, .inl (cI, 900, .inl (apL f3 0 (T ++ vb 3 (2 * L i + 1).toNat))))] H := hP
          have hD : va_D A [(hp, .inr (2, [.ref ob, .ref og, .ref ap, .ref al, .ref aq, .int (iI ((cnt : Nat) : Int))])), (ap, .inl (cI, 300, .inl (kA P))), (al, .inl (cI, 300, .inl (kA L))), (aq, .inl (cI, 300, .inl (kA S))), (ob, .inr (3, [.ref ab, .int (iI ((nb : Nat) : Int))])), (ab, .inl (cI, 300, .inl fb)), (og, .inr (3, [.ref ag, .int (iI ((ng : Nat) : Int))])), (ag, .inl (cI, 300, .inl fg)), (h3, .inr (3, [.ref a3, .int (iI (((T ++ vb 3 (2 * L i + 1).toNat).length : Nat) : Int))])), (a3, .inl (cI, 900, .inl (apL f3 0 (T ++ vb 3 (2 * L i + 1).toNat))))] := hD
          refine W.widen (k := 0) (n := 0) (Nat.le_of_ble_eq_true rfl) (Nat.le_of_ble_eq_true rfl) ?_
          have hw : r89 = iI ((zz (S i - bh) : Nat) : Int) := hw
          subst hw
          refine k_callv (wc := [(h3, .inr (3, [.ref a3, .int (iI (((T ++ vb 3 (2 * L i + 1).toNat).length : Nat) : Int))])), (a3, .inl (cI, 900, .inl (apL f3 0 (T ++ vb 3 (2 * L i + 1).toNat))))]) (wr := [(hp, .inr (2, [.ref ob, .ref og, .ref ap, .ref al, .ref aq, .int (iI ((cnt : Nat) : Int))])), (ap, .inl (cI, 300, .inl (kA P))), (al, .inl (cI, 300, .inl (kA L))), (aq, .inl (cI, 300, .inl (kA S))), (ob, .inr (3, [.ref ab, .int (iI ((nb : Nat) : Int))])), (ab, .inl (cI, 300, .inl fb)), (og, .inr (3, [.ref ag, .int (iI ((ng : Nat) : Int))])), (ag, .inl (cI, 300, .inl fg))]) (wf := fun _ => [(hp, .inr (2, [.ref ob, .ref og, .ref ap, .ref al, .ref aq, .int (iI ((cnt : Nat) : Int))])), (ap, .inl (cI, 300, .inl (kA P))), (al, .inl (cI, 300, .inl (kA L))), (aq, .inl (cI, 300, .inl (kA S))), (ob, .inr (3, [.ref ab, .int (iI ((nb : Nat) : Int))])), (ab, .inl (cI, 300, .inl fb)), (og, .inr (3, [.ref ag, .int (iI ((ng : Nat) : Int))])), (ag, .inl (cI, 300, .inl fg)), (h3, .inr (3, [.ref a3, .int (iI ((((T ++ vb 3 (2 * L i + 1).toNat).length) + (vb 3 (zz (S i - bh))).length : Nat) : Int))])), (a3, .inl (cI, 900, .inl (apL (apL f3 0 (T ++ vb 3 (2 * L i + 1).toNat)) ((T ++ vb 3 (2 * L i + 1).toNat).length) (vb 3 (zz (S i - bh))))))]) hK hP hD hS hA [8, 9] [0, 1, 2, 3, 4, 5, 6, 7] [0, 1, 2, 3, 4, 5, 6, 7, 8, 9] ⟨⟨rfl, rfl, by decide⟩, rfl, by decide, by decide⟩ (fun _ => ⟨rfl, rfl⟩) (by decide) (fun hPc hDc => va_runV (As := [.int (iI ((zz (S i - bh) : Nat) : Int))]) (rest := []) ⟨hx, hb, hml, hown, hts⟩ (c_Row_addVarint l D cI cZ (h := h3) (a := a3) (M := 900) (n := (T ++ vb 3 (2 * L i + 1).toNat).length) (f := (apL f3 0 (T ++ vb 3 (2 * L i + 1).toNat))) (v := zz (S i - bh)) (hM := by omega) (hn := by rw [List.length_append]; omega) (hv := Nat.lt_trans (zz_lt (by omega)) (by decide)) _) (cwV 1 hts (kgV wm281 wm282 wm283 wm39 wmcX3_addVarint) rfl rfl rfl (by decide +kernel) ⟨Nat.le_of_ble_eq_true rfl, Nat.le_of_ble_eq_true rfl⟩) (k_preV hK hPc hDc (ci := 3) (q0 := 0) rfl rfl) rfl rfl hl.1 rfl (lv_room (Nat.le_of_ble_eq_true rfl)) dX2_writeTo_92 ⟨Nat.le_of_ble_eq_true rfl, Nat.le_of_ble_eq_true rfl⟩) (fun u H locs hw hP hD hS => ?_)
          have hP : va_P D vwCl [(hp, .inr (2, [.ref ob, .ref og, .ref ap, .ref al, .ref aq, .int (iI ((cnt : Nat) : Int))])), (ap, .inl (cI, 300, .inl (kA P))), (al, .inl (cI, 300, .inl (kA L))), (aq, .inl (cI, 300, .inl (kA S))), (ob, .inr (3, [.ref ab, .int (iI ((nb : Nat) : Int))])), (ab, .inl (cI, 300, .inl fb)), (og, .inr (3, [.ref ag, .int (iI ((ng : Nat) : Int))])), (ag, .inl (cI, 300, .inl fg)), (h3, .inr (3, [.ref a3, .int (iI ((((T ++ vb 3 (2 * L i + 1).toNat).length) + (vb 3 (zz (S i - bh))).length : Nat) : Int))])), (a3, .inl (cI, 900, .inl (apL (apL f3 0 (T ++ vb 3 (2 * L i + 1).toNat)) ((T ++ vb 3 (2 * L i + 1).toNat).length) (vb 3 (zz (S i - bh))))))] H := hP
          have hD : va_D A [(hp, .inr (2, [.ref ob, .ref og, .ref ap, .ref al, .ref aq, .int (iI ((cnt : Nat) : Int))])), (ap, .inl (cI, 300, .inl (kA P))), (al, .inl (cI, 300, .inl (kA L))), (aq, .inl (cI, 300, .inl (kA S))), (ob, .inr (3, [.ref ab, .int (iI ((nb : Nat) : Int))])), (ab, .inl (cI, 300, .inl fb)), (og, .inr (3, [.ref ag, .int (iI ((ng : Nat) : Int))])), (ag, .inl (cI, 300, .inl fg)), (h3, .inr (3, [.ref a3, .int (iI ((((T ++ vb 3 (2 * L i + 1).toNat).length) + (vb 3 (zz (S i - bh))).length : Nat) : Int))])), (a3, .inl (cI, 900, .inl (apL (apL f3 0 (T ++ vb 3 (2 * L i + 1).toNat)) ((T ++ vb 3 (2 * L i + 1).toNat).length) (vb 3 (zz (S i - bh))))))] := hD
          refine W.widen (k := 0) (n := 0) (Nat.le_of_ble_eq_true rfl) (Nat.le_of_ble_eq_true rfl) ?_
          rw [show (apL (apL f3 0 (T ++ vb 3 (2 * L i + 1).toNat)) ((T ++ vb 3 (2 * L i + 1).toNat).length) (vb 3 (zz (S i - bh)))) = (apL f3 0 (T ++ vb 3 (2 * L i + 1).toNat ++ vb 3 (zz (S i - bh)))) from apL0] at hP hD
          rw [show iI ((((T ++ vb 3 (2 * L i + 1).toNat).length) + (vb 3 (zz (S i - bh))).length : Nat) : Int) = iI (((T ++ vb 3 (2 * L i + 1).toNat ++ vb 3 (zz (S i - bh))).length : Nat) : Int) from len_v] at hP hD
          refine lv_aload_n hx hb dX2_writeTo_95 rfl (lv_at hl 0 rfl) ?_
          refine lv_iload_n hx hb dX2_writeTo_96 rfl (lv_at hl 3 rfl) ?_
          refine k_calli (wc := [(hp, .inr (2, [.ref ob, .ref og, .ref ap, .ref al, .ref aq, .int (iI ((cnt : Nat) : Int))])), (aq, .inl (cI, 300, .inl (kA S)))]) (wr := [(ap, .inl (cI, 300, .inl (kA P))), (al, .inl (cI, 300, .inl (kA L))), (ob, .inr (3, [.ref ab, .int (iI ((nb : Nat) : Int))])), (ab, .inl (cI, 300, .inl fb)), (og, .inr (3, [.ref ag, .int (iI ((ng : Nat) : Int))])), (ag, .inl (cI, 300, .inl fg)), (h3, .inr (3, [.ref a3, .int (iI (((T ++ vb 3 (2 * L i + 1).toNat ++ vb 3 (zz (S i - bh))).length : Nat) : Int))])), (a3, .inl (cI, 900, .inl (apL f3 0 (T ++ vb 3 (2 * L i + 1).toNat ++ vb 3 (zz (S i - bh))))))]) (wf := fun _ => [(hp, .inr (2, [.ref ob, .ref og, .ref ap, .ref al, .ref aq, .int (iI ((cnt : Nat) : Int))])), (ap, .inl (cI, 300, .inl (kA P))), (al, .inl (cI, 300, .inl (kA L))), (aq, .inl (cI, 300, .inl (kA S))), (ob, .inr (3, [.ref ab, .int (iI ((nb : Nat) : Int))])), (ab, .inl (cI, 300, .inl fb)), (og, .inr (3, [.ref ag, .int (iI ((ng : Nat) : Int))])), (ag, .inl (cI, 300, .inl fg)), (h3, .inr (3, [.ref a3, .int (iI (((T ++ vb 3 (2 * L i + 1).toNat ++ vb 3 (zz (S i - bh))).length : Nat) : Int))])), (a3, .inl (cI, 900, .inl (apL f3 0 (T ++ vb 3 (2 * L i + 1).toNat ++ vb 3 (zz (S i - bh))))))]) hK hP hD hS hA [0, 3] [1, 2, 4, 5, 6, 7, 8, 9] [8, 0, 1, 9, 2, 3, 4, 5, 6, 7] ⟨⟨rfl, rfl, by decide⟩, rfl, by decide, by decide⟩ (fun _ => ⟨rfl, rfl⟩) (by decide) (fun hPc hDc => va_runV (As := [.int (iI ((i : Nat) : Int))]) (rest := []) ⟨hx, hb, hml, hown, hts⟩ (c_Plan_sourcek l D cI cZ (hp := hp) (ob := ob) (og := og) (ap := ap) (al := al) (aq := aq) (cnt := cnt) (F := S) (k := i) (hc := by omega) (hk := by omega) _) (cwV 1 hts (kgV wm264 wm265 wm266 wm41 wmcX2_source) rfl rfl rfl (by decide +kernel) ⟨Nat.le_of_ble_eq_true rfl, Nat.le_of_ble_eq_true rfl⟩) (k_preV hK hPc hDc (ci := 2) (q0 := 0) rfl rfl) rfl rfl hl.1 rfl (lv_room (Nat.le_of_ble_eq_true rfl)) dX2_writeTo_97 ⟨Nat.le_of_ble_eq_true rfl, Nat.le_of_ble_eq_true rfl⟩) (fun r97 u H locs hw hP hD hS => ?_)
          have hP : va_P D vwCl [(hp, .inr (2, [.ref ob, .ref og, .ref ap, .ref al, .ref aq, .int (iI ((cnt : Nat) : Int))])), (ap, .inl (cI, 300, .inl (kA P))), (al, .inl (cI, 300, .inl (kA L))), (aq, .inl (cI, 300, .inl (kA S))), (ob, .inr (3, [.ref ab, .int (iI ((nb : Nat) : Int))])), (ab, .inl (cI, 300, .inl fb)), (og, .inr (3, [.ref ag, .int (iI ((ng : Nat) : Int))])), (ag, .inl (cI, 300, .inl fg)), (h3, .inr (3, [.ref a3, .int (iI (((T ++ vb 3 (2 * L i + 1).toNat ++ vb 3 (zz (S i - bh))).length : Nat) : Int))])), (a3, .inl (cI, 900, .inl (apL f3 0 (T ++ vb 3 (2 * L i + 1).toNat ++ vb 3 (zz (S i - bh))))))] H := hP
          have hD : va_D A [(hp, .inr (2, [.ref ob, .ref og, .ref ap, .ref al, .ref aq, .int (iI ((cnt : Nat) : Int))])), (ap, .inl (cI, 300, .inl (kA P))), (al, .inl (cI, 300, .inl (kA L))), (aq, .inl (cI, 300, .inl (kA S))), (ob, .inr (3, [.ref ab, .int (iI ((nb : Nat) : Int))])), (ab, .inl (cI, 300, .inl fb)), (og, .inr (3, [.ref ag, .int (iI ((ng : Nat) : Int))])), (ag, .inl (cI, 300, .inl fg)), (h3, .inr (3, [.ref a3, .int (iI (((T ++ vb 3 (2 * L i + 1).toNat ++ vb 3 (zz (S i - bh))).length : Nat) : Int))])), (a3, .inl (cI, 900, .inl (apL f3 0 (T ++ vb 3 (2 * L i + 1).toNat ++ vb 3 (zz (S i - bh))))))] := hD
          refine W.widen (k := 0) (n := 0) (Nat.le_of_ble_eq_true rfl) (Nat.le_of_ble_eq_true rfl) ?_
          have hw : r97 = iI (S i : Int) := hw
          subst hw
          refine lv_aload_n hx hb dX2_writeTo_100 rfl (lv_at hl 0 rfl) ?_
          refine lv_iload_n hx hb dX2_writeTo_101 rfl (lv_at hl 3 rfl) ?_
          refine k_calli (wc := [(hp, .inr (2, [.ref ob, .ref og, .ref ap, .ref al, .ref aq, .int (iI ((cnt : Nat) : Int))])), (al, .inl (cI, 300, .inl (kA L)))]) (wr := [(ap, .inl (cI, 300, .inl (kA P))), (aq, .inl (cI, 300, .inl (kA S))), (ob, .inr (3, [.ref ab, .int (iI ((nb : Nat) : Int))])), (ab, .inl (cI, 300, .inl fb)), (og, .inr (3, [.ref ag, .int (iI ((ng : Nat) : Int))])), (ag, .inl (cI, 300, .inl fg)), (h3, .inr (3, [.ref a3, .int (iI (((T ++ vb 3 (2 * L i + 1).toNat ++ vb 3 (zz (S i - bh))).length : Nat) : Int))])), (a3, .inl (cI, 900, .inl (apL f3 0 (T ++ vb 3 (2 * L i + 1).toNat ++ vb 3 (zz (S i - bh))))))]) (wf := fun _ => [(hp, .inr (2, [.ref ob, .ref og, .ref ap, .ref al, .ref aq, .int (iI ((cnt : Nat) : Int))])), (ap, .inl (cI, 300, .inl (kA P))), (al, .inl (cI, 300, .inl (kA L))), (aq, .inl (cI, 300, .inl (kA S))), (ob, .inr (3, [.ref ab, .int (iI ((nb : Nat) : Int))])), (ab, .inl (cI, 300, .inl fb)), (og, .inr (3, [.ref ag, .int (iI ((ng : Nat) : Int))])), (ag, .inl (cI, 300, .inl fg)), (h3, .inr (3, [.ref a3, .int (iI (((T ++ vb 3 (2 * L i + 1).toNat ++ vb 3 (zz (S i - bh))).length : Nat) : Int))])), (a3, .inl (cI, 900, .inl (apL f3 0 (T ++ vb 3 (2 * L i + 1).toNat ++ vb 3 (zz (S i - bh))))))]) hK hP hD hS hA [0, 2] [1, 3, 4, 5, 6, 7, 8, 9] [8, 0, 9, 1, 2, 3, 4, 5, 6, 7] ⟨⟨rfl, rfl, by decide⟩, rfl, by decide, by decide⟩ (fun _ => ⟨rfl, rfl⟩) (by decide) (fun hPc hDc => va_runV (As := [.int (iI ((i : Nat) : Int))]) (rest := [.int (iI (S i : Int))]) ⟨hx, hb, hml, hown, hts⟩ (c_Plan_lengthk l D cI cZ (hp := hp) (ob := ob) (og := og) (ap := ap) (al := al) (aq := aq) (cnt := cnt) (F := L) (k := i) (hc := by omega) (hk := by omega) _) (cwV 1 hts (kgV wm268 wm269 wm270 wm41 wmcX2_length) rfl rfl rfl (by decide +kernel) ⟨Nat.le_of_ble_eq_true rfl, Nat.le_of_ble_eq_true rfl⟩) (k_preV hK hPc hDc (ci := 2) (q0 := 0) rfl rfl) rfl rfl hl.1 rfl (lv_room (Nat.le_of_ble_eq_true rfl)) dX2_writeTo_102 ⟨Nat.le_of_ble_eq_true rfl, Nat.le_of_ble_eq_true rfl⟩) (fun r102 u H locs hw hP hD hS => ?_)
          have hP : va_P D vwCl [(hp, .inr (2, [.ref ob, .ref og, .ref ap, .ref al, .ref aq, .int (iI ((cnt : Nat) : Int))])), (ap, .inl (cI, 300, .inl (kA P))), (al, .inl (cI, 300, .inl (kA L))), (aq, .inl (cI, 300, .inl (kA S))), (ob, .inr (3, [.ref ab, .int (iI ((nb : Nat) : Int))])), (ab, .inl (cI, 300, .inl fb)), (og, .inr (3, [.ref ag, .int (iI ((ng : Nat) : Int))])), (ag, .inl (cI, 300, .inl fg)), (h3, .inr (3, [.ref a3, .int (iI (((T ++ vb 3 (2 * L i + 1).toNat ++ vb 3 (zz (S i - bh))).length : Nat) : Int))])), (a3, .inl (cI, 900, .inl (apL f3 0 (T ++ vb 3 (2 * L i + 1).toNat ++ vb 3 (zz (S i - bh))))))] H := hP
          have hD : va_D A [(hp, .inr (2, [.ref ob, .ref og, .ref ap, .ref al, .ref aq, .int (iI ((cnt : Nat) : Int))])), (ap, .inl (cI, 300, .inl (kA P))), (al, .inl (cI, 300, .inl (kA L))), (aq, .inl (cI, 300, .inl (kA S))), (ob, .inr (3, [.ref ab, .int (iI ((nb : Nat) : Int))])), (ab, .inl (cI, 300, .inl fb)), (og, .inr (3, [.ref ag, .int (iI ((ng : Nat) : Int))])), (ag, .inl (cI, 300, .inl fg)), (h3, .inr (3, [.ref a3, .int (iI (((T ++ vb 3 (2 * L i + 1).toNat ++ vb 3 (zz (S i - bh))).length : Nat) : Int))])), (a3, .inl (cI, 900, .inl (apL f3 0 (T ++ vb 3 (2 * L i + 1).toNat ++ vb 3 (zz (S i - bh))))))] := hD
          refine W.widen (k := 0) (n := 0) (Nat.le_of_ble_eq_true rfl) (Nat.le_of_ble_eq_true rfl) ?_
          have hw : r102 = iI (L i : Int) := hw
          subst hw
          refine lv_iadd hx hb dX2_writeTo_105 ?_
          refine kn_i (iA (c := (S i + L i : Int)) (by omega)) ?_
          refine lv_istore_n (lv' := [(2, .int (iI (S i + L i : Int))), (0, .ref hp), (1, .ref h3), (3, .int (iI ((i : Nat) : Int)))]) hx hb dX2_writeTo_106 rfl hl (by decide) rfl (fun ls hl => ?_)
          refine lv_goto (tgt := 139) hx hb dX2_writeTo_107 (by decide) ?_
          refine lv_iinc (v := iI ((i + 1 : Nat) : Int)) (lv' := [(3, .int (iI ((i + 1 : Nat) : Int))), (2, .int (iI (S i + L i : Int))), (0, .ref hp), (1, .ref h3)]) hx hb dX2_writeTo_139 hl (k := 3) rfl (iA (by omega)) (by decide) rfl (fun ls hl => ?_)
          refine lv_goto (tgt := 52) hx hb dX2_writeTo_142 (by decide) ?_
          have q1 : stB fg P L S i bh = vb 3 (2 * L i + 1).toNat ++ vb 3 (zz (S i - bh)) := by unfold stB; rw [if_neg c65]
          have q2 : bhN L S i bh = S i + L i := by unfold bhN; rw [if_neg c65]
          exact ih52 (i + 1) (S i + L i) (T ++ vb 3 (2 * L i + 1).toNat ++ vb 3 (zz (S i - bh))) _ _ _ (by omega) (by omega) (by omega) (by rw [← hT, wrS_s (i := i) (bh := bh) (by omega), q1, q2]; simp only [List.append_assoc]) (by rw [eP_s]; rw [q1] at hsl; simp only [List.length_append] at hsl ⊢; omega) hP hD hS (lv_sub hl [2, 3, 1, 0] rfl)
  exact lp52 _ 0 0 (hdB fb fg nb ng) _ _ _ (Nat.lt_succ_self _) (by omega) (by omega) (by rfl) (by rw [show eP P L 0 = 0 from rfl]; omega) hP hD hS (lv_sub hl [2, 3, 1, 0] rfl)
end
section
/-! applying: the patch's bytes as numbers F -/
def kN (F : Nat → Nat) : Nat → Int32 := fun i => iI ((F i : Nat) : Int)
def rK (F : Nat → Nat) (n k : Nat) : Int := if k < n then ((F k : Nat) : Int) else -1
theorem rK_in {F : Nat → Nat} {n k : Nat} (h : k < n) : rK F n k = ((F k : Nat) : Int) := by rw [rK, if_pos h]
theorem rK_lt {F : Nat → Nat} {n k : Nat} (h : rK F n k ≠ -1) : k < n := by
  unfold rK at h
  split at h
  · assumption
  · exact absurd rfl h
theorem rK_rng {F : Nat → Nat} {n k : Nat} (h : ∀ j, j < n → F j < 256) : -1 ≤ rK F n k ∧ rK F n k ≤ 255 := by
  unfold rK
  split
  · rename_i q
    have := h k q
    omega
  · omega
theorem rAt_kN {F : Nat → Nat} {n k : Nat} : rAt (kN F) n ((k : Nat) : Int) = iI (rK F n k) := by
  unfold rAt rK kN
  by_cases h : k < n
  · rw [if_pos (by omega), if_pos h]
    rfl
  · rw [if_neg (by omega), if_neg h]
/-- a number out of bytes of seven bits; -1 where it isn't one; and how far it was read -/
def rvF (F : Nat → Nat) (n : Nat) : Nat → Nat → Nat → Nat → Int × Nat
  | 0, _, _, a => (-1, a)
  | t + 1, k, acc, a => if a < n then (if F a < 128 then ((if F a = 0 ∧ 0 < k then -1 else ((acc + F a % 128 * 128 ^ k : Nat) : Int)), a + 1) else rvF F n t (k + 1) (acc + F a % 128 * 128 ^ k) (a + 1)) else (-1, a)
theorem rvF_go {F : Nat → Nat} {n k acc a : Nat} (hk : k < 4) (ha : a < n) (hb : ¬ F a < 128) : rvF F n (4 - k) k acc a = rvF F n (4 - (k + 1)) (k + 1) (acc + F a % 128 * 128 ^ k) (a + 1) := by
  rw [show 4 - k = (4 - (k + 1)) + 1 by omega, rvF, if_pos ha, if_neg hb]
theorem rvF_out {F : Nat → Nat} {n k acc a : Nat} (hk : k < 4) (ha : ¬ a < n) : rvF F n (4 - k) k acc a = (-1, a) := by
  rw [show 4 - k = (4 - (k + 1)) + 1 by omega, rvF, if_neg ha]
theorem rvF_z {F : Nat → Nat} {n k acc a : Nat} (hk : k < 4) (ha : a < n) (hb : F a = 0) (h0 : 0 < k) : rvF F n (4 - k) k acc a = (-1, a + 1) := by
  rw [show 4 - k = (4 - (k + 1)) + 1 by omega, rvF, if_pos ha, if_pos (by omega), if_pos ⟨hb, h0⟩]
theorem rvF_v {F : Nat → Nat} {n k acc a : Nat} (hk : k < 4) (ha : a < n) (hb : F a < 128) (h0 : ¬ (F a = 0 ∧ 0 < k)) : rvF F n (4 - k) k acc a = (((acc + F a % 128 * 128 ^ k : Nat) : Int), a + 1) := by
  rw [show 4 - k = (4 - (k + 1)) + 1 by omega, rvF, if_pos ha, if_pos hb, if_neg h0]
theorem pw_le {k : Nat} (h : k ≤ 4) : 128 ^ k ≤ 268435456 := by
  have : k = 0 ∨ k = 1 ∨ k = 2 ∨ k = 3 ∨ k = 4 := by omega
  rcases this with rfl | rfl | rfl | rfl | rfl <;> decide
theorem pw_acc {k acc b : Nat} (h : acc < 128 ^ k) : acc + b % 128 * 128 ^ k < 128 ^ (k + 1) := by
  have h1 : b % 128 + 1 ≤ 128 := Nat.mod_lt _ (by decide)
  have h2 : (b % 128 + 1) * 128 ^ k ≤ 128 * 128 ^ k := Nat.mul_le_mul_right _ h1
  rw [Nat.pow_succ, Nat.mul_comm (128 ^ k) 128]
  rw [Nat.add_mul, Nat.one_mul] at h2
  omega
theorem rvF_rng {F : Nat → Nat} {n : Nat} : ∀ (t k acc a : Nat), t + k ≤ 4 → acc < 128 ^ k → -1 ≤ (rvF F n t k acc a).1 ∧ (rvF F n t k acc a).1 < 268435456 ∧ a ≤ (rvF F n t k acc a).2 ∧ (a ≤ n → (rvF F n t k acc a).2 ≤ n) := by
  intro t
  induction t with
  | zero => intro k acc a h1 h2; exact ⟨by simp [rvF], by simp [rvF], by simp [rvF], fun h => by simpa [rvF] using h⟩
  | succ t ih =>
    intro k acc a h1 h2
    have h3 := pw_acc (b := F a) h2
    have h4 := pw_le (k := k + 1) (by omega)
    unfold rvF
    split
    · split
      · split
        · exact ⟨by omega, by omega, Nat.le_succ _, fun _ => by omega⟩
        · exact ⟨by omega, by omega, Nat.le_succ _, fun _ => by omega⟩
      · obtain ⟨g1, g2, g3, g4⟩ := ih (k + 1) (acc + F a % 128 * 128 ^ k) (a + 1) (by omega) h3
        exact ⟨g1, g2, by omega, fun _ => g4 (by omega)⟩
    · exact ⟨by omega, by omega, Nat.le_refl _, fun h => h⟩
/-- the whole number from a on -/
abbrev rv (F : Nat → Nat) (n a : Nat) : Int × Nat := rvF F n 4 0 0 a
theorem rv_rng (F : Nat → Nat) (n a : Nat) : -1 ≤ (rv F n a).1 ∧ (rv F n a).1 < 268435456 ∧ a ≤ (rv F n a).2 ∧ (a ≤ n → (rv F n a).2 ≤ n) := rvF_rng 4 0 0 a (by decide) (by decide)
theorem b_vor {k acc b : Nat} (hk : k < 4) (ha : acc < 128 ^ k) (hb : b < 128) : iI ((acc : Nat) : Int) ||| (iI ((b : Nat) : Int) <<< (iI ((7 * k : Nat) : Int) &&& 31)) = iI ((acc + b * 128 ^ k : Nat) : Int) := by
  have e : ∀ j, j < 4 → ((iI ((7 * j : Nat) : Int) &&& 31).toBitVec.smod 32).toNat = 7 * j := by decide +kernel
  have p7 : 128 ^ k = 2 ^ (7 * k) := by rw [Nat.pow_mul]
  have h4 : 128 ^ k * 128 ≤ 268435456 := by
    have := pw_le (k := k + 1) (by omega)
    rwa [Nat.pow_succ] at this
  have hbk : b * 2 ^ (7 * k) < 2 ^ 31 := by
    rw [← p7]
    have : b * 128 ^ k ≤ 127 * 128 ^ k := Nat.mul_le_mul_right _ (by omega)
    omega
  have s1 : iI ((b : Nat) : Int) <<< (iI ((7 * k : Nat) : Int) &&& 31) = nI (b * 2 ^ (7 * k)) := by
    rw [← iI_nI b]
    exact pk_shlN _ (7 * k) (e k hk) (by omega)
  rw [s1, ← iI_nI, ← iI_nI]
  apply Int32.toBitVec.inj
  rw [Int32.toBitVec_or]
  apply BitVec.eq_of_toNat_eq
  have ha2 : acc < 2 ^ (7 * k) := by rw [← p7]; exact ha
  have hs : acc + b * 128 ^ k < 2 ^ 31 := by
    rw [p7]
    have : acc + b * 128 ^ k < 128 ^ (k + 1) := by
      have := pw_acc (b := b) ha
      rwa [Nat.mod_eq_of_lt hb] at this
    rw [Nat.pow_succ, p7] at this
    rw [p7] at h4
    omega
  have q4 : 128 ^ k ≤ 268435456 := pw_le (by omega)
  rw [BitVec.toNat_or, pk_tn (by omega), pk_tn (by omega), pk_tn (by omega), p7]
  have := Nat.shiftLeft_add_eq_or_of_lt ha2 b
  rw [Nat.shiftLeft_eq] at this
  rw [Nat.or_comm, ← this, Nat.add_comm]
/-- a word out of four bytes -/
def rdW (F : Nat → Nat) (a : Nat) : Nat → Int32
  | 0 => iI 0
  | k + 1 => (rdW F a k <<< (iI (8 : Int) &&& 31)) ||| (iI ((F (a + k) : Nat) : Int) &&& iI (255 : Int))
theorem b_and1 {v : Nat} (h : v < 2147483648) : iI ((v : Nat) : Int) &&& iI (1 : Int) = iI ((v % 2 : Nat) : Int) := by
  rw [← iI_nI, ← iI_nI]
  exact pk_andN (by omega) 1 (by decide)
theorem b_ushr1 {v : Nat} (h : v < 2147483648) : ((iI ((v : Nat) : Int)).toUInt32 >>> ((iI (1 : Int)).toUInt32 &&& Int32.toUInt32 31)).toInt32 = iI ((v / 2 : Nat) : Int) := by
  rw [← iI_nI, ← iI_nI]
  exact pk_ushrN (by omega) (iI 1) 1 (by decide)
/-- with its sign -/
def uz (z : Nat) : Int := if z % 2 = 0 then ((z / 2 : Nat) : Int) else -((z / 2 : Nat) : Int) - 1
/-- a step that adds, one that copies, the next one, all of them: what is told, how far it was read, what lies behind, the output -/
abbrev ApR : Type := Int × Nat × Nat × List Int32
def adF (F : Nat → Nat) (n3 : Nat) (ds : Int) (a bh : Nat) (T : List Int32) (len : Nat) : ApR := if n3 - a < len then (-1, a, bh, T) else if ds - T.length < len then (-6, a, bh, T) else (0, a + len, bh, T ++ sl (kN F) a len)
def cpF (F : Nat → Nat) (n3 : Nat) (f1 : Nat → Int32) (n1 : Nat) (ds : Int) (a bh : Nat) (T : List Int32) (len : Nat) : ApR :=
  if (rv F n3 a).1 = -1 then (-1, (rv F n3 a).2, bh, T)
  else if (bh : Int) + uz (rv F n3 a).1.toNat < 0 ∨ (n1 : Int) - ((bh : Int) + uz (rv F n3 a).1.toNat) < len then (-5, (rv F n3 a).2, bh, T)
  else if ds - T.length < len then (-6, (rv F n3 a).2, bh, T)
  else (0, (rv F n3 a).2, ((bh : Int) + uz (rv F n3 a).1.toNat).toNat + len, T ++ sl f1 ((bh : Int) + uz (rv F n3 a).1.toNat).toNat len)
def nxF (F : Nat → Nat) (n3 : Nat) (f1 : Nat → Int32) (n1 : Nat) (ds : Int) (a bh : Nat) (T : List Int32) : ApR :=
  if (rv F n3 a).1 = -1 then (-1, (rv F n3 a).2, bh, T)
  else if (rv F n3 a).1.toNat / 2 = 0 then (-1, (rv F n3 a).2, bh, T)
  else if (rv F n3 a).1.toNat % 2 = 0 then adF F n3 ds (rv F n3 a).2 bh T ((rv F n3 a).1.toNat / 2)
  else cpF F n3 f1 n1 ds (rv F n3 a).2 bh T ((rv F n3 a).1.toNat / 2)
def alF (F : Nat → Nat) (n3 : Nat) (f1 : Nat → Int32) (n1 : Nat) (ds : Int) : Nat → Nat → Nat → List Int32 → ApR
  | 0, a, bh, T => (0, a, bh, T)
  | t + 1, a, bh, T => if a < n3 then (if (nxF F n3 f1 n1 ds a bh T).1 = 0 then alF F n3 f1 n1 ds t (nxF F n3 f1 n1 ds a bh T).2.1 (nxF F n3 f1 n1 ds a bh T).2.2.1 (nxF F n3 f1 n1 ds a bh T).2.2.2 else nxF F n3 f1 n1 ds a bh T) else (0, a, bh, T)
/-- what such a step keeps -/
def ApW (n3 n1 : Nat) (ds : Int) (x : ApR) : Prop := (-8 ≤ x.1 ∧ x.1 ≤ 0) ∧ x.2.1 ≤ n3 ∧ x.2.2.1 ≤ n1 ∧ (x.2.2.2.length : Int) ≤ ds
theorem adF_w {F : Nat → Nat} {n3 n1 : Nat} {ds : Int} {a bh : Nat} {T : List Int32} {len : Nat} (h1 : a ≤ n3) (h2 : bh ≤ n1) (h3 : (T.length : Int) ≤ ds) : ApW n3 n1 ds (adF F n3 ds a bh T len) := by
  unfold adF
  split
  · exact ⟨⟨by omega, by omega⟩, h1, h2, h3⟩
  · split
    · exact ⟨⟨by omega, by omega⟩, h1, h2, h3⟩
    · refine ⟨⟨by omega, by omega⟩, ?_, h2, ?_⟩
      · show a + len ≤ n3
        omega
      · show ((T ++ sl (kN F) a len).length : Int) ≤ ds
        rw [List.length_append, sl_len]
        omega
theorem cpF_w {F : Nat → Nat} {n3 n1 : Nat} {f1 : Nat → Int32} {ds : Int} {a bh : Nat} {T : List Int32} {len : Nat} (h1 : a ≤ n3) (h2 : bh ≤ n1) (h3 : (T.length : Int) ≤ ds) : ApW n3 n1 ds (cpF F n3 f1 n1 ds a bh T len) := by
  have hr := (rv_rng F n3 a).2.2.2 h1
  unfold cpF
  split
  · exact ⟨⟨by omega, by omega⟩, hr, h2, h3⟩
  · split
    · exact ⟨⟨by omega, by omega⟩, hr, h2, h3⟩
    · split
      · exact ⟨⟨by omega, by omega⟩, hr, h2, h3⟩
      · refine ⟨⟨by omega, by omega⟩, hr, ?_, ?_⟩
        · show _ + len ≤ n1
          omega
        · show ((T ++ sl f1 _ len).length : Int) ≤ ds
          rw [List.length_append, sl_len]
          omega
theorem nxF_w {F : Nat → Nat} {n3 n1 : Nat} {f1 : Nat → Int32} {ds : Int} {a bh : Nat} {T : List Int32} (h1 : a ≤ n3) (h2 : bh ≤ n1) (h3 : (T.length : Int) ≤ ds) : ApW n3 n1 ds (nxF F n3 f1 n1 ds a bh T) := by
  have hr := (rv_rng F n3 a).2.2.2 h1
  unfold nxF
  split
  · exact ⟨⟨by omega, by omega⟩, hr, h2, h3⟩
  · split
    · exact ⟨⟨by omega, by omega⟩, hr, h2, h3⟩
    · split
      · exact adF_w hr h2 h3
      · exact cpF_w hr h2 h3
theorem alF_go {F : Nat → Nat} {n3 n1 t : Nat} {f1 : Nat → Int32} {ds : Int} {a bh : Nat} {T : List Int32} (ht : t < 900) (h : a < n3) (h0 : (nxF F n3 f1 n1 ds a bh T).1 = 0) : alF F n3 f1 n1 ds (900 - t) a bh T = alF F n3 f1 n1 ds (900 - (t + 1)) (nxF F n3 f1 n1 ds a bh T).2.1 (nxF F n3 f1 n1 ds a bh T).2.2.1 (nxF F n3 f1 n1 ds a bh T).2.2.2 := by
  rw [show 900 - t = (900 - (t + 1)) + 1 by omega, alF, if_pos h, if_pos h0]
theorem alF_no {F : Nat → Nat} {n3 n1 t : Nat} {f1 : Nat → Int32} {ds : Int} {a bh : Nat} {T : List Int32} (ht : t < 900) (h : a < n3) (h0 : ¬ (nxF F n3 f1 n1 ds a bh T).1 = 0) : alF F n3 f1 n1 ds (900 - t) a bh T = nxF F n3 f1 n1 ds a bh T := by
  rw [show 900 - t = (900 - (t + 1)) + 1 by omega, alF, if_pos h, if_neg h0]
theorem alF_e {F : Nat → Nat} {n3 n1 t : Nat} {f1 : Nat → Int32} {ds : Int} {a bh : Nat} {T : List Int32} (h : t = 0 ∨ ¬ a < n3) : alF F n3 f1 n1 ds t a bh T = (0, a, bh, T) := by
  cases t with
  | zero => rfl
  | succ t => rw [alF, if_neg (by omega)]
theorem b_and1' {z : Int} (h : 0 ≤ z ∧ z < 2147483648) : iI z &&& iI (1 : Int) = iI ((z.toNat % 2 : Nat) : Int) := by
  obtain ⟨n, rfl⟩ := Int.eq_ofNat_of_zero_le h.1
  exact b_and1 (by omega)
theorem b_ushr1' {z : Int} (h : 0 ≤ z ∧ z < 2147483648) : ((iI z).toUInt32 >>> ((iI (1 : Int)).toUInt32 &&& Int32.toUInt32 31)).toInt32 = iI ((z.toNat / 2 : Nat) : Int) := by
  obtain ⟨n, rfl⟩ := Int.eq_ofNat_of_zero_le h.1
  exact b_ushr1 (by omega)
theorem uz_rng {z : Nat} (h : z < 268435456) : -134217729 ≤ uz z ∧ uz z ≤ 134217728 := by
  unfold uz
  split <;> omega
theorem al_step {F : Nat → Nat} {n3 n1 t : Nat} {f1 : Nat → Int32} {ds : Int} {a bh : Nat} {T : List Int32} {x : ApR} (ht : t < 900) (h : a < n3) (hR : alF F n3 f1 n1 ds (900 - t) a bh T = x) :
    ((nxF F n3 f1 n1 ds a bh T).1 = 0 ∧ alF F n3 f1 n1 ds (900 - (t + 1)) (nxF F n3 f1 n1 ds a bh T).2.1 (nxF F n3 f1 n1 ds a bh T).2.2.1 (nxF F n3 f1 n1 ds a bh T).2.2.2 = x) ∨ (¬ (nxF F n3 f1 n1 ds a bh T).1 = 0 ∧ nxF F n3 f1 n1 ds a bh T = x) := by
  by_cases h0 : (nxF F n3 f1 n1 ds a bh T).1 = 0
  · exact Or.inl ⟨h0, by rw [← alF_go ht h h0]; exact hR⟩
  · exact Or.inr ⟨h0, by rw [← alF_no ht h h0]; exact hR⟩
/-- the check of a list -/
def dgL (T : List Int32) : Int32 := T.foldl dgS (iI 0)
theorem dg_rl (f : Nat → Int32) (n : Nat) : dg f n = dgL (rl f n) := by
  induction n with
  | zero => rfl
  | succ n ih =>
    have e : rl f (n + 1) = rl f n ++ [f n] := by
      unfold rl
      rw [sl_succ, Nat.zero_add]
    rw [e, dg, ih, dgL, dgL, List.foldl_append]
    rfl
theorem rl_ap0 (f : Nat → Int32) (T : List Int32) : rl (apL f 0 T) T.length = T := by
  have := rl_ap f 0 T
  rw [Nat.zero_add] at this
  rw [this]
  rfl
theorem dg_ap0 (f : Nat → Int32) (T : List Int32) : dg (apL f 0 T) T.length = dgL T := by rw [dg_rl, rl_ap0]
def jdF (ds : Int) (dc : Int32) (T : List Int32) : Int := if (T.length : Int) < ds then -7 else if dgL T = dc then 0 else -8
/-- the head: what is told, how far it was read, the size and the check that are due -/
def hdF (F : Nat → Nat) (n3 : Nat) (f1 : Nat → Int32) (n1 : Nat) (ds : Int) (dc : Int32) : Int × Nat × Int × Int32 :=
  if (rv F n3 0).1 = -1 then (-1, (rv F n3 0).2, ds, dc)
  else if (rv F n3 (rv F n3 0).2).1 = -1 ∨ n3 - (rv F n3 (rv F n3 0).2).2 < 8 then (-1, (rv F n3 (rv F n3 0).2).2, (rv F n3 (rv F n3 0).2).1, dc)
  else (if ¬ (rv F n3 0).1 = n1 then -2 else if ¬ rdW F (rv F n3 (rv F n3 0).2).2 4 = dg f1 n1 then -3 else if 300 < (rv F n3 (rv F n3 0).2).1 then -4 else 0, (rv F n3 (rv F n3 0).2).2 + 8, (rv F n3 (rv F n3 0).2).1, rdW F ((rv F n3 (rv F n3 0).2).2 + 4) 4)
def apRun (F : Nat → Nat) (n3 : Nat) (f1 : Nat → Int32) (n1 : Nat) : Int × List Int32 :=
  if ¬ (hdF F n3 f1 n1 0 0).1 = 0 then ((hdF F n3 f1 n1 0 0).1, [])
  else if ¬ (alF F n3 f1 n1 (hdF F n3 f1 n1 0 0).2.2.1 900 (hdF F n3 f1 n1 0 0).2.1 0 []).1 = 0 then ((alF F n3 f1 n1 (hdF F n3 f1 n1 0 0).2.2.1 900 (hdF F n3 f1 n1 0 0).2.1 0 []).1, [])
  else if ¬ jdF (hdF F n3 f1 n1 0 0).2.2.1 (hdF F n3 f1 n1 0 0).2.2.2 (alF F n3 f1 n1 (hdF F n3 f1 n1 0 0).2.2.1 900 (hdF F n3 f1 n1 0 0).2.1 0 []).2.2.2 = 0 then (jdF (hdF F n3 f1 n1 0 0).2.2.1 (hdF F n3 f1 n1 0 0).2.2.2 (alF F n3 f1 n1 (hdF F n3 f1 n1 0 0).2.2.1 900 (hdF F n3 f1 n1 0 0).2.1 0 []).2.2.2, [])
  else (((alF F n3 f1 n1 (hdF F n3 f1 n1 0 0).2.2.1 900 (hdF F n3 f1 n1 0 0).2.1 0 []).2.2.2.length : Int), (alF F n3 f1 n1 (hdF F n3 f1 n1 0 0).2.2.1 900 (hdF F n3 f1 n1 0 0).2.1 0 []).2.2.2)
/-- what was due before doesn't matter -/
theorem hdF_any (F : Nat → Nat) (n3 : Nat) (f1 : Nat → Int32) (n1 : Nat) (ds : Int) (dc : Int32) : (hdF F n3 f1 n1 ds dc).1 = (hdF F n3 f1 n1 0 0).1 ∧ ((hdF F n3 f1 n1 ds dc).1 = 0 → hdF F n3 f1 n1 ds dc = hdF F n3 f1 n1 0 0) := by
  unfold hdF
  by_cases h1 : (rv F n3 0).1 = -1
  · rw [if_pos h1, if_pos h1]
    exact ⟨rfl, fun h => absurd (show (-1 : Int) = 0 from h) (by decide)⟩
  · rw [if_neg h1, if_neg h1]
    by_cases h2 : (rv F n3 (rv F n3 0).2).1 = -1 ∨ n3 - (rv F n3 (rv F n3 0).2).2 < 8
    · rw [if_pos h2, if_pos h2]
      exact ⟨rfl, fun h => absurd (show (-1 : Int) = 0 from h) (by decide)⟩
    · rw [if_neg h2, if_neg h2]
      exact ⟨rfl, fun _ => rfl⟩
theorem hdF_w {F : Nat → Nat} {n3 : Nat} {f1 : Nat → Int32} {n1 : Nat} {ds : Int} {dc : Int32} : (-4 ≤ (hdF F n3 f1 n1 ds dc).1 ∧ (hdF F n3 f1 n1 ds dc).1 ≤ 0) ∧ ((hdF F n3 f1 n1 ds dc).1 = 0 → (hdF F n3 f1 n1 ds dc).2.1 ≤ n3 ∧ 0 ≤ (hdF F n3 f1 n1 ds dc).2.2.1 ∧ (hdF F n3 f1 n1 ds dc).2.2.1 ≤ 300) := by
  have r1 := rv_rng F n3 0
  have r2 := rv_rng F n3 (rv F n3 0).2
  unfold hdF
  by_cases h1 : (rv F n3 0).1 = -1
  · rw [if_pos h1]
    exact ⟨by dsimp only; omega, fun h => absurd (show (-1 : Int) = 0 from h) (by decide)⟩
  · rw [if_neg h1]
    by_cases h2 : (rv F n3 (rv F n3 0).2).1 = -1 ∨ n3 - (rv F n3 (rv F n3 0).2).2 < 8
    · rw [if_pos h2]
      exact ⟨by dsimp only; omega, fun h => absurd (show (-1 : Int) = 0 from h) (by decide)⟩
    · rw [if_neg h2]
      dsimp only
      split
      · exact ⟨by decide, fun h => absurd h (by decide)⟩
      · split
        · exact ⟨by decide, fun h => absurd h (by decide)⟩
        · split
          · exact ⟨by decide, fun h => absurd h (by decide)⟩
          · exact ⟨by decide, fun _ => by omega⟩
theorem alF_w {F : Nat → Nat} {n3 n1 : Nat} {f1 : Nat → Int32} {ds : Int} : ∀ (t a bh : Nat) (T : List Int32), a ≤ n3 → bh ≤ n1 → (T.length : Int) ≤ ds → ApW n3 n1 ds (alF F n3 f1 n1 ds t a bh T) := by
  intro t
  induction t with
  | zero => intro a bh T h1 h2 h3; exact ⟨⟨by simp [alF], by simp [alF]⟩, h1, h2, h3⟩
  | succ t ih =>
    intro a bh T h1 h2 h3
    have hn := nxF_w (F := F) (f1 := f1) h1 h2 h3
    unfold alF
    split
    · split
      · exact ih _ _ _ hn.2.1 hn.2.2.1 hn.2.2.2
      · exact hn
    · exact ⟨by dsimp only; omega, h1, h2, h3⟩
theorem jdF_w (ds : Int) (dc : Int32) (T : List Int32) : -8 ≤ jdF ds dc T ∧ jdF ds dc T ≤ 0 := by
  unfold jdF
  split
  · omega
  · split <;> omega
end
section
abbrev rm_c_Row_atN : Room := { frames := 0, cells := 0, slots := 0, locals := 0 }
set_option maxHeartbeats 4000000 in
set_option maxRecDepth 100000 in
theorem c_Row_atN (l : Launch) (D : va_G) (cI cZ : ClassId) (h : Nat) (a : Nat) (M : Nat) (n : Nat) (F : Nat → Nat) (k : Nat) (hM : M ≤ 900) (hn : n ≤ M) (hk : k < 2000) : MI l yX3_at wsX3_at rm_c_Row_atN D (kT cI cZ) [.ref h, .int (iI ((k : Nat) : Int))] [(h, .inr (3, [.ref a, .int (iI ((n : Nat) : Int))])), (a, .inl (cI, M, .inl (kN F)))] (fun (r : Int32) (_ : Unit) => r = iI (rK F n k : Int)) (fun (u : Unit) => match u with | _ => [(h, .inr (3, [.ref a, .int (iI ((n : Nat) : Int))])), (a, .inl (cI, M, .inl (kN F)))]) 0 0 := by
  intro sz
  refine k_of (cc := cX3_at) (maxL := 2) (ret := (some .int)) (by decide) rfl (Nat.le_of_ble_eq_true rfl) ?_
  intro p e s m args below meth c A Q hAe hQ hx hb hr hml hts hown hlocks hnm hP hK hD hS hA ls hl
  have hl : lv_has ls 2 [(0, .ref h), (1, .int (iI ((k : Nat) : Int)))] := hl
  have hi_X3 : ∀ w ∈ u_ws RX3 TX3 2, w ∈ wsX3_at := fun w h => km (ikX3 w h)
  have fl21 := hts _ (km wm63)
  have fl15 := hts _ (km wm62)
  refine lv_iload_n hx hb dX3_at_0 rfl (lv_at hl 1 rfl) ?_
  refine lv_if_lt (tgt := 21) hx hb dX3_at_1 (by decide) (fun c1 => ?_) (fun c1 => ?_)
  · skip
    have c1 := iI_ltT (a := ((k : Nat) : Int)) (b := (0 : Int)) c1 (by omega)
    omega
  · skip
    have c1 := iI_ltF (a := ((k : Nat) : Int)) (b := (0 : Int)) c1 (by omega)
    refine lv_iload_n hx hb dX3_at_4 rfl (lv_at hl 1 rfl) ?_
    refine lv_aload_n hx hb dX3_at_5 rfl (lv_at hl 0 rfl) ?_
    refine va_get (D := D) (ci := 3) (v := .int (iI ((n : Nat) : Int))) (C := RX3) (T := TX3) (N := 2) hx hb hts hi_X3 hown hK hP 0 rfl rfl 1 (by decide) fl21 (fun _ h9 => h9) rfl dX3_at_6 ?_
    refine lv_icmp_ge (tgt := 21) hx hb dX3_at_9 (by decide) (fun c9 => ?_) (fun c9 => ?_)
    · skip
      have c9 := iI_leT (a := ((n : Nat) : Int)) (b := ((k : Nat) : Int)) c9 (by omega)
      refine lv_iconst (v := iI (-1 : Int)) hx hb dX3_at_21 rfl ?_
      exact k_iret () hx hb hr hlocks hK hP hD hS [0, 1] (by decide) rfl rfl (by unfold rK; first | rw [if_pos (by omega)] | rw [if_neg (by omega)]) hAe hQ dX3_at_22
    · skip
      have c9 := iI_leF (a := ((n : Nat) : Int)) (b := ((k : Nat) : Int)) c9 (by omega)
      refine lv_aload_n hx hb dX3_at_12 rfl (lv_at hl 0 rfl) ?_
      refine va_get (D := D) (ci := 3) (v := .ref a) (C := RX3) (T := TX3) (N := 2) hx hb hts hi_X3 hown hK hP 0 rfl rfl 0 (by decide) fl15 (fun _ h9 => h9) rfl dX3_at_13 ?_
      refine lv_iload_n hx hb dX3_at_16 rfl (lv_at hl 1 rfl) ?_
      refine k_iald hx hb hK hP 1 0 rfl rfl k (by omega) dX3_at_17 ?_
      refine kn_i (y := iI ((F k : Nat) : Int)) (rfl) ?_
      refine lv_goto (tgt := 22) hx hb dX3_at_18 (by decide) ?_
      exact k_iret () hx hb hr hlocks hK hP hD hS [0, 1] (by decide) rfl rfl (by unfold rK; first | rw [if_pos (by omega)] | rw [if_neg (by omega)]) hAe hQ dX3_at_22

abbrev rm_c_Row_atNk : Room := { frames := 0, cells := 0, slots := 0, locals := 0 }
set_option maxHeartbeats 4000000 in
set_option maxRecDepth 100000 in
theorem c_Row_atNk (l : Launch) (D : va_G) (cI cZ : ClassId) (h : Nat) (a : Nat) (M : Nat) (n : Nat) (F : Nat → Nat) (k : Nat) (hM : M ≤ 900) (hn : n ≤ M) (hk : k < n) : MI l yX3_at wsX3_at rm_c_Row_atNk D (kT cI cZ) [.ref h, .int (iI ((k : Nat) : Int))] [(h, .inr (3, [.ref a, .int (iI ((n : Nat) : Int))])), (a, .inl (cI, M, .inl (kN F)))] (fun (r : Int32) (_ : Unit) => r = iI ((F k : Nat) : Int)) (fun (u : Unit) => match u with | _ => [(h, .inr (3, [.ref a, .int (iI ((n : Nat) : Int))])), (a, .inl (cI, M, .inl (kN F)))]) 0 0 := by
  intro sz
  refine k_of (cc := cX3_at) (maxL := 2) (ret := (some .int)) (by decide) rfl (Nat.le_of_ble_eq_true rfl) ?_
  intro p e s m args below meth c A Q hAe hQ hx hb hr hml hts hown hlocks hnm hP hK hD hS hA ls hl
  have hl : lv_has ls 2 [(0, .ref h), (1, .int (iI ((k : Nat) : Int)))] := hl
  have hi_X3 : ∀ w ∈ u_ws RX3 TX3 2, w ∈ wsX3_at := fun w h => km (ikX3 w h)
  have fl21 := hts _ (km wm63)
  have fl15 := hts _ (km wm62)
  refine lv_iload_n hx hb dX3_at_0 rfl (lv_at hl 1 rfl) ?_
  refine lv_if_lt (tgt := 21) hx hb dX3_at_1 (by decide) (fun c1 => ?_) (fun c1 => ?_)
  · skip
    have c1 := iI_ltT (a := ((k : Nat) : Int)) (b := (0 : Int)) c1 (by omega)
    omega
  · skip
    have c1 := iI_ltF (a := ((k : Nat) : Int)) (b := (0 : Int)) c1 (by omega)
    refine lv_iload_n hx hb dX3_at_4 rfl (lv_at hl 1 rfl) ?_
    refine lv_aload_n hx hb dX3_at_5 rfl (lv_at hl 0 rfl) ?_
    refine va_get (D := D) (ci := 3) (v := .int (iI ((n : Nat) : Int))) (C := RX3) (T := TX3) (N := 2) hx hb hts hi_X3 hown hK hP 0 rfl rfl 1 (by decide) fl21 (fun _ h9 => h9) rfl dX3_at_6 ?_
    refine lv_icmp_ge (tgt := 21) hx hb dX3_at_9 (by decide) (fun c9 => ?_) (fun c9 => ?_)
    · skip
      have c9 := iI_leT (a := ((n : Nat) : Int)) (b := ((k : Nat) : Int)) c9 (by omega)
      omega
    · skip
      have c9 := iI_leF (a := ((n : Nat) : Int)) (b := ((k : Nat) : Int)) c9 (by omega)
      refine lv_aload_n hx hb dX3_at_12 rfl (lv_at hl 0 rfl) ?_
      refine va_get (D := D) (ci := 3) (v := .ref a) (C := RX3) (T := TX3) (N := 2) hx hb hts hi_X3 hown hK hP 0 rfl rfl 0 (by decide) fl15 (fun _ h9 => h9) rfl dX3_at_13 ?_
      refine lv_iload_n hx hb dX3_at_16 rfl (lv_at hl 1 rfl) ?_
      refine k_iald hx hb hK hP 1 0 rfl rfl k (by omega) dX3_at_17 ?_
      refine kn_i (y := iI ((F k : Nat) : Int)) (rfl) ?_
      refine lv_goto (tgt := 22) hx hb dX3_at_18 (by decide) ?_
      exact k_iret () hx hb hr hlocks hK hP hD hS [0, 1] (by decide) rfl rfl (rfl) hAe hQ dX3_at_22

abbrev rm_c_Applier_unread : Room := { frames := 1, cells := 0, slots := 0, locals := 20 }
set_option maxHeartbeats 4000000 in
set_option maxRecDepth 100000 in
theorem c_Applier_unread (l : Launch) (D : va_G) (cI cZ : ClassId) (ha : Nat) (h3 : Nat) (h1 : Nat) (h4 : Nat) (a0 : Nat) (b0 : Nat) (ds : Int) (dc : Int32) (a3 : Nat) (n3 : Nat) (F : Nat → Nat) (hat : a0 ≤ n3) (hn3 : n3 ≤ 900) : MI l yX0_unread wsX0_unread rm_c_Applier_unread D (kT cI cZ) [.ref ha] [(ha, .inr (0, [.ref h3, .ref h1, .ref h4, .int (iI ((a0 : Nat) : Int)), .int (iI ((b0 : Nat) : Int)), .int (iI (ds : Int)), .int dc])), (h3, .inr (3, [.ref a3, .int (iI ((n3 : Nat) : Int))])), (a3, .inl (cI, 900, .inl (kN F)))] (fun (r : Int32) (_ : Unit) => r = iI (((n3 - a0) : Nat) : Int)) (fun (u : Unit) => match u with | _ => [(ha, .inr (0, [.ref h3, .ref h1, .ref h4, .int (iI ((a0 : Nat) : Int)), .int (iI ((b0 : Nat) : Int)), .int (iI (ds : Int)), .int dc])), (h3, .inr (3, [.ref a3, .int (iI ((n3 : Nat) : Int))])), (a3, .inl (cI, 900, .inl (kN F)))]) 0 0 := by
  intro sz
  refine k_of (cc := cX0_unread) (maxL := 1) (ret := (some .int)) (by decide) rfl (Nat.le_of_ble_eq_true rfl) ?_
  intro p e s m args below meth c A Q hAe hQ hx hb hr hml hts hown hlocks hnm hP hK hD hS hA ls hl
  have hl : lv_has ls 1 [(0, .ref ha)] := hl
  have hi_X0 : ∀ w ∈ u_ws RX0 TX0 7, w ∈ wsX0_unread := fun w h => km (ikX0 w h)
  have fl9 := hts _ (km wm103)
  have fl21 := hts _ (km wm106)
  refine lv_aload_n hx hb dX0_unread_0 rfl (lv_at hl 0 rfl) ?_
  refine va_get (D := D) (ci := 0) (v := .ref h3) (C := RX0) (T := TX0) (N := 7) hx hb hts hi_X0 hown hK hP 0 rfl rfl 0 (by decide) fl9 (fun _ h9 => h9) rfl dX0_unread_1 ?_
  refine k_calli (wc := [(h3, .inr (3, [.ref a3, .int (iI ((n3 : Nat) : Int))])), (a3, .inl (cI, 900, .inl (kN F)))]) (wr := [(ha, .inr (0, [.ref h3, .ref h1, .ref h4, .int (iI ((a0 : Nat) : Int)), .int (iI ((b0 : Nat) : Int)), .int (iI (ds : Int)), .int dc]))]) (wf := fun _ => [(ha, .inr (0, [.ref h3, .ref h1, .ref h4, .int (iI ((a0 : Nat) : Int)), .int (iI ((b0 : Nat) : Int)), .int (iI (ds : Int)), .int dc])), (h3, .inr (3, [.ref a3, .int (iI ((n3 : Nat) : Int))])), (a3, .inl (cI, 900, .inl (kN F)))]) hK hP hD hS hA [1, 2] [0] [0, 1, 2] ⟨⟨rfl, rfl, by decide⟩, rfl, by decide, by decide⟩ (fun _ => ⟨rfl, rfl⟩) (by decide) (fun hPc hDc => va_runV (As := []) (rest := []) ⟨hx, hb, hml, hown, hts⟩ (c_Row_count l D cI cZ (h := h3) (a := a3) (M := 900) (n := n3) (f := (kN F))  _) (cwV 0 hts (kgV wm358 wm193 wm194 wm39 wmcX3_count) rfl rfl rfl (by decide +kernel) ⟨Nat.le_of_ble_eq_true rfl, Nat.le_of_ble_eq_true rfl⟩) (k_preV hK hPc hDc (ci := 3) (q0 := 0) rfl rfl) rfl rfl hl.1 rfl (lv_room (Nat.le_of_ble_eq_true rfl)) dX0_unread_4 ⟨Nat.le_of_ble_eq_true rfl, Nat.le_of_ble_eq_true rfl⟩) (fun r4 u H locs hw hP hD hS => ?_)
  have hP : va_P D vwCl [(ha, .inr (0, [.ref h3, .ref h1, .ref h4, .int (iI ((a0 : Nat) : Int)), .int (iI ((b0 : Nat) : Int)), .int (iI (ds : Int)), .int dc])), (h3, .inr (3, [.ref a3, .int (iI ((n3 : Nat) : Int))])), (a3, .inl (cI, 900, .inl (kN F)))] H := hP
  have hD : va_D A [(ha, .inr (0, [.ref h3, .ref h1, .ref h4, .int (iI ((a0 : Nat) : Int)), .int (iI ((b0 : Nat) : Int)), .int (iI (ds : Int)), .int dc])), (h3, .inr (3, [.ref a3, .int (iI ((n3 : Nat) : Int))])), (a3, .inl (cI, 900, .inl (kN F)))] := hD
  refine W.widen (k := 0) (n := 0) (Nat.le_of_ble_eq_true rfl) (Nat.le_of_ble_eq_true rfl) ?_
  have hw : r4 = iI ((n3 : Nat) : Int) := hw
  subst hw
  refine lv_aload_n hx hb dX0_unread_7 rfl (lv_at hl 0 rfl) ?_
  refine va_get (D := D) (ci := 0) (v := .int (iI ((a0 : Nat) : Int))) (C := RX0) (T := TX0) (N := 7) hx hb hts hi_X0 hown hK hP 0 rfl rfl 3 (by decide) fl21 (fun _ h9 => h9) rfl dX0_unread_8 ?_
  refine lv_isub hx hb dX0_unread_11 ?_
  refine kn_i (iB (c := (((n3 - a0) : Nat) : Int)) (by omega)) ?_
  exact k_iret () hx hb hr hlocks hK hP hD hS [0, 1, 2] (by decide) rfl rfl (rfl) hAe hQ dX0_unread_12

abbrev rm_c_Applier_readVarint : Room := { frames := 1, cells := 0, slots := 0, locals := 21 }
set_option maxHeartbeats 4000000 in
set_option maxRecDepth 100000 in
theorem c_Applier_readVarint (l : Launch) (D : va_G) (cI cZ : ClassId) (ha : Nat) (h3 : Nat) (h1 : Nat) (h4 : Nat) (a0 : Nat) (b0 : Nat) (ds : Int) (dc : Int32) (a3 : Nat) (n3 : Nat) (F : Nat → Nat) (hat : a0 ≤ n3) (hn3 : n3 ≤ 900) (hB : ∀ j, j < n3 → F j < 256) : MI l yX0_readVarint wsX0_readVarint rm_c_Applier_readVarint D (kT cI cZ) [.ref ha] [(ha, .inr (0, [.ref h3, .ref h1, .ref h4, .int (iI ((a0 : Nat) : Int)), .int (iI ((b0 : Nat) : Int)), .int (iI (ds : Int)), .int dc])), (h3, .inr (3, [.ref a3, .int (iI ((n3 : Nat) : Int))])), (a3, .inl (cI, 900, .inl (kN F)))] (fun (r : Int32) (_ : Unit) => r = iI ((rv F n3 a0).1 : Int)) (fun (u : Unit) => match u with | _ => [(ha, .inr (0, [.ref h3, .ref h1, .ref h4, .int (iI (((rv F n3 a0).2 : Nat) : Int)), .int (iI ((b0 : Nat) : Int)), .int (iI (ds : Int)), .int dc])), (h3, .inr (3, [.ref a3, .int (iI ((n3 : Nat) : Int))])), (a3, .inl (cI, 900, .inl (kN F)))]) 0 0 := by
  intro sz
  refine k_of (cc := cX0_readVarint) (maxL := 4) (ret := (some .int)) (by decide) rfl (Nat.le_of_ble_eq_true rfl) ?_
  intro p e s m args below meth c A Q hAe hQ hx hb hr hml hts hown hlocks hnm hP hK hD hS hA ls hl
  have hl : lv_has ls 4 [(0, .ref ha)] := hl
  have hi_X0 : ∀ w ∈ u_ws RX0 TX0 7, w ∈ wsX0_readVarint := fun w h => km (ikX0 w h)
  have fl9 := hts _ (km wm103)
  have fl21 := hts _ (km wm106)
  refine lv_iconst (v := iI ((0 : Nat) : Int)) hx hb dX0_readVarint_0 rfl ?_
  refine lv_istore_n (lv' := [(1, .int (iI ((0 : Nat) : Int))), (0, .ref ha)]) hx hb dX0_readVarint_1 rfl hl (by decide) rfl (fun ls hl => ?_)
  refine lv_iconst (v := iI ((0 : Nat) : Int)) hx hb dX0_readVarint_2 rfl ?_
  refine lv_istore_n (lv' := [(2, .int (iI ((0 : Nat) : Int))), (1, .int (iI ((0 : Nat) : Int))), (0, .ref ha)]) hx hb dX0_readVarint_3 rfl hl (by decide) rfl (fun ls hl => ?_)
  have lp4 : ∀ (fu : Nat) (k : Nat) (acc : Nat) (a9 : Nat) (H : Heap) (locs : List Loc) (ls : Array Slot), 4 - k < fu → (k ≤ 4) → (acc < 128 ^ k) → (a9 ≤ n3) → (rvF F n3 (4 - k) k acc a9 = rv F n3 a0) → va_P D vwCl [(ha, .inr (0, [.ref h3, .ref h1, .ref h4, .int (iI ((a9 : Nat) : Int)), .int (iI ((b0 : Nat) : Int)), .int (iI (ds : Int)), .int dc])), (h3, .inr (3, [.ref a3, .int (iI ((n3 : Nat) : Int))])), (a3, .inl (cI, 900, .inl (kN F)))] H → va_D A [(ha, .inr (0, [.ref h3, .ref h1, .ref h4, .int (iI ((a9 : Nat) : Int)), .int (iI ((b0 : Nat) : Int)), .int (iI (ds : Int)), .int dc])), (h3, .inr (3, [.ref a3, .int (iI ((n3 : Nat) : Int))])), (a3, .inl (cI, 900, .inl (kN F)))] → va_S A s.heap H locs → lv_has ls 4 [(0, .ref ha), (1, .int (iI ((acc : Nat) : Int))), (2, .int (iI ((k : Nat) : Int)))] → W p l e rm_c_Applier_readVarint s m args below meth c H locs 0 0 Q (F0 m 4 ls []) := by
    intro fu
    induction fu with
    | zero => intro k acc a9 H locs ls hfu; exact absurd hfu (Nat.not_lt_zero _)
    | succ fu ih4 =>
      intro k acc a9 H locs ls hfu hk hacc ha9 hR hP hD hS hl
      refine lv_iload_n hx hb dX0_readVarint_4 rfl (lv_at hl 2 rfl) ?_
      refine lv_iconst (v := iI (4 : Int)) hx hb dX0_readVarint_5 rfl ?_
      refine lv_icmp_ge (tgt := 77) hx hb dX0_readVarint_6 (by decide) (fun c6 => ?_) (fun c6 => ?_)
      · skip
        have c6 := iI_leT (a := (4 : Int)) (b := ((k : Nat) : Int)) c6 (by omega)
        refine lv_iconst (v := iI (-1 : Int)) hx hb dX0_readVarint_77 rfl ?_
        have hE : rv F n3 a0 = (-1, a9) := by rw [← hR, show 4 - k = 0 by omega]; rfl
        rw [show iI ((a9 : Nat) : Int) = iI (((rv F n3 a0).2 : Nat) : Int) from by rw [hE]] at hP hD
        exact k_iret () hx hb hr hlocks hK hP hD hS [0, 1, 2] (by decide) rfl rfl (by rw [hE]) hAe hQ dX0_readVarint_78
      · skip
        have c6 := iI_leF (a := (4 : Int)) (b := ((k : Nat) : Int)) c6 (by omega)
        refine lv_aload_n hx hb dX0_readVarint_9 rfl (lv_at hl 0 rfl) ?_
        refine va_get (D := D) (ci := 0) (v := .ref h3) (C := RX0) (T := TX0) (N := 7) hx hb hts hi_X0 hown hK hP 0 rfl rfl 0 (by decide) fl9 (fun _ h9 => h9) rfl dX0_readVarint_10 ?_
        refine lv_aload_n hx hb dX0_readVarint_13 rfl (lv_at hl 0 rfl) ?_
        refine va_get (D := D) (ci := 0) (v := .int (iI ((a9 : Nat) : Int))) (C := RX0) (T := TX0) (N := 7) hx hb hts hi_X0 hown hK hP 0 rfl rfl 3 (by decide) fl21 (fun _ h9 => h9) rfl dX0_readVarint_14 ?_
        refine k_calli (wc := [(h3, .inr (3, [.ref a3, .int (iI ((n3 : Nat) : Int))])), (a3, .inl (cI, 900, .inl (kN F)))]) (wr := [(ha, .inr (0, [.ref h3, .ref h1, .ref h4, .int (iI ((a9 : Nat) : Int)), .int (iI ((b0 : Nat) : Int)), .int (iI (ds : Int)), .int dc]))]) (wf := fun _ => [(ha, .inr (0, [.ref h3, .ref h1, .ref h4, .int (iI ((a9 : Nat) : Int)), .int (iI ((b0 : Nat) : Int)), .int (iI (ds : Int)), .int dc])), (h3, .inr (3, [.ref a3, .int (iI ((n3 : Nat) : Int))])), (a3, .inl (cI, 900, .inl (kN F)))]) hK hP hD hS hA [1, 2] [0] [0, 1, 2] ⟨⟨rfl, rfl, by decide⟩, rfl, by decide, by decide⟩ (fun _ => ⟨rfl, rfl⟩) (by decide) (fun hPc hDc => va_runV (As := [.int (iI ((a9 : Nat) : Int))]) (rest := []) ⟨hx, hb, hml, hown, hts⟩ (c_Row_atN l D cI cZ (h := h3) (a := a3) (M := 900) (n := n3) (F := F) (k := a9) (hM := by omega) (hn := by omega) (hk := by omega) _) (cwV 1 hts (kgV wm353 wm225 wm226 wm39 wmcX3_at) rfl rfl rfl (by decide +kernel) ⟨Nat.le_of_ble_eq_true rfl, Nat.le_of_ble_eq_true rfl⟩) (k_preV hK hPc hDc (ci := 3) (q0 := 0) rfl rfl) rfl rfl hl.1 rfl (lv_room (Nat.le_of_ble_eq_true rfl)) dX0_readVarint_17 ⟨Nat.le_of_ble_eq_true rfl, Nat.le_of_ble_eq_true rfl⟩) (fun r17 u H locs hw hP hD hS => ?_)
        have hP : va_P D vwCl [(ha, .inr (0, [.ref h3, .ref h1, .ref h4, .int (iI ((a9 : Nat) : Int)), .int (iI ((b0 : Nat) : Int)), .int (iI (ds : Int)), .int dc])), (h3, .inr (3, [.ref a3, .int (iI ((n3 : Nat) : Int))])), (a3, .inl (cI, 900, .inl (kN F)))] H := hP
        have hD : va_D A [(ha, .inr (0, [.ref h3, .ref h1, .ref h4, .int (iI ((a9 : Nat) : Int)), .int (iI ((b0 : Nat) : Int)), .int (iI (ds : Int)), .int dc])), (h3, .inr (3, [.ref a3, .int (iI ((n3 : Nat) : Int))])), (a3, .inl (cI, 900, .inl (kN F)))] := hD
        refine W.widen (k := 0) (n := 0) (Nat.le_of_ble_eq_true rfl) (Nat.le_of_ble_eq_true rfl) ?_
        have hw : r17 = iI (rK F n3 a9 : Int) := hw
        subst hw
        have hrk := rK_rng (n := n3) (k := a9) hB
        refine lv_istore_n (lv' := [(3, .int (iI (rK F n3 a9 : Int))), (0, .ref ha), (1, .int (iI ((acc : Nat) : Int))), (2, .int (iI ((k : Nat) : Int)))]) hx hb dX0_readVarint_20 rfl hl (by decide) rfl (fun ls hl => ?_)
        refine lv_iload_n hx hb dX0_readVarint_21 rfl (lv_at hl 0 rfl) ?_
        refine lv_iconst (v := iI (-1 : Int)) hx hb dX0_readVarint_22 rfl ?_
        refine lv_icmp_ne (tgt := 28) hx hb dX0_readVarint_23 (by decide) (fun c23 => ?_) (fun c23 => ?_)
        · skip
          have c23 := iI_eqF (a := (rK F n3 a9 : Int)) (b := (-1 : Int)) c23 (by omega)
          have hlt := rK_lt c23
          have hv := rK_in (F := F) hlt
          have hb9 := hB a9 hlt
          refine lv_aload_n hx hb dX0_readVarint_28 rfl (lv_at hl 1 rfl) ?_
          refine lv_dup hx hb dX0_readVarint_29 rfl ?_
          refine va_get (D := D) (ci := 0) (v := .int (iI ((a9 : Nat) : Int))) (C := RX0) (T := TX0) (N := 7) hx hb hts hi_X0 hown hK hP 0 rfl rfl 3 (by decide) fl21 (fun _ h9 => h9) rfl dX0_readVarint_30 ?_
          refine lv_iconst (v := iI (1 : Int)) hx hb dX0_readVarint_33 rfl ?_
          refine lv_iadd hx hb dX0_readVarint_34 ?_
          refine kn_i (iA (c := ((a9 + 1 : Nat) : Int)) (by omega)) ?_
          refine va_put (D := D) (ci := 0) (v := .int (iI ((a9 + 1 : Nat) : Int))) (ty := .int) (C := RX0) (T := TX0) (N := 7) hx hb hts hi_X0 tyX0 tyX0_ok nmX0 hown hK hP hD hS 0 rfl rfl 3 (by decide) fl21 (fun _ h9 => h9) rfl (by decide +kernel) rfl rfl (Nat.le_of_ble_eq_true rfl) dX0_readVarint_35 (fun H locs hP hD hS => ?_)
          have hP : va_P D vwCl [(ha, .inr (0, [.ref h3, .ref h1, .ref h4, .int (iI ((a9 + 1 : Nat) : Int)), .int (iI ((b0 : Nat) : Int)), .int (iI (ds : Int)), .int dc])), (h3, .inr (3, [.ref a3, .int (iI ((n3 : Nat) : Int))])), (a3, .inl (cI, 900, .inl (kN F)))] H := hP
          have hD : va_D A [(ha, .inr (0, [.ref h3, .ref h1, .ref h4, .int (iI ((a9 + 1 : Nat) : Int)), .int (iI ((b0 : Nat) : Int)), .int (iI (ds : Int)), .int dc])), (h3, .inr (3, [.ref a3, .int (iI ((n3 : Nat) : Int))])), (a3, .inl (cI, 900, .inl (kN F)))] := hD
          refine lv_iload_n hx hb dX0_readVarint_38 rfl (lv_at hl 2 rfl) ?_
          refine lv_iload_n hx hb dX0_readVarint_39 rfl (lv_at hl 0 rfl) ?_
          refine lv_bipush (v := iI (127 : Int)) hx hb dX0_readVarint_40 (by decide) ?_
          refine lv_iand hx hb dX0_readVarint_42 ?_
          refine kn_i (y := iI ((F a9 % 128 : Nat) : Int)) (by rw [hv]; exact b_and127 (by omega)) ?_
          refine lv_bipush (v := iI (7 : Int)) hx hb dX0_readVarint_43 (by decide) ?_
          refine lv_iload_n hx hb dX0_readVarint_45 rfl (lv_at hl 3 rfl) ?_
          refine lv_imul hx hb dX0_readVarint_46 ?_
          refine kn_i (iM (c := ((7 * k : Nat) : Int)) (by omega)) ?_
          refine lv_ishl hx hb dX0_readVarint_47 ?_
          refine lv_ior hx hb dX0_readVarint_48 ?_
          refine kn_i (y := iI ((acc + F a9 % 128 * 128 ^ k : Nat) : Int)) (b_vor (by omega) hacc (Nat.mod_lt _ (by decide))) ?_
          refine lv_istore_n (lv' := [(1, .int (iI ((acc + F a9 % 128 * 128 ^ k : Nat) : Int))), (3, .int (iI (rK F n3 a9 : Int))), (0, .ref ha), (2, .int (iI ((k : Nat) : Int)))]) hx hb dX0_readVarint_49 rfl hl (by decide) rfl (fun ls hl => ?_)
          refine lv_iload_n hx hb dX0_readVarint_50 rfl (lv_at hl 1 rfl) ?_
          refine lv_sipush (v := iI (128 : Int)) hx hb dX0_readVarint_51 (by decide) ?_
          refine lv_icmp_ge (tgt := 71) hx hb dX0_readVarint_54 (by decide) (fun c54 => ?_) (fun c54 => ?_)
          · skip
            have c54 := iI_leT (a := (128 : Int)) (b := (rK F n3 a9 : Int)) c54 (by omega)
            refine lv_iinc (v := iI ((k + 1 : Nat) : Int)) (lv' := [(2, .int (iI ((k + 1 : Nat) : Int))), (1, .int (iI ((acc + F a9 % 128 * 128 ^ k : Nat) : Int))), (3, .int (iI (rK F n3 a9 : Int))), (0, .ref ha)]) hx hb dX0_readVarint_71 hl (k := 3) rfl (iA (by omega)) (by decide) rfl (fun ls hl => ?_)
            refine lv_goto (tgt := 4) hx hb dX0_readVarint_74 (by decide) ?_
            exact ih4 (k + 1) (acc + F a9 % 128 * 128 ^ k) (a9 + 1) _ _ _ (by omega) (by omega) (pw_acc hacc) (by omega) (by rw [← rvF_go (by omega) hlt (by omega)]; exact hR) hP hD hS (lv_sub hl [3, 1, 0] rfl)
          · skip
            have c54 := iI_leF (a := (128 : Int)) (b := (rK F n3 a9 : Int)) c54 (by omega)
            refine lv_iload_n hx hb dX0_readVarint_57 rfl (lv_at hl 1 rfl) ?_
            refine lv_if_ne (tgt := 69) hx hb dX0_readVarint_58 (by decide) (fun c58 => ?_) (fun c58 => ?_)
            · skip
              have c58 := iI_eqF (a := (rK F n3 a9 : Int)) (b := (0 : Int)) c58 (by omega)
              refine lv_iload_n hx hb dX0_readVarint_69 rfl (lv_at hl 0 rfl) ?_
              have hE : rv F n3 a0 = (((acc + F a9 % 128 * 128 ^ k : Nat) : Int), a9 + 1) := by rw [← hR, rvF_v (by omega) hlt (by omega) (by omega)]
              rw [show iI ((a9 + 1 : Nat) : Int) = iI (((rv F n3 a0).2 : Nat) : Int) from by rw [hE]] at hP hD
              exact k_iret () hx hb hr hlocks hK hP hD hS [0, 1, 2] (by decide) rfl rfl (by rw [hE]) hAe hQ dX0_readVarint_70
            · skip
              have c58 := iI_eqT (a := (rK F n3 a9 : Int)) (b := (0 : Int)) c58 (by omega)
              refine lv_iload_n hx hb dX0_readVarint_61 rfl (lv_at hl 3 rfl) ?_
              refine lv_if_le (tgt := 69) hx hb dX0_readVarint_62 (by decide) (fun c62 => ?_) (fun c62 => ?_)
              · skip
                have c62 := iI_leT (a := ((k : Nat) : Int)) (b := (0 : Int)) c62 (by omega)
                refine lv_iload_n hx hb dX0_readVarint_69 rfl (lv_at hl 0 rfl) ?_
                have hE : rv F n3 a0 = (((acc + F a9 % 128 * 128 ^ k : Nat) : Int), a9 + 1) := by rw [← hR, rvF_v (by omega) hlt (by omega) (by omega)]
                rw [show iI ((a9 + 1 : Nat) : Int) = iI (((rv F n3 a0).2 : Nat) : Int) from by rw [hE]] at hP hD
                exact k_iret () hx hb hr hlocks hK hP hD hS [0, 1, 2] (by decide) rfl rfl (by rw [hE]) hAe hQ dX0_readVarint_70
              · skip
                have c62 := iI_leF (a := ((k : Nat) : Int)) (b := (0 : Int)) c62 (by omega)
                refine lv_iconst (v := iI (-1 : Int)) hx hb dX0_readVarint_65 rfl ?_
                refine lv_goto (tgt := 70) hx hb dX0_readVarint_66 (by decide) ?_
                have hE : rv F n3 a0 = (-1, a9 + 1) := by rw [← hR, rvF_z (by omega) hlt (by omega) (by omega)]
                rw [show iI ((a9 + 1 : Nat) : Int) = iI (((rv F n3 a0).2 : Nat) : Int) from by rw [hE]] at hP hD
                exact k_iret () hx hb hr hlocks hK hP hD hS [0, 1, 2] (by decide) rfl rfl (by rw [hE]) hAe hQ dX0_readVarint_70
        · skip
          have c23 := iI_eqT (a := (rK F n3 a9 : Int)) (b := (-1 : Int)) c23 (by omega)
          refine lv_iconst (v := iI (-1 : Int)) hx hb dX0_readVarint_26 rfl ?_
          have hE : rv F n3 a0 = (-1, a9) := by rw [← hR, rvF_out (by omega) (fun h => by rw [rK_in h] at c23; omega)]
          rw [show iI ((a9 : Nat) : Int) = iI (((rv F n3 a0).2 : Nat) : Int) from by rw [hE]] at hP hD
          exact k_iret () hx hb hr hlocks hK hP hD hS [0, 1, 2] (by decide) rfl rfl (by rw [hE]) hAe hQ dX0_readVarint_27
  exact lp4 _ 0 0 a0 _ _ _ (Nat.lt_succ_self _) (by omega) (by decide) (by omega) (by rfl) hP hD hS (lv_sub hl [2, 1, 0] rfl)

abbrev rm_c_Applier_readWord : Room := { frames := 1, cells := 0, slots := 0, locals := 21 }
set_option maxHeartbeats 4000000 in
set_option maxRecDepth 100000 in
theorem c_Applier_readWord (l : Launch) (D : va_G) (cI cZ : ClassId) (ha : Nat) (h3 : Nat) (h1 : Nat) (h4 : Nat) (a0 : Nat) (b0 : Nat) (ds : Int) (dc : Int32) (a3 : Nat) (n3 : Nat) (F : Nat → Nat) (ha4 : a0 + 4 ≤ n3) (hn3 : n3 ≤ 900) : MI l yX0_readWord wsX0_readWord rm_c_Applier_readWord D (kT cI cZ) [.ref ha] [(ha, .inr (0, [.ref h3, .ref h1, .ref h4, .int (iI ((a0 : Nat) : Int)), .int (iI ((b0 : Nat) : Int)), .int (iI (ds : Int)), .int dc])), (h3, .inr (3, [.ref a3, .int (iI ((n3 : Nat) : Int))])), (a3, .inl (cI, 900, .inl (kN F)))] (fun (r : Int32) (_ : Unit) => r = (rdW F a0 4)) (fun (u : Unit) => match u with | _ => [(ha, .inr (0, [.ref h3, .ref h1, .ref h4, .int (iI ((a0 + 4 : Nat) : Int)), .int (iI ((b0 : Nat) : Int)), .int (iI (ds : Int)), .int dc])), (h3, .inr (3, [.ref a3, .int (iI ((n3 : Nat) : Int))])), (a3, .inl (cI, 900, .inl (kN F)))]) 0 0 := by
  intro sz
  refine k_of (cc := cX0_readWord) (maxL := 3) (ret := (some .int)) (by decide) rfl (Nat.le_of_ble_eq_true rfl) ?_
  intro p e s m args below meth c A Q hAe hQ hx hb hr hml hts hown hlocks hnm hP hK hD hS hA ls hl
  have hl : lv_has ls 3 [(0, .ref ha)] := hl
  have hi_X0 : ∀ w ∈ u_ws RX0 TX0 7, w ∈ wsX0_readWord := fun w h => km (ikX0 w h)
  have fl9 := hts _ (km wm103)
  have fl21 := hts _ (km wm106)
  refine lv_iconst (v := iI (0 : Int)) hx hb dX0_readWord_0 rfl ?_
  refine lv_istore_n (lv' := [(1, .int (iI (0 : Int))), (0, .ref ha)]) hx hb dX0_readWord_1 rfl hl (by decide) rfl (fun ls hl => ?_)
  refine lv_iconst (v := iI (0 : Int)) hx hb dX0_readWord_2 rfl ?_
  refine lv_istore_n (lv' := [(2, .int (iI (0 : Int))), (1, .int (iI (0 : Int))), (0, .ref ha)]) hx hb dX0_readWord_3 rfl hl (by decide) rfl (fun ls hl => ?_)
  refine lv_iload_n hx hb dX0_readWord_4 rfl (lv_at hl 0 rfl) ?_
  refine lv_iconst (v := iI (4 : Int)) hx hb dX0_readWord_5 rfl ?_
  refine lv_icmp_ge (tgt := 46) hx hb dX0_readWord_6 (by decide) (fun c6 => ?_) (fun c6 => ?_)
  · skip
    have c6 := iI_leT (a := (4 : Int)) (b := (0 : Int)) c6 (by omega)
    omega
  · skip
    have c6 := iI_leF (a := (4 : Int)) (b := (0 : Int)) c6 (by omega)
    refine lv_iload_n hx hb dX0_readWord_9 rfl (lv_at hl 1 rfl) ?_
    refine lv_bipush (v := iI (8 : Int)) hx hb dX0_readWord_10 (by decide) ?_
    refine lv_ishl hx hb dX0_readWord_12 ?_
    refine lv_aload_n hx hb dX0_readWord_13 rfl (lv_at hl 2 rfl) ?_
    refine va_get (D := D) (ci := 0) (v := .ref h3) (C := RX0) (T := TX0) (N := 7) hx hb hts hi_X0 hown hK hP 0 rfl rfl 0 (by decide) fl9 (fun _ h9 => h9) rfl dX0_readWord_14 ?_
    refine lv_aload_n hx hb dX0_readWord_17 rfl (lv_at hl 2 rfl) ?_
    refine va_get (D := D) (ci := 0) (v := .int (iI ((a0 : Nat) : Int))) (C := RX0) (T := TX0) (N := 7) hx hb hts hi_X0 hown hK hP 0 rfl rfl 3 (by decide) fl21 (fun _ h9 => h9) rfl dX0_readWord_18 ?_
    refine k_calli (wc := [(h3, .inr (3, [.ref a3, .int (iI ((n3 : Nat) : Int))])), (a3, .inl (cI, 900, .inl (kN F)))]) (wr := [(ha, .inr (0, [.ref h3, .ref h1, .ref h4, .int (iI ((a0 : Nat) : Int)), .int (iI ((b0 : Nat) : Int)), .int (iI (ds : Int)), .int dc]))]) (wf := fun _ => [(ha, .inr (0, [.ref h3, .ref h1, .ref h4, .int (iI ((a0 : Nat) : Int)), .int (iI ((b0 : Nat) : Int)), .int (iI (ds : Int)), .int dc])), (h3, .inr (3, [.ref a3, .int (iI ((n3 : Nat) : Int))])), (a3, .inl (cI, 900, .inl (kN F)))]) hK hP hD hS hA [1, 2] [0] [0, 1, 2] ⟨⟨rfl, rfl, by decide⟩, rfl, by decide, by decide⟩ (fun _ => ⟨rfl, rfl⟩) (by decide) (fun hPc hDc => va_runV (As := [.int (iI ((a0 : Nat) : Int))]) (rest := [.int ((iI (0 : Int)) <<< ((iI (8 : Int)) &&& 31))]) ⟨hx, hb, hml, hown, hts⟩ (c_Row_atNk l D cI cZ (h := h3) (a := a3) (M := 900) (n := n3) (F := F) (k := a0) (hM := by omega) (hn := by omega) (hk := by omega) _) (cwV 1 hts (kgV wm353 wm225 wm226 wm39 wmcX3_at) rfl rfl rfl (by decide +kernel) ⟨Nat.le_of_ble_eq_true rfl, Nat.le_of_ble_eq_true rfl⟩) (k_preV hK hPc hDc (ci := 3) (q0 := 0) rfl rfl) rfl rfl hl.1 rfl (lv_room (Nat.le_of_ble_eq_true rfl)) dX0_readWord_21 ⟨Nat.le_of_ble_eq_true rfl, Nat.le_of_ble_eq_true rfl⟩) (fun r21 u H locs hw hP hD hS => ?_)
    have hP : va_P D vwCl [(ha, .inr (0, [.ref h3, .ref h1, .ref h4, .int (iI ((a0 : Nat) : Int)), .int (iI ((b0 : Nat) : Int)), .int (iI (ds : Int)), .int dc])), (h3, .inr (3, [.ref a3, .int (iI ((n3 : Nat) : Int))])), (a3, .inl (cI, 900, .inl (kN F)))] H := hP
    have hD : va_D A [(ha, .inr (0, [.ref h3, .ref h1, .ref h4, .int (iI ((a0 : Nat) : Int)), .int (iI ((b0 : Nat) : Int)), .int (iI (ds : Int)), .int dc])), (h3, .inr (3, [.ref a3, .int (iI ((n3 : Nat) : Int))])), (a3, .inl (cI, 900, .inl (kN F)))] := hD
    refine W.widen (k := 0) (n := 0) (Nat.le_of_ble_eq_true rfl) (Nat.le_of_ble_eq_true rfl) ?_
    have hw : r21 = iI ((F a0 : Nat) : Int) := hw
    subst hw
    refine lv_sipush (v := iI (255 : Int)) hx hb dX0_readWord_24 (by decide) ?_
    refine lv_iand hx hb dX0_readWord_27 ?_
    refine lv_ior hx hb dX0_readWord_28 ?_
    refine kn_i (y := (rdW F a0 1)) (rfl) ?_
    refine lv_istore_n (lv' := [(1, .int (rdW F a0 1)), (2, .int (iI (0 : Int))), (0, .ref ha)]) hx hb dX0_readWord_29 rfl hl (by decide) rfl (fun ls hl => ?_)
    refine lv_aload_n hx hb dX0_readWord_30 rfl (lv_at hl 2 rfl) ?_
    refine lv_dup hx hb dX0_readWord_31 rfl ?_
    refine va_get (D := D) (ci := 0) (v := .int (iI ((a0 : Nat) : Int))) (C := RX0) (T := TX0) (N := 7) hx hb hts hi_X0 hown hK hP 0 rfl rfl 3 (by decide) fl21 (fun _ h9 => h9) rfl dX0_readWord_32 ?_
    refine lv_iconst (v := iI (1 : Int)) hx hb dX0_readWord_35 rfl ?_
    refine lv_iadd hx hb dX0_readWord_36 ?_
    refine kn_i (iA (c := ((a0 + 1 : Nat) : Int)) (by omega)) ?_
    refine va_put (D := D) (ci := 0) (v := .int (iI ((a0 + 1 : Nat) : Int))) (ty := .int) (C := RX0) (T := TX0) (N := 7) hx hb hts hi_X0 tyX0 tyX0_ok nmX0 hown hK hP hD hS 0 rfl rfl 3 (by decide) fl21 (fun _ h9 => h9) rfl (by decide +kernel) rfl rfl (Nat.le_of_ble_eq_true rfl) dX0_readWord_37 (fun H locs hP hD hS => ?_)
    have hP : va_P D vwCl [(ha, .inr (0, [.ref h3, .ref h1, .ref h4, .int (iI ((a0 + 1 : Nat) : Int)), .int (iI ((b0 : Nat) : Int)), .int (iI (ds : Int)), .int dc])), (h3, .inr (3, [.ref a3, .int (iI ((n3 : Nat) : Int))])), (a3, .inl (cI, 900, .inl (kN F)))] H := hP
    have hD : va_D A [(ha, .inr (0, [.ref h3, .ref h1, .ref h4, .int (iI ((a0 + 1 : Nat) : Int)), .int (iI ((b0 : Nat) : Int)), .int (iI (ds : Int)), .int dc])), (h3, .inr (3, [.ref a3, .int (iI ((n3 : Nat) : Int))])), (a3, .inl (cI, 900, .inl (kN F)))] := hD
    refine lv_iinc (v := iI (1 : Int)) (lv' := [(2, .int (iI (1 : Int))), (1, .int (rdW F a0 1)), (0, .ref ha)]) hx hb dX0_readWord_40 hl (k := 1) rfl (iA (by omega)) (by decide) rfl (fun ls hl => ?_)
    refine lv_goto (tgt := 4) hx hb dX0_readWord_43 (by decide) ?_
    refine lv_iload_n hx hb dX0_readWord_4 rfl (lv_at hl 0 rfl) ?_
    refine lv_iconst (v := iI (4 : Int)) hx hb dX0_readWord_5 rfl ?_
    refine lv_icmp_ge (tgt := 46) hx hb dX0_readWord_6 (by decide) (fun c6 => ?_) (fun c6 => ?_)
    · skip
      have c6 := iI_leT (a := (4 : Int)) (b := (1 : Int)) c6 (by omega)
      omega
    · skip
      have c6 := iI_leF (a := (4 : Int)) (b := (1 : Int)) c6 (by omega)
      refine lv_iload_n hx hb dX0_readWord_9 rfl (lv_at hl 1 rfl) ?_
      refine lv_bipush (v := iI (8 : Int)) hx hb dX0_readWord_10 (by decide) ?_
      refine lv_ishl hx hb dX0_readWord_12 ?_
      refine lv_aload_n hx hb dX0_readWord_13 rfl (lv_at hl 2 rfl) ?_
      refine va_get (D := D) (ci := 0) (v := .ref h3) (C := RX0) (T := TX0) (N := 7) hx hb hts hi_X0 hown hK hP 0 rfl rfl 0 (by decide) fl9 (fun _ h9 => h9) rfl dX0_readWord_14 ?_
      refine lv_aload_n hx hb dX0_readWord_17 rfl (lv_at hl 2 rfl) ?_
      refine va_get (D := D) (ci := 0) (v := .int (iI ((a0 + 1 : Nat) : Int))) (C := RX0) (T := TX0) (N := 7) hx hb hts hi_X0 hown hK hP 0 rfl rfl 3 (by decide) fl21 (fun _ h9 => h9) rfl dX0_readWord_18 ?_
      refine k_calli (wc := [(h3, .inr (3, [.ref a3, .int (iI ((n3 : Nat) : Int))])), (a3, .inl (cI, 900, .inl (kN F)))]) (wr := [(ha, .inr (0, [.ref h3, .ref h1, .ref h4, .int (iI ((a0 + 1 : Nat) : Int)), .int (iI ((b0 : Nat) : Int)), .int (iI (ds : Int)), .int dc]))]) (wf := fun _ => [(ha, .inr (0, [.ref h3, .ref h1, .ref h4, .int (iI ((a0 + 1 : Nat) : Int)), .int (iI ((b0 : Nat) : Int)), .int (iI (ds : Int)), .int dc])), (h3, .inr (3, [.ref a3, .int (iI ((n3 : Nat) : Int))])), (a3, .inl (cI, 900, .inl (kN F)))]) hK hP hD hS hA [1, 2] [0] [0, 1, 2] ⟨⟨rfl, rfl, by decide⟩, rfl, by decide, by decide⟩ (fun _ => ⟨rfl, rfl⟩) (by decide) (fun hPc hDc => va_runV (As := [.int (iI ((a0 + 1 : Nat) : Int))]) (rest := [.int (((rdW F a0 1)) <<< ((iI (8 : Int)) &&& 31))]) ⟨hx, hb, hml, hown, hts⟩ (c_Row_atNk l D cI cZ (h := h3) (a := a3) (M := 900) (n := n3) (F := F) (k := a0 + 1) (hM := by omega) (hn := by omega) (hk := by omega) _) (cwV 1 hts (kgV wm353 wm225 wm226 wm39 wmcX3_at) rfl rfl rfl (by decide +kernel) ⟨Nat.le_of_ble_eq_true rfl, Nat.le_of_ble_eq_true rfl⟩) (k_preV hK hPc hDc (ci := 3) (q0 := 0) rfl rfl) rfl rfl hl.1 rfl (lv_room (Nat.le_of_ble_eq_true rfl)) dX0_readWord_21 ⟨Nat.le_of_ble_eq_true rfl, Nat.le_of_ble_eq_true rfl⟩) (fun r21 u H locs hw hP hD hS => ?_)
      have hP : va_P D vwCl [(ha, .inr (0, [.ref h3, .ref h1, .ref h4, .int (iI ((a0 + 1 : Nat) : Int)), .int (iI ((b0 : Nat) : Int)), .int (iI (ds : Int)), .int dc])), (h3, .inr (3, [.ref a3, .int (iI ((n3 : Nat) : Int))])), (a3, .inl (cI, 900, .inl (kN F)))] H := hP
      have hD : va_D A [(ha, .inr (0, [.ref h3, .ref h1, .ref h4, .int (iI ((a0 + 1 : Nat) : Int)), .int (iI ((b0 : Nat) : Int)), .int (iI (ds : Int)), .int dc])), (h3, .inr (3, [.ref a3, .int (iI ((n3 : Nat) : Int))])), (a3, .inl (cI, 900, .inl (kN F)))] := hD
      refine W.widen (k := 0) (n := 0) (Nat.le_of_ble_eq_true rfl) (Nat.le_of_ble_eq_true rfl) ?_
      have hw : r21 = iI ((F (a0 + 1) : Nat) : Int) := hw
      subst hw
      refine lv_sipush (v := iI (255 : Int)) hx hb dX0_readWord_24 (by decide) ?_
      refine lv_iand hx hb dX0_readWord_27 ?_
      refine lv_ior hx hb dX0_readWord_28 ?_
      refine kn_i (y := (rdW F a0 2)) (rfl) ?_
      refine lv_istore_n (lv' := [(1, .int (rdW F a0 2)), (2, .int (iI (1 : Int))), (0, .ref ha)]) hx hb dX0_readWord_29 rfl hl (by decide) rfl (fun ls hl => ?_)
      refine lv_aload_n hx hb dX0_readWord_30 rfl (lv_at hl 2 rfl) ?_
      refine lv_dup hx hb dX0_readWord_31 rfl ?_
      refine va_get (D := D) (ci := 0) (v := .int (iI ((a0 + 1 : Nat) : Int))) (C := RX0) (T := TX0) (N := 7) hx hb hts hi_X0 hown hK hP 0 rfl rfl 3 (by decide) fl21 (fun _ h9 => h9) rfl dX0_readWord_32 ?_
      refine lv_iconst (v := iI (1 : Int)) hx hb dX0_readWord_35 rfl ?_
      refine lv_iadd hx hb dX0_readWord_36 ?_
      refine kn_i (iA (c := ((a0 + 2 : Nat) : Int)) (by omega)) ?_
      refine va_put (D := D) (ci := 0) (v := .int (iI ((a0 + 2 : Nat) : Int))) (ty := .int) (C := RX0) (T := TX0) (N := 7) hx hb hts hi_X0 tyX0 tyX0_ok nmX0 hown hK hP hD hS 0 rfl rfl 3 (by decide) fl21 (fun _ h9 => h9) rfl (by decide +kernel) rfl rfl (Nat.le_of_ble_eq_true rfl) dX0_readWord_37 (fun H locs hP hD hS => ?_)
      have hP : va_P D vwCl [(ha, .inr (0, [.ref h3, .ref h1, .ref h4, .int (iI ((a0 + 2 : Nat) : Int)), .int (iI ((b0 : Nat) : Int)), .int (iI (ds : Int)), .int dc])), (h3, .inr (3, [.ref a3, .int (iI ((n3 : Nat) : Int))])), (a3, .inl (cI, 900, .inl (kN F)))] H := hP
      have hD : va_D A [(ha, .inr (0, [.ref h3, .ref h1, .ref h4, .int (iI ((a0 + 2 : Nat) : Int)), .int (iI ((b0 : Nat) : Int)), .int (iI (ds : Int)), .int dc])), (h3, .inr (3, [.ref a3, .int (iI ((n3 : Nat) : Int))])), (a3, .inl (cI, 900, .inl (kN F)))] := hD
      refine lv_iinc (v := iI (2 : Int)) (lv' := [(2, .int (iI (2 : Int))), (1, .int (rdW F a0 2)), (0, .ref ha)]) hx hb dX0_readWord_40 hl (k := 1) rfl (iA (by omega)) (by decide) rfl (fun ls hl => ?_)
      refine lv_goto (tgt := 4) hx hb dX0_readWord_43 (by decide) ?_
      refine lv_iload_n hx hb dX0_readWord_4 rfl (lv_at hl 0 rfl) ?_
      refine lv_iconst (v := iI (4 : Int)) hx hb dX0_readWord_5 rfl ?_
      refine lv_icmp_ge (tgt := 46) hx hb dX0_readWord_6 (by decide) (fun c6 => ?_) (fun c6 => ?_)
      · skip
        have c6 := iI_leT (a := (4 : Int)) (b := (2 : Int)) c6 (by omega)
        omega
      · skip
        have c6 := iI_leF (a := (4 : Int)) (b := (2 : Int)) c6 (by omega)
        refine lv_iload_n hx hb dX0_readWord_9 rfl (lv_at hl 1 rfl) ?_
        refine lv_bipush (v := iI (8 : Int)) hx hb dX0_readWord_10 (by decide) ?_
        refine lv_ishl hx hb dX0_readWord_12 ?_
        refine lv_aload_n hx hb dX0_readWord_13 rfl (lv_at hl 2 rfl) ?_
        refine va_get (D := D) (ci := 0) (v := .ref h3) (C := RX0) (T := TX0) (N := 7) hx hb hts hi_X0 hown hK hP 0 rfl rfl 0 (by decide) fl9 (fun _ h9 => h9) rfl dX0_readWord_14 ?_
        refine lv_aload_n hx hb dX0_readWord_17 rfl (lv_at hl 2 rfl) ?_
        refine va_get (D := D) (ci := 0) (v := .int (iI ((a0 + 2 : Nat) : Int))) (C := RX0) (T := TX0) (N := 7) hx hb hts hi_X0 hown hK hP 0 rfl rfl 3 (by decide) fl21 (fun _ h9 => h9) rfl dX0_readWord_18 ?_
        refine k_calli (wc := [(h3, .inr (3, [.ref a3, .int (iI ((n3 : Nat) : Int))])), (a3, .inl (cI, 900, .inl (kN F)))]) (wr := [(ha, .inr (0, [.ref h3, .ref h1, .ref h4, .int (iI ((a0 + 2 : Nat) : Int)), .int (iI ((b0 : Nat) : Int)), .int (iI (ds : Int)), .int dc]))]) (wf := fun _ => [(ha, .inr (0, [.ref h3, .ref h1, .ref h4, .int (iI ((a0 + 2 : Nat) : Int)), .int (iI ((b0 : Nat) : Int)), .int (iI (ds : Int)), .int dc])), (h3, .inr (3, [.ref a3, .int (iI ((n3 : Nat) : Int))])), (a3, .inl (cI, 900, .inl (kN F)))]) hK hP hD hS hA [1, 2] [0] [0, 1, 2] ⟨⟨rfl, rfl, by decide⟩, rfl, by decide, by decide⟩ (fun _ => ⟨rfl, rfl⟩) (by decide) (fun hPc hDc => va_runV (As := [.int (iI ((a0 + 2 : Nat) : Int))]) (rest := [.int (((rdW F a0 2)) <<< ((iI (8 : Int)) &&& 31))]) ⟨hx, hb, hml, hown, hts⟩ (c_Row_atNk l D cI cZ (h := h3) (a := a3) (M := 900) (n := n3) (F := F) (k := a0 + 2) (hM := by omega) (hn := by omega) (hk := by omega) _) (cwV 1 hts (kgV wm353 wm225 wm226 wm39 wmcX3_at) rfl rfl rfl (by decide +kernel) ⟨Nat.le_of_ble_eq_true rfl, Nat.le_of_ble_eq_true rfl⟩) (k_preV hK hPc hDc (ci := 3) (q0 := 0) rfl rfl) rfl rfl hl.1 rfl (lv_room (Nat.le_of_ble_eq_true rfl)) dX0_readWord_21 ⟨Nat.le_of_ble_eq_true rfl, Nat.le_of_ble_eq_true rfl⟩) (fun r21 u H locs hw hP hD hS => ?_)
        have hP : va_P D vwCl [(ha, .inr (0, [.ref h3, .ref h1, .ref h4, .int (iI ((a0 + 2 : Nat) : Int)), .int (iI ((b0 : Nat) : Int)), .int (iI (ds : Int)), .int dc])), (h3, .inr (3, [.ref a3, .int (iI ((n3 : Nat) : Int))])), (a3, .inl (cI, 900, .inl (kN F)))] H := hP
        have hD : va_D A [(ha, .inr (0, [.ref h3, .ref h1, .ref h4, .int (iI ((a0 + 2 : Nat) : Int)), .int (iI ((b0 : Nat) : Int)), .int (iI (ds : Int)), .int dc])), (h3, .inr (3, [.ref a3, .int (iI ((n3 : Nat) : Int))])), (a3, .inl (cI, 900, .inl (kN F)))] := hD
        refine W.widen (k := 0) (n := 0) (Nat.le_of_ble_eq_true rfl) (Nat.le_of_ble_eq_true rfl) ?_
        have hw : r21 = iI ((F (a0 + 2) : Nat) : Int) := hw
        subst hw
        refine lv_sipush (v := iI (255 : Int)) hx hb dX0_readWord_24 (by decide) ?_
        refine lv_iand hx hb dX0_readWord_27 ?_
        refine lv_ior hx hb dX0_readWord_28 ?_
        refine kn_i (y := (rdW F a0 3)) (rfl) ?_
        refine lv_istore_n (lv' := [(1, .int (rdW F a0 3)), (2, .int (iI (2 : Int))), (0, .ref ha)]) hx hb dX0_readWord_29 rfl hl (by decide) rfl (fun ls hl => ?_)
        refine lv_aload_n hx hb dX0_readWord_30 rfl (lv_at hl 2 rfl) ?_
        refine lv_dup hx hb dX0_readWord_31 rfl ?_
        refine va_get (D := D) (ci := 0) (v := .int (iI ((a0 + 2 : Nat) : Int))) (C := RX0) (T := TX0) (N := 7) hx hb hts hi_X0 hown hK hP 0 rfl rfl 3 (by decide) fl21 (fun _ h9 => h9) rfl dX0_readWord_32 ?_
        refine lv_iconst (v := iI (1 : Int)) hx hb dX0_readWord_35 rfl ?_
        refine lv_iadd hx hb dX0_readWord_36 ?_
        refine kn_i (iA (c := ((a0 + 3 : Nat) : Int)) (by omega)) ?_
        refine va_put (D := D) (ci := 0) (v := .int (iI ((a0 + 3 : Nat) : Int))) (ty := .int) (C := RX0) (T := TX0) (N := 7) hx hb hts hi_X0 tyX0 tyX0_ok nmX0 hown hK hP hD hS 0 rfl rfl 3 (by decide) fl21 (fun _ h9 => h9) rfl (by decide +kernel) rfl rfl (Nat.le_of_ble_eq_true rfl) dX0_readWord_37 (fun H locs hP hD hS => ?_)
        have hP : va_P D vwCl [(ha, .inr (0, [.ref h3, .ref h1, .ref h4, .int (iI ((a0 + 3 : Nat) : Int)), .int (iI ((b0 : Nat) : Int)), .int (iI (ds : Int)), .int dc])), (h3, .inr (3, [.ref a3, .int (iI ((n3 : Nat) : Int))])), (a3, .inl (cI, 900, .inl (kN F)))] H := hP
        have hD : va_D A [(ha, .inr (0, [.ref h3, .ref h1, .ref h4, .int (iI ((a0 + 3 : Nat) : Int)), .int (iI ((b0 : Nat) : Int)), .int (iI (ds : Int)), .int dc])), (h3, .inr (3, [.ref a3, .int (iI ((n3 : Nat) : Int))])), (a3, .inl (cI, 900, .inl (kN F)))] := hD
        refine lv_iinc (v := iI (3 : Int)) (lv' := [(2, .int (iI (3 : Int))), (1, .int (rdW F a0 3)), (0, .ref ha)]) hx hb dX0_readWord_40 hl (k := 1) rfl (iA (by omega)) (by decide) rfl (fun ls hl => ?_)
        refine lv_goto (tgt := 4) hx hb dX0_readWord_43 (by decide) ?_
        refine lv_iload_n hx hb dX0_readWord_4 rfl (lv_at hl 0 rfl) ?_
        refine lv_iconst (v := iI (4 : Int)) hx hb dX0_readWord_5 rfl ?_
        refine lv_icmp_ge (tgt := 46) hx hb dX0_readWord_6 (by decide) (fun c6 => ?_) (fun c6 => ?_)
        · skip
          have c6 := iI_leT (a := (4 : Int)) (b := (3 : Int)) c6 (by omega)
          omega
        · skip
          have c6 := iI_leF (a := (4 : Int)) (b := (3 : Int)) c6 (by omega)
          refine lv_iload_n hx hb dX0_readWord_9 rfl (lv_at hl 1 rfl) ?_
          refine lv_bipush (v := iI (8 : Int)) hx hb dX0_readWord_10 (by decide) ?_
          refine lv_ishl hx hb dX0_readWord_12 ?_
          refine lv_aload_n hx hb dX0_readWord_13 rfl (lv_at hl 2 rfl) ?_
          refine va_get (D := D) (ci := 0) (v := .ref h3) (C := RX0) (T := TX0) (N := 7) hx hb hts hi_X0 hown hK hP 0 rfl rfl 0 (by decide) fl9 (fun _ h9 => h9) rfl dX0_readWord_14 ?_
          refine lv_aload_n hx hb dX0_readWord_17 rfl (lv_at hl 2 rfl) ?_
          refine va_get (D := D) (ci := 0) (v := .int (iI ((a0 + 3 : Nat) : Int))) (C := RX0) (T := TX0) (N := 7) hx hb hts hi_X0 hown hK hP 0 rfl rfl 3 (by decide) fl21 (fun _ h9 => h9) rfl dX0_readWord_18 ?_
          refine k_calli (wc := [(h3, .inr (3, [.ref a3, .int (iI ((n3 : Nat) : Int))])), (a3, .inl (cI, 900, .inl (kN F)))]) (wr := [(ha, .inr (0, [.ref h3, .ref h1, .ref h4, .int (iI ((a0 + 3 : Nat) : Int)), .int (iI ((b0 : Nat) : Int)), .int (iI (ds : Int)), .int dc]))]) (wf := fun _ => [(ha, .inr (0, [.ref h3, .ref h1, .ref h4, .int (iI ((a0 + 3 : Nat) : Int)), .int (iI ((b0 : Nat) : Int)), .int (iI (ds : Int)), .int dc])), (h3, .inr (3, [.ref a3, .int (iI ((n3 : Nat) : Int))])), (a3, .inl (cI, 900, .inl (kN F)))]) hK hP hD hS hA [1, 2] [0] [0, 1, 2] ⟨⟨rfl, rfl, by decide⟩, rfl, by decide, by decide⟩ (fun _ => ⟨rfl, rfl⟩) (by decide) (fun hPc hDc => va_runV (As := [.int (iI ((a0 + 3 : Nat) : Int))]) (rest := [.int (((rdW F a0 3)) <<< ((iI (8 : Int)) &&& 31))]) ⟨hx, hb, hml, hown, hts⟩ (c_Row_atNk l D cI cZ (h := h3) (a := a3) (M := 900) (n := n3) (F := F) (k := a0 + 3) (hM := by omega) (hn := by omega) (hk := by omega) _) (cwV 1 hts (kgV wm353 wm225 wm226 wm39 wmcX3_at) rfl rfl rfl (by decide +kernel) ⟨Nat.le_of_ble_eq_true rfl, Nat.le_of_ble_eq_true rfl⟩) (k_preV hK hPc hDc (ci := 3) (q0 := 0) rfl rfl) rfl rfl hl.1 rfl (lv_room (Nat.le_of_ble_eq_true rfl)) dX0_readWord_21 ⟨Nat.le_of_ble_eq_true rfl, Nat.le_of_ble_eq_true rfl⟩) (fun r21 u H locs hw hP hD hS => ?_)
          have hP : va_P D vwCl [(ha, .inr (0, [.ref h3, .ref h1, .ref h4, .int (iI ((a0 + 3 : Nat) : Int)), .int (iI ((b0 : Nat) : Int)), .int (iI (ds : Int)), .int dc])), (h3, .inr (3, [.ref a3, .int (iI ((n3 : Nat) : Int))])), (a3, .inl (cI, 900, .inl (kN F)))] H := hP
          have hD : va_D A [(ha, .inr (0, [.ref h3, .ref h1, .ref h4, .int (iI ((a0 + 3 : Nat) : Int)), .int (iI ((b0 : Nat) : Int)), .int (iI (ds : Int)), .int dc])), (h3, .inr (3, [.ref a3, .int (iI ((n3 : Nat) : Int))])), (a3, .inl (cI, 900, .inl (kN F)))] := hD
          refine W.widen (k := 0) (n := 0) (Nat.le_of_ble_eq_true rfl) (Nat.le_of_ble_eq_true rfl) ?_
          have hw : r21 = iI ((F (a0 + 3) : Nat) : Int) := hw
          subst hw
          refine lv_sipush (v := iI (255 : Int)) hx hb dX0_readWord_24 (by decide) ?_
          refine lv_iand hx hb dX0_readWord_27 ?_
          refine lv_ior hx hb dX0_readWord_28 ?_
          refine kn_i (y := (rdW F a0 4)) (rfl) ?_
          refine lv_istore_n (lv' := [(1, .int (rdW F a0 4)), (2, .int (iI (3 : Int))), (0, .ref ha)]) hx hb dX0_readWord_29 rfl hl (by decide) rfl (fun ls hl => ?_)
          refine lv_aload_n hx hb dX0_readWord_30 rfl (lv_at hl 2 rfl) ?_
          refine lv_dup hx hb dX0_readWord_31 rfl ?_
          refine va_get (D := D) (ci := 0) (v := .int (iI ((a0 + 3 : Nat) : Int))) (C := RX0) (T := TX0) (N := 7) hx hb hts hi_X0 hown hK hP 0 rfl rfl 3 (by decide) fl21 (fun _ h9 => h9) rfl dX0_readWord_32 ?_
          refine lv_iconst (v := iI (1 : Int)) hx hb dX0_readWord_35 rfl ?_
          refine lv_iadd hx hb dX0_readWord_36 ?_
          refine kn_i (iA (c := ((a0 + 4 : Nat) : Int)) (by omega)) ?_
          refine va_put (D := D) (ci := 0) (v := .int (iI ((a0 + 4 : Nat) : Int))) (ty := .int) (C := RX0) (T := TX0) (N := 7) hx hb hts hi_X0 tyX0 tyX0_ok nmX0 hown hK hP hD hS 0 rfl rfl 3 (by decide) fl21 (fun _ h9 => h9) rfl (by decide +kernel) rfl rfl (Nat.le_of_ble_eq_true rfl) dX0_readWord_37 (fun H locs hP hD hS => ?_)
          have hP : va_P D vwCl [(ha, .inr (0, [.ref h3, .ref h1, .ref h4, .int (iI ((a0 + 4 : Nat) : Int)), .int (iI ((b0 : Nat) : Int)), .int (iI (ds : Int)), .int dc])), (h3, .inr (3, [.ref a3, .int (iI ((n3 : Nat) : Int))])), (a3, .inl (cI, 900, .inl (kN F)))] H := hP
          have hD : va_D A [(ha, .inr (0, [.ref h3, .ref h1, .ref h4, .int (iI ((a0 + 4 : Nat) : Int)), .int (iI ((b0 : Nat) : Int)), .int (iI (ds : Int)), .int dc])), (h3, .inr (3, [.ref a3, .int (iI ((n3 : Nat) : Int))])), (a3, .inl (cI, 900, .inl (kN F)))] := hD
          refine lv_iinc (v := iI (4 : Int)) (lv' := [(2, .int (iI (4 : Int))), (1, .int (rdW F a0 4)), (0, .ref ha)]) hx hb dX0_readWord_40 hl (k := 1) rfl (iA (by omega)) (by decide) rfl (fun ls hl => ?_)
          refine lv_goto (tgt := 4) hx hb dX0_readWord_43 (by decide) ?_
          refine lv_iload_n hx hb dX0_readWord_4 rfl (lv_at hl 0 rfl) ?_
          refine lv_iconst (v := iI (4 : Int)) hx hb dX0_readWord_5 rfl ?_
          refine lv_icmp_ge (tgt := 46) hx hb dX0_readWord_6 (by decide) (fun c6 => ?_) (fun c6 => ?_)
          · skip
            have c6 := iI_leT (a := (4 : Int)) (b := (4 : Int)) c6 (by omega)
            refine lv_iload_n hx hb dX0_readWord_46 rfl (lv_at hl 1 rfl) ?_
            exact k_iret () hx hb hr hlocks hK hP hD hS [0, 1, 2] (by decide) rfl rfl (rfl) hAe hQ dX0_readWord_47
          · skip
            have c6 := iI_leF (a := (4 : Int)) (b := (4 : Int)) c6 (by omega)
            omega

abbrev rm_c_Applier_withSign : Room := { frames := 0, cells := 0, slots := 0, locals := 0 }
set_option maxHeartbeats 4000000 in
set_option maxRecDepth 100000 in
theorem c_Applier_withSign (l : Launch) (D : va_G) (cI cZ : ClassId) (z : Int) (hz : 0 ≤ z ∧ z < 268435456) : MI l yX0_withSign wsX0_withSign rm_c_Applier_withSign D (kT cI cZ) [.int (iI (z : Int))] [] (fun (r : Int32) (_ : Unit) => r = iI (uz z.toNat : Int)) (fun (u : Unit) => match u with | _ => []) 0 0 := by
  intro sz
  refine k_of (cc := cX0_withSign) (maxL := 1) (ret := (some .int)) (by decide) rfl (Nat.le_of_ble_eq_true rfl) ?_
  intro p e s m args below meth c A Q hAe hQ hx hb hr hml hts hown hlocks hnm hP hK hD hS hA ls hl
  have hl : lv_has ls 1 [(0, .int (iI (z : Int)))] := hl
  refine lv_iload_n hx hb dX0_withSign_0 rfl (lv_at hl 0 rfl) ?_
  refine lv_iconst (v := iI (1 : Int)) hx hb dX0_withSign_1 rfl ?_
  refine lv_iand hx hb dX0_withSign_2 ?_
  refine kn_i (y := iI ((z.toNat % 2 : Nat) : Int)) (b_and1' (by omega)) ?_
  refine lv_if_ne (tgt := 12) hx hb dX0_withSign_3 (by decide) (fun c3 => ?_) (fun c3 => ?_)
  · skip
    have c3 := iI_eqF (a := ((z.toNat % 2 : Nat) : Int)) (b := (0 : Int)) c3 (by omega)
    refine lv_iload_n hx hb dX0_withSign_12 rfl (lv_at hl 0 rfl) ?_
    refine lv_iconst (v := iI (1 : Int)) hx hb dX0_withSign_13 rfl ?_
    refine lv_iushr hx hb dX0_withSign_14 rfl ?_
    refine kn_i (y := iI ((z.toNat / 2 : Nat) : Int)) (b_ushr1' (by omega)) ?_
    refine lv_ineg hx hb dX0_withSign_15 ?_
    refine kn_i (iNeg (c := (-((z.toNat / 2 : Nat) : Int) : Int)) (by omega)) ?_
    refine lv_iconst (v := iI (1 : Int)) hx hb dX0_withSign_16 rfl ?_
    refine lv_isub hx hb dX0_withSign_17 ?_
    refine kn_i (iB (c := (-((z.toNat / 2 : Nat) : Int) - 1 : Int)) (by omega)) ?_
    exact k_iret () hx hb hr hlocks hK hP hD hS [] (by decide) rfl rfl (by unfold uz; first | rw [if_pos (by omega)] | rw [if_neg (by omega)]) hAe hQ dX0_withSign_18
  · skip
    have c3 := iI_eqT (a := ((z.toNat % 2 : Nat) : Int)) (b := (0 : Int)) c3 (by omega)
    refine lv_iload_n hx hb dX0_withSign_6 rfl (lv_at hl 0 rfl) ?_
    refine lv_iconst (v := iI (1 : Int)) hx hb dX0_withSign_7 rfl ?_
    refine lv_iushr hx hb dX0_withSign_8 rfl ?_
    refine kn_i (y := iI ((z.toNat / 2 : Nat) : Int)) (b_ushr1' (by omega)) ?_
    refine lv_goto (tgt := 18) hx hb dX0_withSign_9 (by decide) ?_
    exact k_iret () hx hb hr hlocks hK hP hD hS [] (by decide) rfl rfl (by unfold uz; first | rw [if_pos (by omega)] | rw [if_neg (by omega)]) hAe hQ dX0_withSign_18
end
section
abbrev rm_c_Applier_doAdd : Room := { frames := 2, cells := 0, slots := 0, locals := 46 }
set_option maxHeartbeats 4000000 in
set_option maxRecDepth 100000 in
theorem c_Applier_doAdd (l : Launch) (D : va_G) (cI cZ : ClassId) (ha : Nat) (h3 : Nat) (h1 : Nat) (h4 : Nat) (a0 : Nat) (b0 : Nat) (ds : Int) (dc : Int32) (a3 : Nat) (n3 : Nat) (F : Nat → Nat) (a4 : Nat) (f4 : Nat → Int32) (T : List Int32) (len : Nat) (hat : a0 ≤ n3) (hn3 : n3 ≤ 900) (hds : 0 ≤ ds ∧ ds ≤ 300) (hTl : (T.length : Int) ≤ ds) (hlen : 1 ≤ len ∧ len < 268435456) : MI l yX0_doAdd wsX0_doAdd rm_c_Applier_doAdd D (kT cI cZ) [.ref ha, .int (iI ((len : Nat) : Int))] [(ha, .inr (0, [.ref h3, .ref h1, .ref h4, .int (iI ((a0 : Nat) : Int)), .int (iI ((b0 : Nat) : Int)), .int (iI (ds : Int)), .int dc])), (h3, .inr (3, [.ref a3, .int (iI ((n3 : Nat) : Int))])), (a3, .inl (cI, 900, .inl (kN F))), (h4, .inr (3, [.ref a4, .int (iI (((T).length : Nat) : Int))])), (a4, .inl (cI, 300, .inl (apL f4 0 (T))))] (fun (r : Int32) (u : Nat × Nat × List Int32) => r = iI (adF F n3 ds a0 b0 T len).1 ∧ u = (adF F n3 ds a0 b0 T len).2) (fun (u : Nat × Nat × List Int32) => match u with | ⟨a9, b9, T9⟩ => [(ha, .inr (0, [.ref h3, .ref h1, .ref h4, .int (iI ((a9 : Nat) : Int)), .int (iI ((b9 : Nat) : Int)), .int (iI (ds : Int)), .int dc])), (h3, .inr (3, [.ref a3, .int (iI ((n3 : Nat) : Int))])), (a3, .inl (cI, 900, .inl (kN F))), (h4, .inr (3, [.ref a4, .int (iI (((T9).length : Nat) : Int))])), (a4, .inl (cI, 300, .inl (apL f4 0 (T9))))]) 0 0 := by
  intro sz
  refine k_of (cc := cX0_doAdd) (maxL := 2) (ret := (some .int)) (by decide) rfl (Nat.le_of_ble_eq_true rfl) ?_
  intro p e s m args below meth c A Q hAe hQ hx hb hr hml hts hown hlocks hnm hP hK hD hS hA ls hl
  have hl : lv_has ls 2 [(0, .ref ha), (1, .int (iI ((len : Nat) : Int)))] := hl
  have hi_X0 : ∀ w ∈ u_ws RX0 TX0 7, w ∈ wsX0_doAdd := fun w h => km (ikX0 w h)
  have fl28 := hts _ (km wm108)
  have fl18 := hts _ (km wm105)
  have fl9 := hts _ (km wm103)
  have fl21 := hts _ (km wm106)
  refine lv_aload_n hx hb dX0_doAdd_0 rfl (lv_at hl 0 rfl) ?_
  refine k_calli (wc := [(ha, .inr (0, [.ref h3, .ref h1, .ref h4, .int (iI ((a0 : Nat) : Int)), .int (iI ((b0 : Nat) : Int)), .int (iI (ds : Int)), .int dc])), (h3, .inr (3, [.ref a3, .int (iI ((n3 : Nat) : Int))])), (a3, .inl (cI, 900, .inl (kN F)))]) (wr := [(h4, .inr (3, [.ref a4, .int (iI (((T).length : Nat) : Int))])), (a4, .inl (cI, 300, .inl (apL f4 0 (T))))]) (wf := fun _ => [(ha, .inr (0, [.ref h3, .ref h1, .ref h4, .int (iI ((a0 : Nat) : Int)), .int (iI ((b0 : Nat) : Int)), .int (iI (ds : Int)), .int dc])), (h3, .inr (3, [.ref a3, .int (iI ((n3 : Nat) : Int))])), (a3, .inl (cI, 900, .inl (kN F))), (h4, .inr (3, [.ref a4, .int (iI (((T).length : Nat) : Int))])), (a4, .inl (cI, 300, .inl (apL f4 0 (T))))]) hK hP hD hS hA [0, 1, 2] [3, 4] [2, 3, 4, 0, 1] ⟨⟨rfl, rfl, by decide⟩, rfl, by decide, by decide⟩ (fun _ => ⟨rfl, rfl⟩) (by decide) (fun hPc hDc => va_runV (As := []) (rest := []) ⟨hx, hb, hml, hown, hts⟩ (c_Applier_unread l D cI cZ (ha := ha) (h3 := h3) (h1 := h1) (h4 := h4) (a0 := a0) (b0 := b0) (ds := ds) (dc := dc) (a3 := a3) (n3 := n3) (F := F) (hat := by omega) (hn3 := by omega) _) (cwV 0 hts (kgV wm354 wm356 wm6 wm42 wmcX0_unread) rfl rfl rfl (by decide +kernel) ⟨Nat.le_of_ble_eq_true rfl, Nat.le_of_ble_eq_true rfl⟩) (k_preV hK hPc hDc (ci := 0) (q0 := 0) rfl rfl) rfl rfl hl.1 rfl (lv_room (Nat.le_of_ble_eq_true rfl)) dX0_doAdd_1 ⟨Nat.le_of_ble_eq_true rfl, Nat.le_of_ble_eq_true rfl⟩) (fun r1 u H locs hw hP hD hS => ?_)
  have hP : va_P D vwCl [(ha, .inr (0, [.ref h3, .ref h1, .ref h4, .int (iI ((a0 : Nat) : Int)), .int (iI ((b0 : Nat) : Int)), .int (iI (ds : Int)), .int dc])), (h3, .inr (3, [.ref a3, .int (iI ((n3 : Nat) : Int))])), (a3, .inl (cI, 900, .inl (kN F))), (h4, .inr (3, [.ref a4, .int (iI (((T).length : Nat) : Int))])), (a4, .inl (cI, 300, .inl (apL f4 0 (T))))] H := hP
  have hD : va_D A [(ha, .inr (0, [.ref h3, .ref h1, .ref h4, .int (iI ((a0 : Nat) : Int)), .int (iI ((b0 : Nat) : Int)), .int (iI (ds : Int)), .int dc])), (h3, .inr (3, [.ref a3, .int (iI ((n3 : Nat) : Int))])), (a3, .inl (cI, 900, .inl (kN F))), (h4, .inr (3, [.ref a4, .int (iI (((T).length : Nat) : Int))])), (a4, .inl (cI, 300, .inl (apL f4 0 (T))))] := hD
  refine W.widen (k := 0) (n := 0) (Nat.le_of_ble_eq_true rfl) (Nat.le_of_ble_eq_true rfl) ?_
  have hw : r1 = iI (((n3 - a0) : Nat) : Int) := hw
  subst hw
  refine lv_iload_n hx hb dX0_doAdd_4 rfl (lv_at hl 1 rfl) ?_
  refine lv_icmp_ge (tgt := 10) hx hb dX0_doAdd_5 (by decide) (fun c5 => ?_) (fun c5 => ?_)
  · skip
    have c5 := iI_leT (a := ((len : Nat) : Int)) (b := (((n3 - a0) : Nat) : Int)) c5 (by omega)
    refine lv_iload_n hx hb dX0_doAdd_10 rfl (lv_at hl 1 rfl) ?_
    refine lv_aload_n hx hb dX0_doAdd_11 rfl (lv_at hl 0 rfl) ?_
    refine va_get (D := D) (ci := 0) (v := .int (iI (ds : Int))) (C := RX0) (T := TX0) (N := 7) hx hb hts hi_X0 hown hK hP 0 rfl rfl 5 (by decide) fl28 (fun _ h9 => h9) rfl dX0_doAdd_12 ?_
    refine lv_aload_n hx hb dX0_doAdd_15 rfl (lv_at hl 0 rfl) ?_
    refine va_get (D := D) (ci := 0) (v := .ref h4) (C := RX0) (T := TX0) (N := 7) hx hb hts hi_X0 hown hK hP 0 rfl rfl 2 (by decide) fl18 (fun _ h9 => h9) rfl dX0_doAdd_16 ?_
    refine k_calli (wc := [(h4, .inr (3, [.ref a4, .int (iI (((T).length : Nat) : Int))])), (a4, .inl (cI, 300, .inl (apL f4 0 (T))))]) (wr := [(ha, .inr (0, [.ref h3, .ref h1, .ref h4, .int (iI ((a0 : Nat) : Int)), .int (iI ((b0 : Nat) : Int)), .int (iI (ds : Int)), .int dc])), (h3, .inr (3, [.ref a3, .int (iI ((n3 : Nat) : Int))])), (a3, .inl (cI, 900, .inl (kN F)))]) (wf := fun _ => [(ha, .inr (0, [.ref h3, .ref h1, .ref h4, .int (iI ((a0 : Nat) : Int)), .int (iI ((b0 : Nat) : Int)), .int (iI (ds : Int)), .int dc])), (h3, .inr (3, [.ref a3, .int (iI ((n3 : Nat) : Int))])), (a3, .inl (cI, 900, .inl (kN F))), (h4, .inr (3, [.ref a4, .int (iI ((((T).length) : Nat) : Int))])), (a4, .inl (cI, 300, .inl (apL f4 0 (T))))]) hK hP hD hS hA [3, 4] [0, 1, 2] [0, 1, 2, 3, 4] ⟨⟨rfl, rfl, by decide⟩, rfl, by decide, by decide⟩ (fun _ => ⟨rfl, rfl⟩) (by decide) (fun hPc hDc => va_runV (As := []) (rest := [.int (iI (ds : Int)), .int (iI ((len : Nat) : Int))]) ⟨hx, hb, hml, hown, hts⟩ (c_Row_count l D cI cZ (h := h4) (a := a4) (M := 300) (n := (T).length) (f := (apL f4 0 (T)))  _) (cwV 0 hts (kgV wm358 wm193 wm194 wm39 wmcX3_count) rfl rfl rfl (by decide +kernel) ⟨Nat.le_of_ble_eq_true rfl, Nat.le_of_ble_eq_true rfl⟩) (k_preV hK hPc hDc (ci := 3) (q0 := 0) rfl rfl) rfl rfl hl.1 rfl (lv_room (Nat.le_of_ble_eq_true rfl)) dX0_doAdd_19 ⟨Nat.le_of_ble_eq_true rfl, Nat.le_of_ble_eq_true rfl⟩) (fun r19 u H locs hw hP hD hS => ?_)
    have hP : va_P D vwCl [(ha, .inr (0, [.ref h3, .ref h1, .ref h4, .int (iI ((a0 : Nat) : Int)), .int (iI ((b0 : Nat) : Int)), .int (iI (ds : Int)), .int dc])), (h3, .inr (3, [.ref a3, .int (iI ((n3 : Nat) : Int))])), (a3, .inl (cI, 900, .inl (kN F))), (h4, .inr (3, [.ref a4, .int (iI ((((T).length) : Nat) : Int))])), (a4, .inl (cI, 300, .inl (apL f4 0 (T))))] H := hP
    have hD : va_D A [(ha, .inr (0, [.ref h3, .ref h1, .ref h4, .int (iI ((a0 : Nat) : Int)), .int (iI ((b0 : Nat) : Int)), .int (iI (ds : Int)), .int dc])), (h3, .inr (3, [.ref a3, .int (iI ((n3 : Nat) : Int))])), (a3, .inl (cI, 900, .inl (kN F))), (h4, .inr (3, [.ref a4, .int (iI ((((T).length) : Nat) : Int))])), (a4, .inl (cI, 300, .inl (apL f4 0 (T))))] := hD
    refine W.widen (k := 0) (n := 0) (Nat.le_of_ble_eq_true rfl) (Nat.le_of_ble_eq_true rfl) ?_
    have hw : r19 = iI ((((T).length) : Nat) : Int) := hw
    subst hw
    refine lv_isub hx hb dX0_doAdd_22 ?_
    refine kn_i (iB (c := ((ds : Int) - ((((T).length) : Nat) : Int) : Int)) (by omega)) ?_
    refine lv_icmp_le (tgt := 29) hx hb dX0_doAdd_23 (by decide) (fun c23 => ?_) (fun c23 => ?_)
    · skip
      have c23 := iI_leT (a := ((len : Nat) : Int)) (b := ((ds : Int) - ((((T).length) : Nat) : Int) : Int)) c23 (by omega)
      refine lv_aload_n hx hb dX0_doAdd_29 rfl (lv_at hl 0 rfl) ?_
      refine va_get (D := D) (ci := 0) (v := .ref h4) (C := RX0) (T := TX0) (N := 7) hx hb hts hi_X0 hown hK hP 0 rfl rfl 2 (by decide) fl18 (fun _ h9 => h9) rfl dX0_doAdd_30 ?_
      refine lv_aload_n hx hb dX0_doAdd_33 rfl (lv_at hl 0 rfl) ?_
      refine va_get (D := D) (ci := 0) (v := .ref h3) (C := RX0) (T := TX0) (N := 7) hx hb hts hi_X0 hown hK hP 0 rfl rfl 0 (by decide) fl9 (fun _ h9 => h9) rfl dX0_doAdd_34 ?_
      refine lv_aload_n hx hb dX0_doAdd_37 rfl (lv_at hl 0 rfl) ?_
      refine va_get (D := D) (ci := 0) (v := .int (iI ((a0 : Nat) : Int))) (C := RX0) (T := TX0) (N := 7) hx hb hts hi_X0 hown hK hP 0 rfl rfl 3 (by decide) fl21 (fun _ h9 => h9) rfl dX0_doAdd_38 ?_
      refine lv_iload_n hx hb dX0_doAdd_41 rfl (lv_at hl 1 rfl) ?_
      refine k_callv (wc := [(h4, .inr (3, [.ref a4, .int (iI ((((T).length) : Nat) : Int))])), (a4, .inl (cI, 300, .inl (apL f4 0 (T)))), (h3, .inr (3, [.ref a3, .int (iI ((n3 : Nat) : Int))])), (a3, .inl (cI, 900, .inl (kN F)))]) (wr := [(ha, .inr (0, [.ref h3, .ref h1, .ref h4, .int (iI ((a0 : Nat) : Int)), .int (iI ((b0 : Nat) : Int)), .int (iI (ds : Int)), .int dc]))]) (wf := fun _ => [(ha, .inr (0, [.ref h3, .ref h1, .ref h4, .int (iI ((a0 : Nat) : Int)), .int (iI ((b0 : Nat) : Int)), .int (iI (ds : Int)), .int dc])), (h3, .inr (3, [.ref a3, .int (iI ((n3 : Nat) : Int))])), (a3, .inl (cI, 900, .inl (kN F))), (h4, .inr (3, [.ref a4, .int (iI ((((T).length) + len : Nat) : Int))])), (a4, .inl (cI, 300, .inl (apL (apL f4 0 (T)) ((T).length) (sl (kN F) a0 len))))]) hK hP hD hS hA [3, 4, 1, 2] [0] [0, 3, 4, 1, 2] ⟨⟨rfl, rfl, by decide⟩, rfl, by decide, by decide⟩ (fun _ => ⟨rfl, rfl⟩) (by decide) (fun hPc hDc => va_runV (As := [.ref h3, .int (iI ((a0 : Nat) : Int)), .int (iI ((len : Nat) : Int))]) (rest := []) ⟨hx, hb, hml, hown, hts⟩ (c_Row_addFrom l D cI cZ (h := h4) (a := a4) (M := 300) (n := ((T).length)) (f := (apL f4 0 (T))) (h2 := h3) (a2 := a3) (M2 := 900) (n2 := n3) (g := (kN F)) (st := a0) (k := len) (hM := by omega) (hM2 := by omega) (hn2 := by omega) (hst := by omega) (hk := by omega) _) (cwV 3 hts (kgV wm376 wm218 wm219 wm39 wmcX3_addFrom) rfl rfl rfl (by decide +kernel) ⟨Nat.le_of_ble_eq_true rfl, Nat.le_of_ble_eq_true rfl⟩) (k_preV hK hPc hDc (ci := 3) (q0 := 0) rfl rfl) rfl rfl hl.1 rfl (lv_room (Nat.le_of_ble_eq_true rfl)) dX0_doAdd_42 ⟨Nat.le_of_ble_eq_true rfl, Nat.le_of_ble_eq_true rfl⟩) (fun u H locs hw hP hD hS => ?_)
      have hP : va_P D vwCl [(ha, .inr (0, [.ref h3, .ref h1, .ref h4, .int (iI ((a0 : Nat) : Int)), .int (iI ((b0 : Nat) : Int)), .int (iI (ds : Int)), .int dc])), (h3, .inr (3, [.ref a3, .int (iI ((n3 : Nat) : Int))])), (a3, .inl (cI, 900, .inl (kN F))), (h4, .inr (3, [.ref a4, .int (iI ((((T).length) + len : Nat) : Int))])), (a4, .inl (cI, 300, .inl (apL (apL f4 0 (T)) ((T).length) (sl (kN F) a0 len))))] H := hP
      have hD : va_D A [(ha, .inr (0, [.ref h3, .ref h1, .ref h4, .int (iI ((a0 : Nat) : Int)), .int (iI ((b0 : Nat) : Int)), .int (iI (ds : Int)), .int dc])), (h3, .inr (3, [.ref a3, .int (iI ((n3 : Nat) : Int))])), (a3, .inl (cI, 900, .inl (kN F))), (h4, .inr (3, [.ref a4, .int (iI ((((T).length) + len : Nat) : Int))])), (a4, .inl (cI, 300, .inl (apL (apL f4 0 (T)) ((T).length) (sl (kN F) a0 len))))] := hD
      refine W.widen (k := 0) (n := 0) (Nat.le_of_ble_eq_true rfl) (Nat.le_of_ble_eq_true rfl) ?_
      rw [show (apL (apL f4 0 (T)) ((T).length) (sl (kN F) a0 len)) = (apL f4 0 (T ++ sl (kN F) a0 len)) from apL0] at hP hD
      rw [show iI ((((T).length) + len : Nat) : Int) = iI (((T ++ sl (kN F) a0 len).length : Nat) : Int) from len_s] at hP hD
      refine lv_aload_n hx hb dX0_doAdd_45 rfl (lv_at hl 0 rfl) ?_
      refine lv_dup hx hb dX0_doAdd_46 rfl ?_
      refine va_get (D := D) (ci := 0) (v := .int (iI ((a0 : Nat) : Int))) (C := RX0) (T := TX0) (N := 7) hx hb hts hi_X0 hown hK hP 0 rfl rfl 3 (by decide) fl21 (fun _ h9 => h9) rfl dX0_doAdd_47 ?_
      refine lv_iload_n hx hb dX0_doAdd_50 rfl (lv_at hl 1 rfl) ?_
      refine lv_iadd hx hb dX0_doAdd_51 ?_
      refine kn_i (iA (c := (((a0 + len) : Nat) : Int)) (by omega)) ?_
      refine va_put (D := D) (ci := 0) (v := .int (iI (((a0 + len) : Nat) : Int))) (ty := .int) (C := RX0) (T := TX0) (N := 7) hx hb hts hi_X0 tyX0 tyX0_ok nmX0 hown hK hP hD hS 0 rfl rfl 3 (by decide) fl21 (fun _ h9 => h9) rfl (by decide +kernel) rfl rfl (Nat.le_of_ble_eq_true rfl) dX0_doAdd_52 (fun H locs hP hD hS => ?_)
      have hP : va_P D vwCl [(ha, .inr (0, [.ref h3, .ref h1, .ref h4, .int (iI (((a0 + len) : Nat) : Int)), .int (iI ((b0 : Nat) : Int)), .int (iI (ds : Int)), .int dc])), (h3, .inr (3, [.ref a3, .int (iI ((n3 : Nat) : Int))])), (a3, .inl (cI, 900, .inl (kN F))), (h4, .inr (3, [.ref a4, .int (iI (((T ++ sl (kN F) a0 len).length : Nat) : Int))])), (a4, .inl (cI, 300, .inl (apL f4 0 (T ++ sl (kN F) a0 len))))] H := hP
      have hD : va_D A [(ha, .inr (0, [.ref h3, .ref h1, .ref h4, .int (iI (((a0 + len) : Nat) : Int)), .int (iI ((b0 : Nat) : Int)), .int (iI (ds : Int)), .int dc])), (h3, .inr (3, [.ref a3, .int (iI ((n3 : Nat) : Int))])), (a3, .inl (cI, 900, .inl (kN F))), (h4, .inr (3, [.ref a4, .int (iI (((T ++ sl (kN F) a0 len).length : Nat) : Int))])), (a4, .inl (cI, 300, .inl (apL f4 0 (T ++ sl (kN F) a0 len))))] := hD
      refine lv_iconst (v := iI (0 : Int)) hx hb dX0_doAdd_55 rfl ?_
      have hE : adF F n3 ds a0 b0 T len = (0, a0 + len, b0, T ++ sl (kN F) a0 len) := by unfold adF; rw [if_neg (by omega), if_neg (by omega)]
      exact k_iret (a0 + len, b0, T ++ sl (kN F) a0 len) hx hb hr hlocks hK hP hD hS [0, 1, 2, 3, 4] (by decide) rfl rfl (⟨by rw [hE], by rw [hE]⟩) hAe hQ dX0_doAdd_56
    · skip
      have c23 := iI_leF (a := ((len : Nat) : Int)) (b := ((ds : Int) - ((((T).length) : Nat) : Int) : Int)) c23 (by omega)
      refine lv_bipush (v := iI (-6 : Int)) hx hb dX0_doAdd_26 (by decide) ?_
      have hE : adF F n3 ds a0 b0 T len = (-6, a0, b0, T) := by unfold adF; rw [if_neg (by omega), if_pos (by omega)]
      exact k_iret (a0, b0, T) hx hb hr hlocks hK hP hD hS [0, 1, 2, 3, 4] (by decide) rfl rfl (⟨by rw [hE], by rw [hE]⟩) hAe hQ dX0_doAdd_28
  · skip
    have c5 := iI_leF (a := ((len : Nat) : Int)) (b := (((n3 - a0) : Nat) : Int)) c5 (by omega)
    refine lv_iconst (v := iI (-1 : Int)) hx hb dX0_doAdd_8 rfl ?_
    have hE : adF F n3 ds a0 b0 T len = (-1, a0, b0, T) := by unfold adF; rw [if_pos (by omega)]
    exact k_iret (a0, b0, T) hx hb hr hlocks hK hP hD hS [0, 1, 2, 3, 4] (by decide) rfl rfl (⟨by rw [hE], by rw [hE]⟩) hAe hQ dX0_doAdd_9

abbrev rm_c_Applier_doCopy : Room := { frames := 2, cells := 0, slots := 0, locals := 46 }
set_option maxHeartbeats 4000000 in
set_option maxRecDepth 100000 in
theorem c_Applier_doCopy (l : Launch) (D : va_G) (cI cZ : ClassId) (ha : Nat) (h3 : Nat) (h1 : Nat) (h4 : Nat) (a0 : Nat) (b0 : Nat) (ds : Int) (dc : Int32) (a3 : Nat) (n3 : Nat) (F : Nat → Nat) (a1 : Nat) (n1 : Nat) (f1 : Nat → Int32) (a4 : Nat) (f4 : Nat → Int32) (T : List Int32) (len : Nat) (hat : a0 ≤ n3) (hn3 : n3 ≤ 900) (hB : ∀ j, j < n3 → F j < 256) (hn1 : n1 ≤ 300) (hb0 : b0 ≤ n1) (hds : 0 ≤ ds ∧ ds ≤ 300) (hTl : (T.length : Int) ≤ ds) (hlen : 1 ≤ len ∧ len < 268435456) : MI l yX0_doCopy wsX0_doCopy rm_c_Applier_doCopy D (kT cI cZ) [.ref ha, .int (iI ((len : Nat) : Int))] [(ha, .inr (0, [.ref h3, .ref h1, .ref h4, .int (iI ((a0 : Nat) : Int)), .int (iI ((b0 : Nat) : Int)), .int (iI (ds : Int)), .int dc])), (h3, .inr (3, [.ref a3, .int (iI ((n3 : Nat) : Int))])), (a3, .inl (cI, 900, .inl (kN F))), (h1, .inr (3, [.ref a1, .int (iI ((n1 : Nat) : Int))])), (a1, .inl (cI, 300, .inl f1)), (h4, .inr (3, [.ref a4, .int (iI (((T).length : Nat) : Int))])), (a4, .inl (cI, 300, .inl (apL f4 0 (T))))] (fun (r : Int32) (u : Nat × Nat × List Int32) => r = iI (cpF F n3 f1 n1 ds a0 b0 T len).1 ∧ u = (cpF F n3 f1 n1 ds a0 b0 T len).2) (fun (u : Nat × Nat × List Int32) => match u with | ⟨a9, b9, T9⟩ => [(ha, .inr (0, [.ref h3, .ref h1, .ref h4, .int (iI ((a9 : Nat) : Int)), .int (iI ((b9 : Nat) : Int)), .int (iI (ds : Int)), .int dc])), (h3, .inr (3, [.ref a3, .int (iI ((n3 : Nat) : Int))])), (a3, .inl (cI, 900, .inl (kN F))), (h1, .inr (3, [.ref a1, .int (iI ((n1 : Nat) : Int))])), (a1, .inl (cI, 300, .inl f1)), (h4, .inr (3, [.ref a4, .int (iI (((T9).length : Nat) : Int))])), (a4, .inl (cI, 300, .inl (apL f4 0 (T9))))]) 0 0 := by
  intro sz
  refine k_of (cc := cX0_doCopy) (maxL := 4) (ret := (some .int)) (by decide) rfl (Nat.le_of_ble_eq_true rfl) ?_
  intro p e s m args below meth c A Q hAe hQ hx hb hr hml hts hown hlocks hnm hP hK hD hS hA ls hl
  have hl : lv_has ls 4 [(0, .ref ha), (1, .int (iI ((len : Nat) : Int)))] := hl
  have hi_X0 : ∀ w ∈ u_ws RX0 TX0 7, w ∈ wsX0_doCopy := fun w h => km (ikX0 w h)
  have fl25 := hts _ (km wm107)
  have fl15 := hts _ (km wm104)
  have fl28 := hts _ (km wm108)
  have fl18 := hts _ (km wm105)
  refine lv_aload_n hx hb dX0_doCopy_0 rfl (lv_at hl 0 rfl) ?_
  refine k_calli (wc := [(ha, .inr (0, [.ref h3, .ref h1, .ref h4, .int (iI ((a0 : Nat) : Int)), .int (iI ((b0 : Nat) : Int)), .int (iI (ds : Int)), .int dc])), (h3, .inr (3, [.ref a3, .int (iI ((n3 : Nat) : Int))])), (a3, .inl (cI, 900, .inl (kN F)))]) (wr := [(h1, .inr (3, [.ref a1, .int (iI ((n1 : Nat) : Int))])), (a1, .inl (cI, 300, .inl f1)), (h4, .inr (3, [.ref a4, .int (iI (((T).length : Nat) : Int))])), (a4, .inl (cI, 300, .inl (apL f4 0 (T))))]) (wf := fun _ => [(ha, .inr (0, [.ref h3, .ref h1, .ref h4, .int (iI (((rv F n3 a0).2 : Nat) : Int)), .int (iI ((b0 : Nat) : Int)), .int (iI (ds : Int)), .int dc])), (h3, .inr (3, [.ref a3, .int (iI ((n3 : Nat) : Int))])), (a3, .inl (cI, 900, .inl (kN F))), (h1, .inr (3, [.ref a1, .int (iI ((n1 : Nat) : Int))])), (a1, .inl (cI, 300, .inl f1)), (h4, .inr (3, [.ref a4, .int (iI (((T).length : Nat) : Int))])), (a4, .inl (cI, 300, .inl (apL f4 0 (T))))]) hK hP hD hS hA [0, 1, 2] [3, 4, 5, 6] [4, 5, 6, 0, 1, 2, 3] ⟨⟨rfl, rfl, by decide⟩, rfl, by decide, by decide⟩ (fun _ => ⟨rfl, rfl⟩) (by decide) (fun hPc hDc => va_runV (As := []) (rest := []) ⟨hx, hb, hml, hown, hts⟩ (c_Applier_readVarint l D cI cZ (ha := ha) (h3 := h3) (h1 := h1) (h4 := h4) (a0 := a0) (b0 := b0) (ds := ds) (dc := dc) (a3 := a3) (n3 := n3) (F := F) (hat := by omega) (hn3 := by omega) (hB := by omega) _) (cwV 0 hts (kgV wm349 wm351 wm5 wm42 wmcX0_readVarint) rfl rfl rfl (by decide +kernel) ⟨Nat.le_of_ble_eq_true rfl, Nat.le_of_ble_eq_true rfl⟩) (k_preV hK hPc hDc (ci := 0) (q0 := 0) rfl rfl) rfl rfl hl.1 rfl (lv_room (Nat.le_of_ble_eq_true rfl)) dX0_doCopy_1 ⟨Nat.le_of_ble_eq_true rfl, Nat.le_of_ble_eq_true rfl⟩) (fun r1 u H locs hw hP hD hS => ?_)
  have hP : va_P D vwCl [(ha, .inr (0, [.ref h3, .ref h1, .ref h4, .int (iI (((rv F n3 a0).2 : Nat) : Int)), .int (iI ((b0 : Nat) : Int)), .int (iI (ds : Int)), .int dc])), (h3, .inr (3, [.ref a3, .int (iI ((n3 : Nat) : Int))])), (a3, .inl (cI, 900, .inl (kN F))), (h1, .inr (3, [.ref a1, .int (iI ((n1 : Nat) : Int))])), (a1, .inl (cI, 300, .inl f1)), (h4, .inr (3, [.ref a4, .int (iI (((T).length : Nat) : Int))])), (a4, .inl (cI, 300, .inl (apL f4 0 (T))))] H := hP
  have hD : va_D A [(ha, .inr (0, [.ref h3, .ref h1, .ref h4, .int (iI (((rv F n3 a0).2 : Nat) : Int)), .int (iI ((b0 : Nat) : Int)), .int (iI (ds : Int)), .int dc])), (h3, .inr (3, [.ref a3, .int (iI ((n3 : Nat) : Int))])), (a3, .inl (cI, 900, .inl (kN F))), (h1, .inr (3, [.ref a1, .int (iI ((n1 : Nat) : Int))])), (a1, .inl (cI, 300, .inl f1)), (h4, .inr (3, [.ref a4, .int (iI (((T).length : Nat) : Int))])), (a4, .inl (cI, 300, .inl (apL f4 0 (T))))] := hD
  refine W.widen (k := 0) (n := 0) (Nat.le_of_ble_eq_true rfl) (Nat.le_of_ble_eq_true rfl) ?_
  have hw : r1 = iI ((rv F n3 a0).1 : Int) := hw
  subst hw
  have hrv := rv_rng F n3 a0
  refine lv_istore_n (lv' := [(2, .int (iI ((rv F n3 a0).1 : Int))), (0, .ref ha), (1, .int (iI ((len : Nat) : Int)))]) hx hb dX0_doCopy_4 rfl hl (by decide) rfl (fun ls hl => ?_)
  refine lv_iload_n hx hb dX0_doCopy_5 rfl (lv_at hl 0 rfl) ?_
  refine lv_iconst (v := iI (-1 : Int)) hx hb dX0_doCopy_6 rfl ?_
  refine lv_icmp_ne (tgt := 12) hx hb dX0_doCopy_7 (by decide) (fun c7 => ?_) (fun c7 => ?_)
  · skip
    have c7 := iI_eqF (a := ((rv F n3 a0).1 : Int)) (b := (-1 : Int)) c7 (by omega)
    refine lv_aload_n hx hb dX0_doCopy_12 rfl (lv_at hl 1 rfl) ?_
    refine va_get (D := D) (ci := 0) (v := .int (iI ((b0 : Nat) : Int))) (C := RX0) (T := TX0) (N := 7) hx hb hts hi_X0 hown hK hP 0 rfl rfl 4 (by decide) fl25 (fun _ h9 => h9) rfl dX0_doCopy_13 ?_
    have huz := uz_rng (z := (rv F n3 a0).1.toNat) (by omega)
    refine lv_iload_n hx hb dX0_doCopy_16 rfl (lv_at hl 0 rfl) ?_
    refine k_calli (wc := []) (wr := [(ha, .inr (0, [.ref h3, .ref h1, .ref h4, .int (iI (((rv F n3 a0).2 : Nat) : Int)), .int (iI ((b0 : Nat) : Int)), .int (iI (ds : Int)), .int dc])), (h3, .inr (3, [.ref a3, .int (iI ((n3 : Nat) : Int))])), (a3, .inl (cI, 900, .inl (kN F))), (h1, .inr (3, [.ref a1, .int (iI ((n1 : Nat) : Int))])), (a1, .inl (cI, 300, .inl f1)), (h4, .inr (3, [.ref a4, .int (iI (((T).length : Nat) : Int))])), (a4, .inl (cI, 300, .inl (apL f4 0 (T))))]) (wf := fun _ => [(ha, .inr (0, [.ref h3, .ref h1, .ref h4, .int (iI (((rv F n3 a0).2 : Nat) : Int)), .int (iI ((b0 : Nat) : Int)), .int (iI (ds : Int)), .int dc])), (h3, .inr (3, [.ref a3, .int (iI ((n3 : Nat) : Int))])), (a3, .inl (cI, 900, .inl (kN F))), (h1, .inr (3, [.ref a1, .int (iI ((n1 : Nat) : Int))])), (a1, .inl (cI, 300, .inl f1)), (h4, .inr (3, [.ref a4, .int (iI (((T).length : Nat) : Int))])), (a4, .inl (cI, 300, .inl (apL f4 0 (T))))]) hK hP hD hS hA [] [0, 1, 2, 3, 4, 5, 6] [0, 1, 2, 3, 4, 5, 6] ⟨⟨rfl, rfl, by decide⟩, rfl, by decide, by decide⟩ (fun _ => ⟨rfl, rfl⟩) (by decide) (fun hPc hDc => va_runS (As := [.int (iI ((rv F n3 a0).1 : Int))]) (rest := [.int (iI ((b0 : Nat) : Int))]) ⟨hx, hb, hml, hown, hts⟩ (c_Applier_withSign l D cI cZ (z := (rv F n3 a0).1) (hz := by omega) _) (cwS 1 hts (kgS wm381 wm382 wm42 wmcX0_withSign) rfl rfl rfl (by decide +kernel) ⟨Nat.le_of_ble_eq_true rfl, Nat.le_of_ble_eq_true rfl⟩) (k_preS hK hPc hDc) rfl rfl hl.1 rfl (lv_room (Nat.le_of_ble_eq_true rfl)) dX0_doCopy_17 ⟨Nat.le_of_ble_eq_true rfl, Nat.le_of_ble_eq_true rfl⟩) (fun r17 u H locs hw hP hD hS => ?_)
    have hP : va_P D vwCl [(ha, .inr (0, [.ref h3, .ref h1, .ref h4, .int (iI (((rv F n3 a0).2 : Nat) : Int)), .int (iI ((b0 : Nat) : Int)), .int (iI (ds : Int)), .int dc])), (h3, .inr (3, [.ref a3, .int (iI ((n3 : Nat) : Int))])), (a3, .inl (cI, 900, .inl (kN F))), (h1, .inr (3, [.ref a1, .int (iI ((n1 : Nat) : Int))])), (a1, .inl (cI, 300, .inl f1)), (h4, .inr (3, [.ref a4, .int (iI (((T).length : Nat) : Int))])), (a4, .inl (cI, 300, .inl (apL f4 0 (T))))] H := hP
    have hD : va_D A [(ha, .inr (0, [.ref h3, .ref h1, .ref h4, .int (iI (((rv F n3 a0).2 : Nat) : Int)), .int (iI ((b0 : Nat) : Int)), .int (iI (ds : Int)), .int dc])), (h3, .inr (3, [.ref a3, .int (iI ((n3 : Nat) : Int))])), (a3, .inl (cI, 900, .inl (kN F))), (h1, .inr (3, [.ref a1, .int (iI ((n1 : Nat) : Int))])), (a1, .inl (cI, 300, .inl f1)), (h4, .inr (3, [.ref a4, .int (iI (((T).length : Nat) : Int))])), (a4, .inl (cI, 300, .inl (apL f4 0 (T))))] := hD
    refine W.widen (k := 0) (n := 0) (Nat.le_of_ble_eq_true rfl) (Nat.le_of_ble_eq_true rfl) ?_
    have hw : r17 = iI (uz ((rv F n3 a0).1).toNat : Int) := hw
    subst hw
    refine lv_iadd hx hb dX0_doCopy_20 ?_
    refine kn_i (iA (c := (((b0 : Nat) : Int) + uz (rv F n3 a0).1.toNat : Int)) (by omega)) ?_
    refine lv_istore_n (lv' := [(3, .int (iI (((b0 : Nat) : Int) + uz (rv F n3 a0).1.toNat : Int))), (2, .int (iI ((rv F n3 a0).1 : Int))), (0, .ref ha), (1, .int (iI ((len : Nat) : Int)))]) hx hb dX0_doCopy_21 rfl hl (by decide) rfl (fun ls hl => ?_)
    refine lv_iload_n hx hb dX0_doCopy_22 rfl (lv_at hl 0 rfl) ?_
    refine lv_if_lt (tgt := 39) hx hb dX0_doCopy_23 (by decide) (fun c23 => ?_) (fun c23 => ?_)
    · skip
      have c23 := iI_ltT (a := (((b0 : Nat) : Int) + uz (rv F n3 a0).1.toNat : Int)) (b := (0 : Int)) c23 (by omega)
      refine lv_bipush (v := iI (-5 : Int)) hx hb dX0_doCopy_39 (by decide) ?_
      have hE : cpF F n3 f1 n1 ds a0 b0 T len = (-5, (rv F n3 a0).2, b0, T) := by unfold cpF; rw [if_neg (by omega), if_pos (by omega)]
      exact k_iret ((rv F n3 a0).2, b0, T) hx hb hr hlocks hK hP hD hS [0, 1, 2, 3, 4, 5, 6] (by decide) rfl rfl (⟨by rw [hE], by rw [hE]⟩) hAe hQ dX0_doCopy_41
    · skip
      have c23 := iI_ltF (a := (((b0 : Nat) : Int) + uz (rv F n3 a0).1.toNat : Int)) (b := (0 : Int)) c23 (by omega)
      refine lv_iload_n hx hb dX0_doCopy_26 rfl (lv_at hl 3 rfl) ?_
      refine lv_aload_n hx hb dX0_doCopy_27 rfl (lv_at hl 2 rfl) ?_
      refine va_get (D := D) (ci := 0) (v := .ref h1) (C := RX0) (T := TX0) (N := 7) hx hb hts hi_X0 hown hK hP 0 rfl rfl 1 (by decide) fl15 (fun _ h9 => h9) rfl dX0_doCopy_28 ?_
      refine k_calli (wc := [(h1, .inr (3, [.ref a1, .int (iI ((n1 : Nat) : Int))])), (a1, .inl (cI, 300, .inl f1))]) (wr := [(ha, .inr (0, [.ref h3, .ref h1, .ref h4, .int (iI (((rv F n3 a0).2 : Nat) : Int)), .int (iI ((b0 : Nat) : Int)), .int (iI (ds : Int)), .int dc])), (h3, .inr (3, [.ref a3, .int (iI ((n3 : Nat) : Int))])), (a3, .inl (cI, 900, .inl (kN F))), (h4, .inr (3, [.ref a4, .int (iI (((T).length : Nat) : Int))])), (a4, .inl (cI, 300, .inl (apL f4 0 (T))))]) (wf := fun _ => [(ha, .inr (0, [.ref h3, .ref h1, .ref h4, .int (iI (((rv F n3 a0).2 : Nat) : Int)), .int (iI ((b0 : Nat) : Int)), .int (iI (ds : Int)), .int dc])), (h3, .inr (3, [.ref a3, .int (iI ((n3 : Nat) : Int))])), (a3, .inl (cI, 900, .inl (kN F))), (h1, .inr (3, [.ref a1, .int (iI ((n1 : Nat) : Int))])), (a1, .inl (cI, 300, .inl f1)), (h4, .inr (3, [.ref a4, .int (iI (((T).length : Nat) : Int))])), (a4, .inl (cI, 300, .inl (apL f4 0 (T))))]) hK hP hD hS hA [3, 4] [0, 1, 2, 5, 6] [0, 1, 2, 5, 6, 3, 4] ⟨⟨rfl, rfl, by decide⟩, rfl, by decide, by decide⟩ (fun _ => ⟨rfl, rfl⟩) (by decide) (fun hPc hDc => va_runV (As := []) (rest := [.int (iI ((len : Nat) : Int))]) ⟨hx, hb, hml, hown, hts⟩ (c_Row_count l D cI cZ (h := h1) (a := a1) (M := 300) (n := n1) (f := f1)  _) (cwV 0 hts (kgV wm358 wm193 wm194 wm39 wmcX3_count) rfl rfl rfl (by decide +kernel) ⟨Nat.le_of_ble_eq_true rfl, Nat.le_of_ble_eq_true rfl⟩) (k_preV hK hPc hDc (ci := 3) (q0 := 0) rfl rfl) rfl rfl hl.1 rfl (lv_room (Nat.le_of_ble_eq_true rfl)) dX0_doCopy_31 ⟨Nat.le_of_ble_eq_true rfl, Nat.le_of_ble_eq_true rfl⟩) (fun r31 u H locs hw hP hD hS => ?_)
      have hP : va_P D vwCl [(ha, .inr (0, [.ref h3, .ref h1, .ref h4, .int (iI (((rv F n3 a0).2 : Nat) : Int)), .int (iI ((b0 : Nat) : Int)), .int (iI (ds : Int)), .int dc])), (h3, .inr (3, [.ref a3, .int (iI ((n3 : Nat) : Int))])), (a3, .inl (cI, 900, .inl (kN F))), (h1, .inr (3, [.ref a1, .int (iI ((n1 : Nat) : Int))])), (a1, .inl (cI, 300, .inl f1)), (h4, .inr (3, [.ref a4, .int (iI (((T).length : Nat) : Int))])), (a4, .inl (cI, 300, .inl (apL f4 0 (T))))] H := hP
      have hD : va_D A [(ha, .inr (0, [.ref h3, .ref h1, .ref h4, .int (iI (((rv F n3 a0).2 : Nat) : Int)), .int (iI ((b0 : Nat) : Int)), .int (iI (ds : Int)), .int dc])), (h3, .inr (3, [.ref a3, .int (iI ((n3 : Nat) : Int))])), (a3, .inl (cI, 900, .inl (kN F))), (h1, .inr (3, [.ref a1, .int (iI ((n1 : Nat) : Int))])), (a1, .inl (cI, 300, .inl f1)), (h4, .inr (3, [.ref a4, .int (iI (((T).length : Nat) : Int))])), (a4, .inl (cI, 300, .inl (apL f4 0 (T))))] := hD
      refine W.widen (k := 0) (n := 0) (Nat.le_of_ble_eq_true rfl) (Nat.le_of_ble_eq_true rfl) ?_
      have hw : r31 = iI ((n1 : Nat) : Int) := hw
      subst hw
      refine lv_iload_n hx hb dX0_doCopy_34 rfl (lv_at hl 0 rfl) ?_
      refine lv_isub hx hb dX0_doCopy_35 ?_
      refine kn_i (iB (c := (((n1 : Nat) : Int) - (((b0 : Nat) : Int) + uz (rv F n3 a0).1.toNat : Int) : Int)) (by omega)) ?_
      refine lv_icmp_le (tgt := 42) hx hb dX0_doCopy_36 (by decide) (fun c36 => ?_) (fun c36 => ?_)
      · skip
        have c36 := iI_leT (a := ((len : Nat) : Int)) (b := (((n1 : Nat) : Int) - (((b0 : Nat) : Int) + uz (rv F n3 a0).1.toNat : Int) : Int)) c36 (by omega)
        refine lv_iload_n hx hb dX0_doCopy_42 rfl (lv_at hl 3 rfl) ?_
        refine lv_aload_n hx hb dX0_doCopy_43 rfl (lv_at hl 2 rfl) ?_
        refine va_get (D := D) (ci := 0) (v := .int (iI (ds : Int))) (C := RX0) (T := TX0) (N := 7) hx hb hts hi_X0 hown hK hP 0 rfl rfl 5 (by decide) fl28 (fun _ h9 => h9) rfl dX0_doCopy_44 ?_
        refine lv_aload_n hx hb dX0_doCopy_47 rfl (lv_at hl 2 rfl) ?_
        refine va_get (D := D) (ci := 0) (v := .ref h4) (C := RX0) (T := TX0) (N := 7) hx hb hts hi_X0 hown hK hP 0 rfl rfl 2 (by decide) fl18 (fun _ h9 => h9) rfl dX0_doCopy_48 ?_
        refine k_calli (wc := [(h4, .inr (3, [.ref a4, .int (iI (((T).length : Nat) : Int))])), (a4, .inl (cI, 300, .inl (apL f4 0 (T))))]) (wr := [(ha, .inr (0, [.ref h3, .ref h1, .ref h4, .int (iI (((rv F n3 a0).2 : Nat) : Int)), .int (iI ((b0 : Nat) : Int)), .int (iI (ds : Int)), .int dc])), (h3, .inr (3, [.ref a3, .int (iI ((n3 : Nat) : Int))])), (a3, .inl (cI, 900, .inl (kN F))), (h1, .inr (3, [.ref a1, .int (iI ((n1 : Nat) : Int))])), (a1, .inl (cI, 300, .inl f1))]) (wf := fun _ => [(ha, .inr (0, [.ref h3, .ref h1, .ref h4, .int (iI (((rv F n3 a0).2 : Nat) : Int)), .int (iI ((b0 : Nat) : Int)), .int (iI (ds : Int)), .int dc])), (h3, .inr (3, [.ref a3, .int (iI ((n3 : Nat) : Int))])), (a3, .inl (cI, 900, .inl (kN F))), (h1, .inr (3, [.ref a1, .int (iI ((n1 : Nat) : Int))])), (a1, .inl (cI, 300, .inl f1)), (h4, .inr (3, [.ref a4, .int (iI ((((T).length) : Nat) : Int))])), (a4, .inl (cI, 300, .inl (apL f4 0 (T))))]) hK hP hD hS hA [5, 6] [0, 1, 2, 3, 4] [0, 1, 2, 3, 4, 5, 6] ⟨⟨rfl, rfl, by decide⟩, rfl, by decide, by decide⟩ (fun _ => ⟨rfl, rfl⟩) (by decide) (fun hPc hDc => va_runV (As := []) (rest := [.int (iI (ds : Int)), .int (iI ((len : Nat) : Int))]) ⟨hx, hb, hml, hown, hts⟩ (c_Row_count l D cI cZ (h := h4) (a := a4) (M := 300) (n := (T).length) (f := (apL f4 0 (T)))  _) (cwV 0 hts (kgV wm358 wm193 wm194 wm39 wmcX3_count) rfl rfl rfl (by decide +kernel) ⟨Nat.le_of_ble_eq_true rfl, Nat.le_of_ble_eq_true rfl⟩) (k_preV hK hPc hDc (ci := 3) (q0 := 0) rfl rfl) rfl rfl hl.1 rfl (lv_room (Nat.le_of_ble_eq_true rfl)) dX0_doCopy_51 ⟨Nat.le_of_ble_eq_true rfl, Nat.le_of_ble_eq_true rfl⟩) (fun r51 u H locs hw hP hD hS => ?_)
        have hP : va_P D vwCl [(ha, .inr (0, [.ref h3, .ref h1, .ref h4, .int (iI (((rv F n3 a0).2 : Nat) : Int)), .int (iI ((b0 : Nat) : Int)), .int (iI (ds : Int)), .int dc])), (h3, .inr (3, [.ref a3, .int (iI ((n3 : Nat) : Int))])), (a3, .inl (cI, 900, .inl (kN F))), (h1, .inr (3, [.ref a1, .int (iI ((n1 : Nat) : Int))])), (a1, .inl (cI, 300, .inl f1)), (h4, .inr (3, [.ref a4, .int (iI ((((T).length) : Nat) : Int))])), (a4, .inl (cI, 300, .inl (apL f4 0 (T))))] H := hP
        have hD : va_D A [(ha, .inr (0, [.ref h3, .ref h1, .ref h4, .int (iI (((rv F n3 a0).2 : Nat) : Int)), .int (iI ((b0 : Nat) : Int)), .int (iI (ds : Int)), .int dc])), (h3, .inr (3, [.ref a3, .int (iI ((n3 : Nat) : Int))])), (a3, .inl (cI, 900, .inl (kN F))), (h1, .inr (3, [.ref a1, .int (iI ((n1 : Nat) : Int))])), (a1, .inl (cI, 300, .inl f1)), (h4, .inr (3, [.ref a4, .int (iI ((((T).length) : Nat) : Int))])), (a4, .inl (cI, 300, .inl (apL f4 0 (T))))] := hD
        refine W.widen (k := 0) (n := 0) (Nat.le_of_ble_eq_true rfl) (Nat.le_of_ble_eq_true rfl) ?_
        have hw : r51 = iI ((((T).length) : Nat) : Int) := hw
        subst hw
        refine lv_isub hx hb dX0_doCopy_54 ?_
        refine kn_i (iB (c := ((ds : Int) - ((((T).length) : Nat) : Int) : Int)) (by omega)) ?_
        refine lv_icmp_le (tgt := 61) hx hb dX0_doCopy_55 (by decide) (fun c55 => ?_) (fun c55 => ?_)
        · skip
          have c55 := iI_leT (a := ((len : Nat) : Int)) (b := ((ds : Int) - ((((T).length) : Nat) : Int) : Int)) c55 (by omega)
          rw [show iI (((b0 : Nat) : Int) + uz (rv F n3 a0).1.toNat : Int) = iI (((((b0 : Nat) : Int) + uz (rv F n3 a0).1.toNat).toNat : Nat) : Int) from congrArg iI (by omega)] at hl
          refine lv_aload_n hx hb dX0_doCopy_61 rfl (lv_at hl 2 rfl) ?_
          refine va_get (D := D) (ci := 0) (v := .ref h4) (C := RX0) (T := TX0) (N := 7) hx hb hts hi_X0 hown hK hP 0 rfl rfl 2 (by decide) fl18 (fun _ h9 => h9) rfl dX0_doCopy_62 ?_
          refine lv_aload_n hx hb dX0_doCopy_65 rfl (lv_at hl 2 rfl) ?_
          refine va_get (D := D) (ci := 0) (v := .ref h1) (C := RX0) (T := TX0) (N := 7) hx hb hts hi_X0 hown hK hP 0 rfl rfl 1 (by decide) fl15 (fun _ h9 => h9) rfl dX0_doCopy_66 ?_
          refine lv_iload_n hx hb dX0_doCopy_69 rfl (lv_at hl 0 rfl) ?_
          refine lv_iload_n hx hb dX0_doCopy_70 rfl (lv_at hl 3 rfl) ?_
          refine k_callv (wc := [(h4, .inr (3, [.ref a4, .int (iI ((((T).length) : Nat) : Int))])), (a4, .inl (cI, 300, .inl (apL f4 0 (T)))), (h1, .inr (3, [.ref a1, .int (iI ((n1 : Nat) : Int))])), (a1, .inl (cI, 300, .inl f1))]) (wr := [(ha, .inr (0, [.ref h3, .ref h1, .ref h4, .int (iI (((rv F n3 a0).2 : Nat) : Int)), .int (iI ((b0 : Nat) : Int)), .int (iI (ds : Int)), .int dc])), (h3, .inr (3, [.ref a3, .int (iI ((n3 : Nat) : Int))])), (a3, .inl (cI, 900, .inl (kN F)))]) (wf := fun _ => [(ha, .inr (0, [.ref h3, .ref h1, .ref h4, .int (iI (((rv F n3 a0).2 : Nat) : Int)), .int (iI ((b0 : Nat) : Int)), .int (iI (ds : Int)), .int dc])), (h3, .inr (3, [.ref a3, .int (iI ((n3 : Nat) : Int))])), (a3, .inl (cI, 900, .inl (kN F))), (h1, .inr (3, [.ref a1, .int (iI ((n1 : Nat) : Int))])), (a1, .inl (cI, 300, .inl f1)), (h4, .inr (3, [.ref a4, .int (iI ((((T).length) + len : Nat) : Int))])), (a4, .inl (cI, 300, .inl (apL (apL f4 0 (T)) ((T).length) (sl f1 ((((b0 : Nat) : Int) + uz (rv F n3 a0).1.toNat).toNat) len))))]) hK hP hD hS hA [5, 6, 3, 4] [0, 1, 2] [0, 1, 2, 5, 6, 3, 4] ⟨⟨rfl, rfl, by decide⟩, rfl, by decide, by decide⟩ (fun _ => ⟨rfl, rfl⟩) (by decide) (fun hPc hDc => va_runV (As := [.ref h1, .int (iI (((((b0 : Nat) : Int) + uz (rv F n3 a0).1.toNat).toNat : Nat) : Int)), .int (iI ((len : Nat) : Int))]) (rest := []) ⟨hx, hb, hml, hown, hts⟩ (c_Row_addFrom l D cI cZ (h := h4) (a := a4) (M := 300) (n := ((T).length)) (f := (apL f4 0 (T))) (h2 := h1) (a2 := a1) (M2 := 300) (n2 := n1) (g := f1) (st := (((b0 : Nat) : Int) + uz (rv F n3 a0).1.toNat).toNat) (k := len) (hM := by omega) (hM2 := by omega) (hn2 := by omega) (hst := by omega) (hk := by omega) _) (cwV 3 hts (kgV wm376 wm218 wm219 wm39 wmcX3_addFrom) rfl rfl rfl (by decide +kernel) ⟨Nat.le_of_ble_eq_true rfl, Nat.le_of_ble_eq_true rfl⟩) (k_preV hK hPc hDc (ci := 3) (q0 := 0) rfl rfl) rfl rfl hl.1 rfl (lv_room (Nat.le_of_ble_eq_true rfl)) dX0_doCopy_71 ⟨Nat.le_of_ble_eq_true rfl, Nat.le_of_ble_eq_true rfl⟩) (fun u H locs hw hP hD hS => ?_)
          have hP : va_P D vwCl [(ha, .inr (0, [.ref h3, .ref h1, .ref h4, .int (iI (((rv F n3 a0).2 : Nat) : Int)), .int (iI ((b0 : Nat) : Int)), .int (iI (ds : Int)), .int dc])), (h3, .inr (3, [.ref a3, .int (iI ((n3 : Nat) : Int))])), (a3, .inl (cI, 900, .inl (kN F))), (h1, .inr (3, [.ref a1, .int (iI ((n1 : Nat) : Int))])), (a1, .inl (cI, 300, .inl f1)), (h4, .inr (3, [.ref a4, .int (iI ((((T).length) + len : Nat) : Int))])), (a4, .inl (cI, 300, .inl (apL (apL f4 0 (T)) ((T).length) (sl f1 ((((b0 : Nat) : Int) + uz (rv F n3 a0).1.toNat).toNat) len))))] H := hP
          have hD : va_D A [(ha, .inr (0, [.ref h3, .ref h1, .ref h4, .int (iI (((rv F n3 a0).2 : Nat) : Int)), .int (iI ((b0 : Nat) : Int)), .int (iI (ds : Int)), .int dc])), (h3, .inr (3, [.ref a3, .int (iI ((n3 : Nat) : Int))])), (a3, .inl (cI, 900, .inl (kN F))), (h1, .inr (3, [.ref a1, .int (iI ((n1 : Nat) : Int))])), (a1, .inl (cI, 300, .inl f1)), (h4, .inr (3, [.ref a4, .int (iI ((((T).length) + len : Nat) : Int))])), (a4, .inl (cI, 300, .inl (apL (apL f4 0 (T)) ((T).length) (sl f1 ((((b0 : Nat) : Int) + uz (rv F n3 a0).1.toNat).toNat) len))))] := hD
          refine W.widen (k := 0) (n := 0) (Nat.le_of_ble_eq_true rfl) (Nat.le_of_ble_eq_true rfl) ?_
          rw [show (apL (apL f4 0 (T)) ((T).length) (sl f1 ((((b0 : Nat) : Int) + uz (rv F n3 a0).1.toNat).toNat) len)) = (apL f4 0 (T ++ sl f1 (((b0 : Nat) : Int) + uz (rv F n3 a0).1.toNat).toNat len)) from apL0] at hP hD
          rw [show iI ((((T).length) + len : Nat) : Int) = iI (((T ++ sl f1 (((b0 : Nat) : Int) + uz (rv F n3 a0).1.toNat).toNat len).length : Nat) : Int) from len_s] at hP hD
          refine lv_aload_n hx hb dX0_doCopy_74 rfl (lv_at hl 2 rfl) ?_
          refine lv_iload_n hx hb dX0_doCopy_75 rfl (lv_at hl 0 rfl) ?_
          refine lv_iload_n hx hb dX0_doCopy_76 rfl (lv_at hl 3 rfl) ?_
          refine lv_iadd hx hb dX0_doCopy_77 ?_
          refine kn_i (iA (c := ((((((b0 : Nat) : Int) + uz (rv F n3 a0).1.toNat).toNat + len) : Nat) : Int)) (by omega)) ?_
          refine va_put (D := D) (ci := 0) (v := .int (iI ((((((b0 : Nat) : Int) + uz (rv F n3 a0).1.toNat).toNat + len) : Nat) : Int))) (ty := .int) (C := RX0) (T := TX0) (N := 7) hx hb hts hi_X0 tyX0 tyX0_ok nmX0 hown hK hP hD hS 0 rfl rfl 4 (by decide) fl25 (fun _ h9 => h9) rfl (by decide +kernel) rfl rfl (Nat.le_of_ble_eq_true rfl) dX0_doCopy_78 (fun H locs hP hD hS => ?_)
          have hP : va_P D vwCl [(ha, .inr (0, [.ref h3, .ref h1, .ref h4, .int (iI (((rv F n3 a0).2 : Nat) : Int)), .int (iI ((((((b0 : Nat) : Int) + uz (rv F n3 a0).1.toNat).toNat + len) : Nat) : Int)), .int (iI (ds : Int)), .int dc])), (h3, .inr (3, [.ref a3, .int (iI ((n3 : Nat) : Int))])), (a3, .inl (cI, 900, .inl (kN F))), (h1, .inr (3, [.ref a1, .int (iI ((n1 : Nat) : Int))])), (a1, .inl (cI, 300, .inl f1)), (h4, .inr (3, [.ref a4, .int (iI (((T ++ sl f1 (((b0 : Nat) : Int) + uz (rv F n3 a0).1.toNat).toNat len).length : Nat) : Int))])), (a4, .inl (cI, 300, .inl (apL f4 0 (T ++ sl f1 (((b0 : Nat) : Int) + uz (rv F n3 a0).1.toNat).toNat len))))] H := hP
          have hD : va_D A [(ha, .inr (0, [.ref h3, .ref h1, .ref h4, .int (iI (((rv F n3 a0).2 : Nat) : Int)), .int (iI ((((((b0 : Nat) : Int) + uz (rv F n3 a0).1.toNat).toNat + len) : Nat) : Int)), .int (iI (ds : Int)), .int dc])), (h3, .inr (3, [.ref a3, .int (iI ((n3 : Nat) : Int))])), (a3, .inl (cI, 900, .inl (kN F))), (h1, .inr (3, [.ref a1, .int (iI ((n1 : Nat) : Int))])), (a1, .inl (cI, 300, .inl f1)), (h4, .inr (3, [.ref a4, .int (iI (((T ++ sl f1 (((b0 : Nat) : Int) + uz (rv F n3 a0).1.toNat).toNat len).length : Nat) : Int))])), (a4, .inl (cI, 300, .inl (apL f4 0 (T ++ sl f1 (((b0 : Nat) : Int) + uz (rv F n3 a0).1.toNat).toNat len))))] := hD
          refine lv_iconst (v := iI (0 : Int)) hx hb dX0_doCopy_81 rfl ?_
          have hE : cpF F n3 f1 n1 ds a0 b0 T len = (0, (rv F n3 a0).2, (((b0 : Nat) : Int) + uz (rv F n3 a0).1.toNat).toNat + len, T ++ sl f1 (((b0 : Nat) : Int) + uz (rv F n3 a0).1.toNat).toNat len) := by unfold cpF; rw [if_neg (by omega), if_neg (by omega), if_neg (by omega)]
          exact k_iret ((rv F n3 a0).2, (((b0 : Nat) : Int) + uz (rv F n3 a0).1.toNat).toNat + len, T ++ sl f1 (((b0 : Nat) : Int) + uz (rv F n3 a0).1.toNat).toNat len) hx hb hr hlocks hK hP hD hS [0, 1, 2, 3, 4, 5, 6] (by decide) rfl rfl (⟨by rw [hE], by rw [hE]⟩) hAe hQ dX0_doCopy_82
        · skip
          have c55 := iI_leF (a := ((len : Nat) : Int)) (b := ((ds : Int) - ((((T).length) : Nat) : Int) : Int)) c55 (by omega)
          refine lv_bipush (v := iI (-6 : Int)) hx hb dX0_doCopy_58 (by decide) ?_
          have hE : cpF F n3 f1 n1 ds a0 b0 T len = (-6, (rv F n3 a0).2, b0, T) := by unfold cpF; rw [if_neg (by omega), if_neg (by omega), if_pos (by omega)]
          exact k_iret ((rv F n3 a0).2, b0, T) hx hb hr hlocks hK hP hD hS [0, 1, 2, 3, 4, 5, 6] (by decide) rfl rfl (⟨by rw [hE], by rw [hE]⟩) hAe hQ dX0_doCopy_60
      · skip
        have c36 := iI_leF (a := ((len : Nat) : Int)) (b := (((n1 : Nat) : Int) - (((b0 : Nat) : Int) + uz (rv F n3 a0).1.toNat : Int) : Int)) c36 (by omega)
        refine lv_bipush (v := iI (-5 : Int)) hx hb dX0_doCopy_39 (by decide) ?_
        have hE : cpF F n3 f1 n1 ds a0 b0 T len = (-5, (rv F n3 a0).2, b0, T) := by unfold cpF; rw [if_neg (by omega), if_pos (by omega)]
        exact k_iret ((rv F n3 a0).2, b0, T) hx hb hr hlocks hK hP hD hS [0, 1, 2, 3, 4, 5, 6] (by decide) rfl rfl (⟨by rw [hE], by rw [hE]⟩) hAe hQ dX0_doCopy_41
  · skip
    have c7 := iI_eqT (a := ((rv F n3 a0).1 : Int)) (b := (-1 : Int)) c7 (by omega)
    refine lv_iconst (v := iI (-1 : Int)) hx hb dX0_doCopy_10 rfl ?_
    have hE : cpF F n3 f1 n1 ds a0 b0 T len = (-1, (rv F n3 a0).2, b0, T) := by unfold cpF; rw [if_pos (by omega)]
    exact k_iret ((rv F n3 a0).2, b0, T) hx hb hr hlocks hK hP hD hS [0, 1, 2, 3, 4, 5, 6] (by decide) rfl rfl (⟨by rw [hE], by rw [hE]⟩) hAe hQ dX0_doCopy_11

abbrev rm_c_Applier_doNext : Room := { frames := 3, cells := 0, slots := 0, locals := 69 }
set_option maxHeartbeats 4000000 in
set_option maxRecDepth 100000 in
theorem c_Applier_doNext (l : Launch) (D : va_G) (cI cZ : ClassId) (ha : Nat) (h3 : Nat) (h1 : Nat) (h4 : Nat) (a0 : Nat) (b0 : Nat) (ds : Int) (dc : Int32) (a3 : Nat) (n3 : Nat) (F : Nat → Nat) (a1 : Nat) (n1 : Nat) (f1 : Nat → Int32) (a4 : Nat) (f4 : Nat → Int32) (T : List Int32) (hat : a0 ≤ n3) (hn3 : n3 ≤ 900) (hB : ∀ j, j < n3 → F j < 256) (hn1 : n1 ≤ 300) (hb0 : b0 ≤ n1) (hds : 0 ≤ ds ∧ ds ≤ 300) (hTl : (T.length : Int) ≤ ds) : MI l yX0_doNext wsX0_doNext rm_c_Applier_doNext D (kT cI cZ) [.ref ha] [(ha, .inr (0, [.ref h3, .ref h1, .ref h4, .int (iI ((a0 : Nat) : Int)), .int (iI ((b0 : Nat) : Int)), .int (iI (ds : Int)), .int dc])), (h3, .inr (3, [.ref a3, .int (iI ((n3 : Nat) : Int))])), (a3, .inl (cI, 900, .inl (kN F))), (h1, .inr (3, [.ref a1, .int (iI ((n1 : Nat) : Int))])), (a1, .inl (cI, 300, .inl f1)), (h4, .inr (3, [.ref a4, .int (iI (((T).length : Nat) : Int))])), (a4, .inl (cI, 300, .inl (apL f4 0 (T))))] (fun (r : Int32) (u : Nat × Nat × List Int32) => r = iI (nxF F n3 f1 n1 ds a0 b0 T).1 ∧ u = (nxF F n3 f1 n1 ds a0 b0 T).2) (fun (u : Nat × Nat × List Int32) => match u with | ⟨a9, b9, T9⟩ => [(ha, .inr (0, [.ref h3, .ref h1, .ref h4, .int (iI ((a9 : Nat) : Int)), .int (iI ((b9 : Nat) : Int)), .int (iI (ds : Int)), .int dc])), (h3, .inr (3, [.ref a3, .int (iI ((n3 : Nat) : Int))])), (a3, .inl (cI, 900, .inl (kN F))), (h1, .inr (3, [.ref a1, .int (iI ((n1 : Nat) : Int))])), (a1, .inl (cI, 300, .inl f1)), (h4, .inr (3, [.ref a4, .int (iI (((T9).length : Nat) : Int))])), (a4, .inl (cI, 300, .inl (apL f4 0 (T9))))]) 0 0 := by
  intro sz
  refine k_of (cc := cX0_doNext) (maxL := 3) (ret := (some .int)) (by decide) rfl (Nat.le_of_ble_eq_true rfl) ?_
  intro p e s m args below meth c A Q hAe hQ hx hb hr hml hts hown hlocks hnm hP hK hD hS hA ls hl
  have hl : lv_has ls 3 [(0, .ref ha)] := hl
  refine lv_aload_n hx hb dX0_doNext_0 rfl (lv_at hl 0 rfl) ?_
  refine k_calli (wc := [(ha, .inr (0, [.ref h3, .ref h1, .ref h4, .int (iI ((a0 : Nat) : Int)), .int (iI ((b0 : Nat) : Int)), .int (iI (ds : Int)), .int dc])), (h3, .inr (3, [.ref a3, .int (iI ((n3 : Nat) : Int))])), (a3, .inl (cI, 900, .inl (kN F)))]) (wr := [(h1, .inr (3, [.ref a1, .int (iI ((n1 : Nat) : Int))])), (a1, .inl (cI, 300, .inl f1)), (h4, .inr (3, [.ref a4, .int (iI (((T).length : Nat) : Int))])), (a4, .inl (cI, 300, .inl (apL f4 0 (T))))]) (wf := fun _ => [(ha, .inr (0, [.ref h3, .ref h1, .ref h4, .int (iI (((rv F n3 a0).2 : Nat) : Int)), .int (iI ((b0 : Nat) : Int)), .int (iI (ds : Int)), .int dc])), (h3, .inr (3, [.ref a3, .int (iI ((n3 : Nat) : Int))])), (a3, .inl (cI, 900, .inl (kN F))), (h1, .inr (3, [.ref a1, .int (iI ((n1 : Nat) : Int))])), (a1, .inl (cI, 300, .inl f1)), (h4, .inr (3, [.ref a4, .int (iI (((T).length : Nat) : Int))])), (a4, .inl (cI, 300, .inl (apL f4 0 (T))))]) hK hP hD hS hA [0, 1, 2] [3, 4, 5, 6] [4, 5, 6, 0, 1, 2, 3] ⟨⟨rfl, rfl, by decide⟩, rfl, by decide, by decide⟩ (fun _ => ⟨rfl, rfl⟩) (by decide) (fun hPc hDc => va_runV (As := []) (rest := []) ⟨hx, hb, hml, hown, hts⟩ (c_Applier_readVarint l D cI cZ (ha := ha) (h3 := h3) (h1 := h1) (h4 := h4) (a0 := a0) (b0 := b0) (ds := ds) (dc := dc) (a3 := a3) (n3 := n3) (F := F) (hat := by omega) (hn3 := by omega) (hB := by omega) _) (cwV 0 hts (kgV wm349 wm351 wm5 wm42 wmcX0_readVarint) rfl rfl rfl (by decide +kernel) ⟨Nat.le_of_ble_eq_true rfl, Nat.le_of_ble_eq_true rfl⟩) (k_preV hK hPc hDc (ci := 0) (q0 := 0) rfl rfl) rfl rfl hl.1 rfl (lv_room (Nat.le_of_ble_eq_true rfl)) dX0_doNext_1 ⟨Nat.le_of_ble_eq_true rfl, Nat.le_of_ble_eq_true rfl⟩) (fun r1 u H locs hw hP hD hS => ?_)
  have hP : va_P D vwCl [(ha, .inr (0, [.ref h3, .ref h1, .ref h4, .int (iI (((rv F n3 a0).2 : Nat) : Int)), .int (iI ((b0 : Nat) : Int)), .int (iI (ds : Int)), .int dc])), (h3, .inr (3, [.ref a3, .int (iI ((n3 : Nat) : Int))])), (a3, .inl (cI, 900, .inl (kN F))), (h1, .inr (3, [.ref a1, .int (iI ((n1 : Nat) : Int))])), (a1, .inl (cI, 300, .inl f1)), (h4, .inr (3, [.ref a4, .int (iI (((T).length : Nat) : Int))])), (a4, .inl (cI, 300, .inl (apL f4 0 (T))))] H := hP
  have hD : va_D A [(ha, .inr (0, [.ref h3, .ref h1, .ref h4, .int (iI (((rv F n3 a0).2 : Nat) : Int)), .int (iI ((b0 : Nat) : Int)), .int (iI (ds : Int)), .int dc])), (h3, .inr (3, [.ref a3, .int (iI ((n3 : Nat) : Int))])), (a3, .inl (cI, 900, .inl (kN F))), (h1, .inr (3, [.ref a1, .int (iI ((n1 : Nat) : Int))])), (a1, .inl (cI, 300, .inl f1)), (h4, .inr (3, [.ref a4, .int (iI (((T).length : Nat) : Int))])), (a4, .inl (cI, 300, .inl (apL f4 0 (T))))] := hD
  refine W.widen (k := 0) (n := 0) (Nat.le_of_ble_eq_true rfl) (Nat.le_of_ble_eq_true rfl) ?_
  have hw : r1 = iI ((rv F n3 a0).1 : Int) := hw
  subst hw
  have hrv := rv_rng F n3 a0
  refine lv_istore_n (lv' := [(1, .int (iI ((rv F n3 a0).1 : Int))), (0, .ref ha)]) hx hb dX0_doNext_4 rfl hl (by decide) rfl (fun ls hl => ?_)
  refine lv_iload_n hx hb dX0_doNext_5 rfl (lv_at hl 0 rfl) ?_
  refine lv_iconst (v := iI (-1 : Int)) hx hb dX0_doNext_6 rfl ?_
  refine lv_icmp_ne (tgt := 12) hx hb dX0_doNext_7 (by decide) (fun c7 => ?_) (fun c7 => ?_)
  · skip
    have c7 := iI_eqF (a := ((rv F n3 a0).1 : Int)) (b := (-1 : Int)) c7 (by omega)
    refine lv_iload_n hx hb dX0_doNext_12 rfl (lv_at hl 0 rfl) ?_
    refine lv_iconst (v := iI (1 : Int)) hx hb dX0_doNext_13 rfl ?_
    refine lv_iushr hx hb dX0_doNext_14 rfl ?_
    refine kn_i (y := iI (((rv F n3 a0).1.toNat / 2 : Nat) : Int)) (b_ushr1' (by omega)) ?_
    refine lv_istore_n (lv' := [(2, .int (iI (((rv F n3 a0).1.toNat / 2 : Nat) : Int))), (1, .int (iI ((rv F n3 a0).1 : Int))), (0, .ref ha)]) hx hb dX0_doNext_15 rfl hl (by decide) rfl (fun ls hl => ?_)
    refine lv_iload_n hx hb dX0_doNext_16 rfl (lv_at hl 0 rfl) ?_
    refine lv_if_ne (tgt := 22) hx hb dX0_doNext_17 (by decide) (fun c17 => ?_) (fun c17 => ?_)
    · skip
      have c17 := iI_eqF (a := (((rv F n3 a0).1.toNat / 2 : Nat) : Int)) (b := (0 : Int)) c17 (by omega)
      refine lv_iload_n hx hb dX0_doNext_22 rfl (lv_at hl 1 rfl) ?_
      refine lv_iconst (v := iI (1 : Int)) hx hb dX0_doNext_23 rfl ?_
      refine lv_iand hx hb dX0_doNext_24 ?_
      refine kn_i (y := iI (((rv F n3 a0).1.toNat % 2 : Nat) : Int)) (b_and1' (by omega)) ?_
      refine lv_if_ne (tgt := 36) hx hb dX0_doNext_25 (by decide) (fun c25 => ?_) (fun c25 => ?_)
      · skip
        have c25 := iI_eqF (a := (((rv F n3 a0).1.toNat % 2 : Nat) : Int)) (b := (0 : Int)) c25 (by omega)
        refine lv_aload_n hx hb dX0_doNext_36 rfl (lv_at hl 2 rfl) ?_
        refine lv_iload_n hx hb dX0_doNext_37 rfl (lv_at hl 0 rfl) ?_
        refine k_calli (wc := [(ha, .inr (0, [.ref h3, .ref h1, .ref h4, .int (iI (((rv F n3 a0).2 : Nat) : Int)), .int (iI ((b0 : Nat) : Int)), .int (iI (ds : Int)), .int dc])), (h3, .inr (3, [.ref a3, .int (iI ((n3 : Nat) : Int))])), (a3, .inl (cI, 900, .inl (kN F))), (h1, .inr (3, [.ref a1, .int (iI ((n1 : Nat) : Int))])), (a1, .inl (cI, 300, .inl f1)), (h4, .inr (3, [.ref a4, .int (iI (((T).length : Nat) : Int))])), (a4, .inl (cI, 300, .inl (apL f4 0 (T))))]) (wr := []) (wf := fun u => match u with | ⟨a938, b938, T938⟩ => [(ha, .inr (0, [.ref h3, .ref h1, .ref h4, .int (iI ((a938 : Nat) : Int)), .int (iI ((b938 : Nat) : Int)), .int (iI (ds : Int)), .int dc])), (h3, .inr (3, [.ref a3, .int (iI ((n3 : Nat) : Int))])), (a3, .inl (cI, 900, .inl (kN F))), (h1, .inr (3, [.ref a1, .int (iI ((n1 : Nat) : Int))])), (a1, .inl (cI, 300, .inl f1)), (h4, .inr (3, [.ref a4, .int (iI (((T938).length : Nat) : Int))])), (a4, .inl (cI, 300, .inl (apL f4 0 (T938))))]) hK hP hD hS hA [0, 1, 2, 3, 4, 5, 6] [] [0, 1, 2, 3, 4, 5, 6] ⟨⟨rfl, rfl, by decide⟩, rfl, by decide, by decide⟩ (fun _ => ⟨rfl, rfl⟩) (by decide) (fun hPc hDc => va_runV (As := [.int (iI (((rv F n3 a0).1.toNat / 2 : Nat) : Int))]) (rest := []) ⟨hx, hb, hml, hown, hts⟩ (c_Applier_doCopy l D cI cZ (ha := ha) (h3 := h3) (h1 := h1) (h4 := h4) (a0 := (rv F n3 a0).2) (b0 := b0) (ds := ds) (dc := dc) (a3 := a3) (n3 := n3) (F := F) (a1 := a1) (n1 := n1) (f1 := f1) (a4 := a4) (f4 := f4) (T := T) (len := (rv F n3 a0).1.toNat / 2) (hat := by omega) (hn3 := by omega) (hB := by omega) (hn1 := by omega) (hb0 := by omega) (hds := by omega) (hTl := by omega) (hlen := by omega) _) (cwV 1 hts (kgV wm377 wm379 wm11 wm42 wmcX0_doCopy) rfl rfl rfl (by decide +kernel) ⟨Nat.le_of_ble_eq_true rfl, Nat.le_of_ble_eq_true rfl⟩) (k_preV hK hPc hDc (ci := 0) (q0 := 0) rfl rfl) rfl rfl hl.1 rfl (lv_room (Nat.le_of_ble_eq_true rfl)) dX0_doNext_38 ⟨Nat.le_of_ble_eq_true rfl, Nat.le_of_ble_eq_true rfl⟩) (fun r38 u H locs hw hP hD hS => ?_)
        obtain ⟨a938, b938, T938⟩ := u
        have hP : va_P D vwCl [(ha, .inr (0, [.ref h3, .ref h1, .ref h4, .int (iI ((a938 : Nat) : Int)), .int (iI ((b938 : Nat) : Int)), .int (iI (ds : Int)), .int dc])), (h3, .inr (3, [.ref a3, .int (iI ((n3 : Nat) : Int))])), (a3, .inl (cI, 900, .inl (kN F))), (h1, .inr (3, [.ref a1, .int (iI ((n1 : Nat) : Int))])), (a1, .inl (cI, 300, .inl f1)), (h4, .inr (3, [.ref a4, .int (iI (((T938).length : Nat) : Int))])), (a4, .inl (cI, 300, .inl (apL f4 0 (T938))))] H := hP
        have hD : va_D A [(ha, .inr (0, [.ref h3, .ref h1, .ref h4, .int (iI ((a938 : Nat) : Int)), .int (iI ((b938 : Nat) : Int)), .int (iI (ds : Int)), .int dc])), (h3, .inr (3, [.ref a3, .int (iI ((n3 : Nat) : Int))])), (a3, .inl (cI, 900, .inl (kN F))), (h1, .inr (3, [.ref a1, .int (iI ((n1 : Nat) : Int))])), (a1, .inl (cI, 300, .inl f1)), (h4, .inr (3, [.ref a4, .int (iI (((T938).length : Nat) : Int))])), (a4, .inl (cI, 300, .inl (apL f4 0 (T938))))] := hD
        refine W.widen (k := 0) (n := 0) (Nat.le_of_ble_eq_true rfl) (Nat.le_of_ble_eq_true rfl) ?_
        have hE : nxF F n3 f1 n1 ds a0 b0 T = cpF F n3 f1 n1 ds (rv F n3 a0).2 b0 T ((rv F n3 a0).1.toNat / 2) := by unfold nxF; rw [if_neg (by omega), if_neg (by omega), if_neg (by omega)]
        exact k_iret (a938, b938, T938) hx hb hr hlocks hK hP hD hS [0, 1, 2, 3, 4, 5, 6] (by decide) rfl rfl (by rw [hE]; exact hw) hAe hQ dX0_doNext_41
      · skip
        have c25 := iI_eqT (a := (((rv F n3 a0).1.toNat % 2 : Nat) : Int)) (b := (0 : Int)) c25 (by omega)
        refine lv_aload_n hx hb dX0_doNext_28 rfl (lv_at hl 2 rfl) ?_
        refine lv_iload_n hx hb dX0_doNext_29 rfl (lv_at hl 0 rfl) ?_
        refine k_calli (wc := [(ha, .inr (0, [.ref h3, .ref h1, .ref h4, .int (iI (((rv F n3 a0).2 : Nat) : Int)), .int (iI ((b0 : Nat) : Int)), .int (iI (ds : Int)), .int dc])), (h3, .inr (3, [.ref a3, .int (iI ((n3 : Nat) : Int))])), (a3, .inl (cI, 900, .inl (kN F))), (h4, .inr (3, [.ref a4, .int (iI (((T).length : Nat) : Int))])), (a4, .inl (cI, 300, .inl (apL f4 0 (T))))]) (wr := [(h1, .inr (3, [.ref a1, .int (iI ((n1 : Nat) : Int))])), (a1, .inl (cI, 300, .inl f1))]) (wf := fun u => match u with | ⟨a930, b930, T930⟩ => [(ha, .inr (0, [.ref h3, .ref h1, .ref h4, .int (iI ((a930 : Nat) : Int)), .int (iI ((b930 : Nat) : Int)), .int (iI (ds : Int)), .int dc])), (h3, .inr (3, [.ref a3, .int (iI ((n3 : Nat) : Int))])), (a3, .inl (cI, 900, .inl (kN F))), (h1, .inr (3, [.ref a1, .int (iI ((n1 : Nat) : Int))])), (a1, .inl (cI, 300, .inl f1)), (h4, .inr (3, [.ref a4, .int (iI (((T930).length : Nat) : Int))])), (a4, .inl (cI, 300, .inl (apL f4 0 (T930))))]) hK hP hD hS hA [0, 1, 2, 5, 6] [3, 4] [2, 3, 4, 0, 1, 5, 6] ⟨⟨rfl, rfl, by decide⟩, rfl, by decide, by decide⟩ (fun _ => ⟨rfl, rfl⟩) (by decide) (fun hPc hDc => va_runV (As := [.int (iI (((rv F n3 a0).1.toNat / 2 : Nat) : Int))]) (rest := []) ⟨hx, hb, hml, hown, hts⟩ (c_Applier_doAdd l D cI cZ (ha := ha) (h3 := h3) (h1 := h1) (h4 := h4) (a0 := (rv F n3 a0).2) (b0 := b0) (ds := ds) (dc := dc) (a3 := a3) (n3 := n3) (F := F) (a4 := a4) (f4 := f4) (T := T) (len := (rv F n3 a0).1.toNat / 2) (hat := by omega) (hn3 := by omega) (hds := by omega) (hTl := by omega) (hlen := by omega) _) (cwV 1 hts (kgV wm372 wm374 wm10 wm42 wmcX0_doAdd) rfl rfl rfl (by decide +kernel) ⟨Nat.le_of_ble_eq_true rfl, Nat.le_of_ble_eq_true rfl⟩) (k_preV hK hPc hDc (ci := 0) (q0 := 0) rfl rfl) rfl rfl hl.1 rfl (lv_room (Nat.le_of_ble_eq_true rfl)) dX0_doNext_30 ⟨Nat.le_of_ble_eq_true rfl, Nat.le_of_ble_eq_true rfl⟩) (fun r30 u H locs hw hP hD hS => ?_)
        obtain ⟨a930, b930, T930⟩ := u
        have hP : va_P D vwCl [(ha, .inr (0, [.ref h3, .ref h1, .ref h4, .int (iI ((a930 : Nat) : Int)), .int (iI ((b930 : Nat) : Int)), .int (iI (ds : Int)), .int dc])), (h3, .inr (3, [.ref a3, .int (iI ((n3 : Nat) : Int))])), (a3, .inl (cI, 900, .inl (kN F))), (h1, .inr (3, [.ref a1, .int (iI ((n1 : Nat) : Int))])), (a1, .inl (cI, 300, .inl f1)), (h4, .inr (3, [.ref a4, .int (iI (((T930).length : Nat) : Int))])), (a4, .inl (cI, 300, .inl (apL f4 0 (T930))))] H := hP
        have hD : va_D A [(ha, .inr (0, [.ref h3, .ref h1, .ref h4, .int (iI ((a930 : Nat) : Int)), .int (iI ((b930 : Nat) : Int)), .int (iI (ds : Int)), .int dc])), (h3, .inr (3, [.ref a3, .int (iI ((n3 : Nat) : Int))])), (a3, .inl (cI, 900, .inl (kN F))), (h1, .inr (3, [.ref a1, .int (iI ((n1 : Nat) : Int))])), (a1, .inl (cI, 300, .inl f1)), (h4, .inr (3, [.ref a4, .int (iI (((T930).length : Nat) : Int))])), (a4, .inl (cI, 300, .inl (apL f4 0 (T930))))] := hD
        refine W.widen (k := 0) (n := 0) (Nat.le_of_ble_eq_true rfl) (Nat.le_of_ble_eq_true rfl) ?_
        refine lv_goto (tgt := 41) hx hb dX0_doNext_33 (by decide) ?_
        have hE : nxF F n3 f1 n1 ds a0 b0 T = adF F n3 ds (rv F n3 a0).2 b0 T ((rv F n3 a0).1.toNat / 2) := by unfold nxF; rw [if_neg (by omega), if_neg (by omega), if_pos (by omega)]
        exact k_iret (a930, b930, T930) hx hb hr hlocks hK hP hD hS [0, 1, 2, 3, 4, 5, 6] (by decide) rfl rfl (by rw [hE]; exact hw) hAe hQ dX0_doNext_41
    · skip
      have c17 := iI_eqT (a := (((rv F n3 a0).1.toNat / 2 : Nat) : Int)) (b := (0 : Int)) c17 (by omega)
      refine lv_iconst (v := iI (-1 : Int)) hx hb dX0_doNext_20 rfl ?_
      have hE : nxF F n3 f1 n1 ds a0 b0 T = (-1, (rv F n3 a0).2, b0, T) := by unfold nxF; rw [if_neg (by omega), if_pos (by omega)]
      exact k_iret ((rv F n3 a0).2, b0, T) hx hb hr hlocks hK hP hD hS [0, 1, 2, 3, 4, 5, 6] (by decide) rfl rfl (⟨by rw [hE], by rw [hE]⟩) hAe hQ dX0_doNext_21
  · skip
    have c7 := iI_eqT (a := ((rv F n3 a0).1 : Int)) (b := (-1 : Int)) c7 (by omega)
    refine lv_iconst (v := iI (-1 : Int)) hx hb dX0_doNext_10 rfl ?_
    have hE : nxF F n3 f1 n1 ds a0 b0 T = (-1, (rv F n3 a0).2, b0, T) := by unfold nxF; rw [if_pos (by omega)]
    exact k_iret ((rv F n3 a0).2, b0, T) hx hb hr hlocks hK hP hD hS [0, 1, 2, 3, 4, 5, 6] (by decide) rfl rfl (⟨by rw [hE], by rw [hE]⟩) hAe hQ dX0_doNext_11

abbrev rm_c_Applier_doAll : Room := { frames := 4, cells := 0, slots := 0, locals := 91 }
set_option maxHeartbeats 4000000 in
set_option maxRecDepth 100000 in
theorem c_Applier_doAll (l : Launch) (D : va_G) (cI cZ : ClassId) (ha : Nat) (h3 : Nat) (h1 : Nat) (h4 : Nat) (a0 : Nat) (b0 : Nat) (ds : Int) (dc : Int32) (a3 : Nat) (n3 : Nat) (F : Nat → Nat) (a1 : Nat) (n1 : Nat) (f1 : Nat → Int32) (a4 : Nat) (f4 : Nat → Int32) (T : List Int32) (hat : a0 ≤ n3) (hn3 : n3 ≤ 900) (hB : ∀ j, j < n3 → F j < 256) (hn1 : n1 ≤ 300) (hb0 : b0 ≤ n1) (hds : 0 ≤ ds ∧ ds ≤ 300) (hTl : (T.length : Int) ≤ ds) : MI l yX0_doAll wsX0_doAll rm_c_Applier_doAll D (kT cI cZ) [.ref ha] [(ha, .inr (0, [.ref h3, .ref h1, .ref h4, .int (iI ((a0 : Nat) : Int)), .int (iI ((b0 : Nat) : Int)), .int (iI (ds : Int)), .int dc])), (h3, .inr (3, [.ref a3, .int (iI ((n3 : Nat) : Int))])), (a3, .inl (cI, 900, .inl (kN F))), (h1, .inr (3, [.ref a1, .int (iI ((n1 : Nat) : Int))])), (a1, .inl (cI, 300, .inl f1)), (h4, .inr (3, [.ref a4, .int (iI (((T).length : Nat) : Int))])), (a4, .inl (cI, 300, .inl (apL f4 0 (T))))] (fun (r : Int32) (u : Nat × Nat × List Int32) => r = iI (alF F n3 f1 n1 ds 900 a0 b0 T).1 ∧ u = (alF F n3 f1 n1 ds 900 a0 b0 T).2) (fun (u : Nat × Nat × List Int32) => match u with | ⟨a9, b9, T9⟩ => [(ha, .inr (0, [.ref h3, .ref h1, .ref h4, .int (iI ((a9 : Nat) : Int)), .int (iI ((b9 : Nat) : Int)), .int (iI (ds : Int)), .int dc])), (h3, .inr (3, [.ref a3, .int (iI ((n3 : Nat) : Int))])), (a3, .inl (cI, 900, .inl (kN F))), (h1, .inr (3, [.ref a1, .int (iI ((n1 : Nat) : Int))])), (a1, .inl (cI, 300, .inl f1)), (h4, .inr (3, [.ref a4, .int (iI (((T9).length : Nat) : Int))])), (a4, .inl (cI, 300, .inl (apL f4 0 (T9))))]) 0 0 := by
  intro sz
  refine k_of (cc := cX0_doAll) (maxL := 3) (ret := (some .int)) (by decide) rfl (Nat.le_of_ble_eq_true rfl) ?_
  intro p e s m args below meth c A Q hAe hQ hx hb hr hml hts hown hlocks hnm hP hK hD hS hA ls hl
  have hl : lv_has ls 3 [(0, .ref ha)] := hl
  refine lv_iconst (v := iI (0 : Int)) hx hb dX0_doAll_0 rfl ?_
  refine lv_istore_n (lv' := [(1, .int (iI (0 : Int))), (0, .ref ha)]) hx hb dX0_doAll_1 rfl hl (by decide) rfl (fun ls hl => ?_)
  refine lv_iconst (v := iI ((0 : Nat) : Int)) hx hb dX0_doAll_2 rfl ?_
  refine lv_istore_n (lv' := [(2, .int (iI ((0 : Nat) : Int))), (1, .int (iI (0 : Int))), (0, .ref ha)]) hx hb dX0_doAll_3 rfl hl (by decide) rfl (fun ls hl => ?_)
  have lp4 : ∀ (fu : Nat) (t : Nat) (z : Int) (a9 : Nat) (b9 : Nat) (T9 : List Int32) (H : Heap) (locs : List Loc) (ls : Array Slot), 900 - t < fu → (t ≤ 900) → (-8 ≤ z ∧ z ≤ 0) → (a9 ≤ n3) → (b9 ≤ n1) → ((T9.length : Int) ≤ ds) → ((z = 0 ∧ alF F n3 f1 n1 ds (900 - t) a9 b9 T9 = alF F n3 f1 n1 ds 900 a0 b0 T) ∨ (¬ z = 0 ∧ (z, a9, b9, T9) = alF F n3 f1 n1 ds 900 a0 b0 T)) → va_P D vwCl [(ha, .inr (0, [.ref h3, .ref h1, .ref h4, .int (iI ((a9 : Nat) : Int)), .int (iI ((b9 : Nat) : Int)), .int (iI (ds : Int)), .int dc])), (h3, .inr (3, [.ref a3, .int (iI ((n3 : Nat) : Int))])), (a3, .inl (cI, 900, .inl (kN F))), (h1, .inr (3, [.ref a1, .int (iI ((n1 : Nat) : Int))])), (a1, .inl (cI, 300, .inl f1)), (h4, .inr (3, [.ref a4, .int (iI (((T9).length : Nat) : Int))])), (a4, .inl (cI, 300, .inl (apL f4 0 (T9))))] H → va_D A [(ha, .inr (0, [.ref h3, .ref h1, .ref h4, .int (iI ((a9 : Nat) : Int)), .int (iI ((b9 : Nat) : Int)), .int (iI (ds : Int)), .int dc])), (h3, .inr (3, [.ref a3, .int (iI ((n3 : Nat) : Int))])), (a3, .inl (cI, 900, .inl (kN F))), (h1, .inr (3, [.ref a1, .int (iI ((n1 : Nat) : Int))])), (a1, .inl (cI, 300, .inl f1)), (h4, .inr (3, [.ref a4, .int (iI (((T9).length : Nat) : Int))])), (a4, .inl (cI, 300, .inl (apL f4 0 (T9))))] → va_S A s.heap H locs → lv_has ls 3 [(0, .ref ha), (1, .int (iI (z : Int))), (2, .int (iI ((t : Nat) : Int)))] → W p l e rm_c_Applier_doAll s m args below meth c H locs 0 0 Q (F0 m 4 ls []) := by
    intro fu
    induction fu with
    | zero => intro t z a9 b9 T9 H locs ls hfu; exact absurd hfu (Nat.not_lt_zero _)
    | succ fu ih4 =>
      intro t z a9 b9 T9 H locs ls hfu ht hz ha9 hb9 hT9 hR hP hD hS hl
      refine lv_iload_n hx hb dX0_doAll_4 rfl (lv_at hl 2 rfl) ?_
      refine lv_sipush (v := iI (900 : Int)) hx hb dX0_doAll_5 (by decide) ?_
      refine lv_icmp_ge (tgt := 33) hx hb dX0_doAll_8 (by decide) (fun c8 => ?_) (fun c8 => ?_)
      · skip
        have c8 := iI_leT (a := (900 : Int)) (b := ((t : Nat) : Int)) c8 (by omega)
        refine lv_iload_n hx hb dX0_doAll_33 rfl (lv_at hl 1 rfl) ?_
        have hE : alF F n3 f1 n1 ds 900 a0 b0 T = (z, a9, b9, T9) := by
          rcases hR with ⟨h0, h⟩ | ⟨h0, h⟩
          · first | (exfalso; omega) | (rw [← h, alF_e (by omega), h0])
          · exact h.symm
        exact k_iret (a9, b9, T9) hx hb hr hlocks hK hP hD hS [0, 1, 2, 3, 4, 5, 6] (by decide) rfl rfl (⟨by rw [hE], by rw [hE]⟩) hAe hQ dX0_doAll_34
      · skip
        have c8 := iI_leF (a := (900 : Int)) (b := ((t : Nat) : Int)) c8 (by omega)
        refine lv_iload_n hx hb dX0_doAll_11 rfl (lv_at hl 1 rfl) ?_
        refine lv_if_ne (tgt := 33) hx hb dX0_doAll_12 (by decide) (fun c12 => ?_) (fun c12 => ?_)
        · skip
          have c12 := iI_eqF (a := (z : Int)) (b := (0 : Int)) c12 (by omega)
          refine lv_iload_n hx hb dX0_doAll_33 rfl (lv_at hl 1 rfl) ?_
          have hE : alF F n3 f1 n1 ds 900 a0 b0 T = (z, a9, b9, T9) := by
            rcases hR with ⟨h0, h⟩ | ⟨h0, h⟩
            · first | (exfalso; omega) | (rw [← h, alF_e (by omega), h0])
            · exact h.symm
          exact k_iret (a9, b9, T9) hx hb hr hlocks hK hP hD hS [0, 1, 2, 3, 4, 5, 6] (by decide) rfl rfl (⟨by rw [hE], by rw [hE]⟩) hAe hQ dX0_doAll_34
        · skip
          have c12 := iI_eqT (a := (z : Int)) (b := (0 : Int)) c12 (by omega)
          refine lv_aload_n hx hb dX0_doAll_15 rfl (lv_at hl 0 rfl) ?_
          refine k_calli (wc := [(ha, .inr (0, [.ref h3, .ref h1, .ref h4, .int (iI ((a9 : Nat) : Int)), .int (iI ((b9 : Nat) : Int)), .int (iI (ds : Int)), .int dc])), (h3, .inr (3, [.ref a3, .int (iI ((n3 : Nat) : Int))])), (a3, .inl (cI, 900, .inl (kN F)))]) (wr := [(h1, .inr (3, [.ref a1, .int (iI ((n1 : Nat) : Int))])), (a1, .inl (cI, 300, .inl f1)), (h4, .inr (3, [.ref a4, .int (iI (((T9).length : Nat) : Int))])), (a4, .inl (cI, 300, .inl (apL f4 0 (T9))))]) (wf := fun _ => [(ha, .inr (0, [.ref h3, .ref h1, .ref h4, .int (iI ((a9 : Nat) : Int)), .int (iI ((b9 : Nat) : Int)), .int (iI (ds : Int)), .int dc])), (h3, .inr (3, [.ref a3, .int (iI ((n3 : Nat) : Int))])), (a3, .inl (cI, 900, .inl (kN F))), (h1, .inr (3, [.ref a1, .int (iI ((n1 : Nat) : Int))])), (a1, .inl (cI, 300, .inl f1)), (h4, .inr (3, [.ref a4, .int (iI (((T9).length : Nat) : Int))])), (a4, .inl (cI, 300, .inl (apL f4 0 (T9))))]) hK hP hD hS hA [0, 1, 2] [3, 4, 5, 6] [4, 5, 6, 0, 1, 2, 3] ⟨⟨rfl, rfl, by decide⟩, rfl, by decide, by decide⟩ (fun _ => ⟨rfl, rfl⟩) (by decide) (fun hPc hDc => va_runV (As := []) (rest := []) ⟨hx, hb, hml, hown, hts⟩ (c_Applier_unread l D cI cZ (ha := ha) (h3 := h3) (h1 := h1) (h4 := h4) (a0 := a9) (b0 := b9) (ds := ds) (dc := dc) (a3 := a3) (n3 := n3) (F := F) (hat := by omega) (hn3 := by omega) _) (cwV 0 hts (kgV wm354 wm356 wm6 wm42 wmcX0_unread) rfl rfl rfl (by decide +kernel) ⟨Nat.le_of_ble_eq_true rfl, Nat.le_of_ble_eq_true rfl⟩) (k_preV hK hPc hDc (ci := 0) (q0 := 0) rfl rfl) rfl rfl hl.1 rfl (lv_room (Nat.le_of_ble_eq_true rfl)) dX0_doAll_16 ⟨Nat.le_of_ble_eq_true rfl, Nat.le_of_ble_eq_true rfl⟩) (fun r16 u H locs hw hP hD hS => ?_)
          have hP : va_P D vwCl [(ha, .inr (0, [.ref h3, .ref h1, .ref h4, .int (iI ((a9 : Nat) : Int)), .int (iI ((b9 : Nat) : Int)), .int (iI (ds : Int)), .int dc])), (h3, .inr (3, [.ref a3, .int (iI ((n3 : Nat) : Int))])), (a3, .inl (cI, 900, .inl (kN F))), (h1, .inr (3, [.ref a1, .int (iI ((n1 : Nat) : Int))])), (a1, .inl (cI, 300, .inl f1)), (h4, .inr (3, [.ref a4, .int (iI (((T9).length : Nat) : Int))])), (a4, .inl (cI, 300, .inl (apL f4 0 (T9))))] H := hP
          have hD : va_D A [(ha, .inr (0, [.ref h3, .ref h1, .ref h4, .int (iI ((a9 : Nat) : Int)), .int (iI ((b9 : Nat) : Int)), .int (iI (ds : Int)), .int dc])), (h3, .inr (3, [.ref a3, .int (iI ((n3 : Nat) : Int))])), (a3, .inl (cI, 900, .inl (kN F))), (h1, .inr (3, [.ref a1, .int (iI ((n1 : Nat) : Int))])), (a1, .inl (cI, 300, .inl f1)), (h4, .inr (3, [.ref a4, .int (iI (((T9).length : Nat) : Int))])), (a4, .inl (cI, 300, .inl (apL f4 0 (T9))))] := hD
          refine W.widen (k := 0) (n := 0) (Nat.le_of_ble_eq_true rfl) (Nat.le_of_ble_eq_true rfl) ?_
          have hw : r16 = iI (((n3 - a9) : Nat) : Int) := hw
          subst hw
          refine lv_if_le (tgt := 33) hx hb dX0_doAll_19 (by decide) (fun c19 => ?_) (fun c19 => ?_)
          · skip
            have c19 := iI_leT (a := (((n3 - a9) : Nat) : Int)) (b := (0 : Int)) c19 (by omega)
            refine lv_iload_n hx hb dX0_doAll_33 rfl (lv_at hl 1 rfl) ?_
            have hE : alF F n3 f1 n1 ds 900 a0 b0 T = (z, a9, b9, T9) := by
              rcases hR with ⟨h0, h⟩ | ⟨h0, h⟩
              · first | (exfalso; omega) | (rw [← h, alF_e (by omega), h0])
              · exact h.symm
            exact k_iret (a9, b9, T9) hx hb hr hlocks hK hP hD hS [0, 1, 2, 3, 4, 5, 6] (by decide) rfl rfl (⟨by rw [hE], by rw [hE]⟩) hAe hQ dX0_doAll_34
          · skip
            have c19 := iI_leF (a := (((n3 - a9) : Nat) : Int)) (b := (0 : Int)) c19 (by omega)
            refine lv_aload_n hx hb dX0_doAll_22 rfl (lv_at hl 0 rfl) ?_
            refine k_calli (wc := [(ha, .inr (0, [.ref h3, .ref h1, .ref h4, .int (iI ((a9 : Nat) : Int)), .int (iI ((b9 : Nat) : Int)), .int (iI (ds : Int)), .int dc])), (h3, .inr (3, [.ref a3, .int (iI ((n3 : Nat) : Int))])), (a3, .inl (cI, 900, .inl (kN F))), (h1, .inr (3, [.ref a1, .int (iI ((n1 : Nat) : Int))])), (a1, .inl (cI, 300, .inl f1)), (h4, .inr (3, [.ref a4, .int (iI (((T9).length : Nat) : Int))])), (a4, .inl (cI, 300, .inl (apL f4 0 (T9))))]) (wr := []) (wf := fun u => match u with | ⟨a8, b8, T8⟩ => [(ha, .inr (0, [.ref h3, .ref h1, .ref h4, .int (iI ((a8 : Nat) : Int)), .int (iI ((b8 : Nat) : Int)), .int (iI (ds : Int)), .int dc])), (h3, .inr (3, [.ref a3, .int (iI ((n3 : Nat) : Int))])), (a3, .inl (cI, 900, .inl (kN F))), (h1, .inr (3, [.ref a1, .int (iI ((n1 : Nat) : Int))])), (a1, .inl (cI, 300, .inl f1)), (h4, .inr (3, [.ref a4, .int (iI (((T8).length : Nat) : Int))])), (a4, .inl (cI, 300, .inl (apL f4 0 (T8))))]) hK hP hD hS hA [0, 1, 2, 3, 4, 5, 6] [] [0, 1, 2, 3, 4, 5, 6] ⟨⟨rfl, rfl, by decide⟩, rfl, by decide, by decide⟩ (fun _ => ⟨rfl, rfl⟩) (by decide) (fun hPc hDc => va_runV (As := []) (rest := []) ⟨hx, hb, hml, hown, hts⟩ (c_Applier_doNext l D cI cZ (ha := ha) (h3 := h3) (h1 := h1) (h4 := h4) (a0 := a9) (b0 := b9) (ds := ds) (dc := dc) (a3 := a3) (n3 := n3) (F := F) (a1 := a1) (n1 := n1) (f1 := f1) (a4 := a4) (f4 := f4) (T := T9) (hat := by omega) (hn3 := by omega) (hB := by omega) (hn1 := by omega) (hb0 := by omega) (hds := by omega) (hTl := by omega) _) (cwV 0 hts (kgV wm368 wm370 wm9 wm42 wmcX0_doNext) rfl rfl rfl (by decide +kernel) ⟨Nat.le_of_ble_eq_true rfl, Nat.le_of_ble_eq_true rfl⟩) (k_preV hK hPc hDc (ci := 0) (q0 := 0) rfl rfl) rfl rfl hl.1 rfl (lv_room (Nat.le_of_ble_eq_true rfl)) dX0_doAll_23 ⟨Nat.le_of_ble_eq_true rfl, Nat.le_of_ble_eq_true rfl⟩) (fun r23 u H locs hw hP hD hS => ?_)
            obtain ⟨a8, b8, T8⟩ := u
            have hP : va_P D vwCl [(ha, .inr (0, [.ref h3, .ref h1, .ref h4, .int (iI ((a8 : Nat) : Int)), .int (iI ((b8 : Nat) : Int)), .int (iI (ds : Int)), .int dc])), (h3, .inr (3, [.ref a3, .int (iI ((n3 : Nat) : Int))])), (a3, .inl (cI, 900, .inl (kN F))), (h1, .inr (3, [.ref a1, .int (iI ((n1 : Nat) : Int))])), (a1, .inl (cI, 300, .inl f1)), (h4, .inr (3, [.ref a4, .int (iI (((T8).length : Nat) : Int))])), (a4, .inl (cI, 300, .inl (apL f4 0 (T8))))] H := hP
            have hD : va_D A [(ha, .inr (0, [.ref h3, .ref h1, .ref h4, .int (iI ((a8 : Nat) : Int)), .int (iI ((b8 : Nat) : Int)), .int (iI (ds : Int)), .int dc])), (h3, .inr (3, [.ref a3, .int (iI ((n3 : Nat) : Int))])), (a3, .inl (cI, 900, .inl (kN F))), (h1, .inr (3, [.ref a1, .int (iI ((n1 : Nat) : Int))])), (a1, .inl (cI, 300, .inl f1)), (h4, .inr (3, [.ref a4, .int (iI (((T8).length : Nat) : Int))])), (a4, .inl (cI, 300, .inl (apL f4 0 (T8))))] := hD
            refine W.widen (k := 0) (n := 0) (Nat.le_of_ble_eq_true rfl) (Nat.le_of_ble_eq_true rfl) ?_
            obtain ⟨hw1, hw2⟩ := hw
            obtain ⟨e1, e2, e3⟩ : a8 = (nxF F n3 f1 n1 ds a9 b9 T9).2.1 ∧ b8 = (nxF F n3 f1 n1 ds a9 b9 T9).2.2.1 ∧ T8 = (nxF F n3 f1 n1 ds a9 b9 T9).2.2.2 := by rw [← hw2]; exact ⟨rfl, rfl, rfl⟩
            subst hw1
            have hnw := nxF_w (F := F) (f1 := f1) ha9 hb9 hT9
            have hal := al_step (show t < 900 by omega) (show a9 < n3 by omega) (hR.elim (fun h => h.2) (fun h => absurd c12 h.1))
            refine lv_istore_n (lv' := [(1, .int (iI ((nxF F n3 f1 n1 ds a9 b9 T9).1 : Int))), (0, .ref ha), (2, .int (iI ((t : Nat) : Int)))]) hx hb dX0_doAll_26 rfl hl (by decide) rfl (fun ls hl => ?_)
            refine lv_iinc (v := iI ((t + 1 : Nat) : Int)) (lv' := [(2, .int (iI ((t + 1 : Nat) : Int))), (1, .int (iI ((nxF F n3 f1 n1 ds a9 b9 T9).1 : Int))), (0, .ref ha)]) hx hb dX0_doAll_27 hl (k := 2) rfl (iA (by omega)) (by decide) rfl (fun ls hl => ?_)
            refine lv_goto (tgt := 4) hx hb dX0_doAll_30 (by decide) ?_
            exact ih4 (t + 1) ((nxF F n3 f1 n1 ds a9 b9 T9).1) a8 b8 T8 _ _ _ (by omega) (by omega) hnw.1 (by rw [e1]; exact hnw.2.1) (by rw [e2]; exact hnw.2.2.1) (by rw [e3]; exact hnw.2.2.2) (by rw [e1, e2, e3]; exact hal) hP hD hS (lv_sub hl [2, 1, 0] rfl)
  exact lp4 _ 0 0 a0 b0 T _ _ _ (Nat.lt_succ_self _) (by omega) (by omega) (by omega) (by omega) hTl (Or.inl ⟨rfl, rfl⟩) hP hD hS (lv_sub hl [2, 1, 0] rfl)

abbrev rm_c_Applier_judgeResult : Room := { frames := 1, cells := 0, slots := 0, locals := 23 }
set_option maxHeartbeats 4000000 in
set_option maxRecDepth 100000 in
theorem c_Applier_judgeResult (l : Launch) (D : va_G) (cI cZ : ClassId) (ha : Nat) (h3 : Nat) (h1 : Nat) (h4 : Nat) (a0 : Nat) (b0 : Nat) (ds : Int) (dc : Int32) (a4 : Nat) (f4 : Nat → Int32) (T : List Int32) (hds : 0 ≤ ds ∧ ds ≤ 300) (hTl : (T.length : Int) ≤ ds) : MI l yX0_judgeResult wsX0_judgeResult rm_c_Applier_judgeResult D (kT cI cZ) [.ref ha] [(ha, .inr (0, [.ref h3, .ref h1, .ref h4, .int (iI ((a0 : Nat) : Int)), .int (iI ((b0 : Nat) : Int)), .int (iI (ds : Int)), .int dc])), (h4, .inr (3, [.ref a4, .int (iI (((T).length : Nat) : Int))])), (a4, .inl (cI, 300, .inl (apL f4 0 (T))))] (fun (r : Int32) (_ : Unit) => r = iI (jdF ds dc T : Int)) (fun (u : Unit) => match u with | _ => [(ha, .inr (0, [.ref h3, .ref h1, .ref h4, .int (iI ((a0 : Nat) : Int)), .int (iI ((b0 : Nat) : Int)), .int (iI (ds : Int)), .int dc])), (h4, .inr (3, [.ref a4, .int (iI (((T).length : Nat) : Int))])), (a4, .inl (cI, 300, .inl (apL f4 0 (T))))]) 0 0 := by
  intro sz
  refine k_of (cc := cX0_judgeResult) (maxL := 1) (ret := (some .int)) (by decide) rfl (Nat.le_of_ble_eq_true rfl) ?_
  intro p e s m args below meth c A Q hAe hQ hx hb hr hml hts hown hlocks hnm hP hK hD hS hA ls hl
  have hl : lv_has ls 1 [(0, .ref ha)] := hl
  have hi_X0 : ∀ w ∈ u_ws RX0 TX0 7, w ∈ wsX0_judgeResult := fun w h => km (ikX0 w h)
  have fl18 := hts _ (km wm105)
  have fl28 := hts _ (km wm108)
  have fl31 := hts _ (km wm109)
  refine lv_aload_n hx hb dX0_judgeResult_0 rfl (lv_at hl 0 rfl) ?_
  refine va_get (D := D) (ci := 0) (v := .ref h4) (C := RX0) (T := TX0) (N := 7) hx hb hts hi_X0 hown hK hP 0 rfl rfl 2 (by decide) fl18 (fun _ h9 => h9) rfl dX0_judgeResult_1 ?_
  refine k_calli (wc := [(h4, .inr (3, [.ref a4, .int (iI (((T).length : Nat) : Int))])), (a4, .inl (cI, 300, .inl (apL f4 0 (T))))]) (wr := [(ha, .inr (0, [.ref h3, .ref h1, .ref h4, .int (iI ((a0 : Nat) : Int)), .int (iI ((b0 : Nat) : Int)), .int (iI (ds : Int)), .int dc]))]) (wf := fun _ => [(ha, .inr (0, [.ref h3, .ref h1, .ref h4, .int (iI ((a0 : Nat) : Int)), .int (iI ((b0 : Nat) : Int)), .int (iI (ds : Int)), .int dc])), (h4, .inr (3, [.ref a4, .int (iI ((((T).length) : Nat) : Int))])), (a4, .inl (cI, 300, .inl (apL f4 0 (T))))]) hK hP hD hS hA [1, 2] [0] [0, 1, 2] ⟨⟨rfl, rfl, by decide⟩, rfl, by decide, by decide⟩ (fun _ => ⟨rfl, rfl⟩) (by decide) (fun hPc hDc => va_runV (As := []) (rest := []) ⟨hx, hb, hml, hown, hts⟩ (c_Row_count l D cI cZ (h := h4) (a := a4) (M := 300) (n := (T).length) (f := (apL f4 0 (T)))  _) (cwV 0 hts (kgV wm358 wm193 wm194 wm39 wmcX3_count) rfl rfl rfl (by decide +kernel) ⟨Nat.le_of_ble_eq_true rfl, Nat.le_of_ble_eq_true rfl⟩) (k_preV hK hPc hDc (ci := 3) (q0 := 0) rfl rfl) rfl rfl hl.1 rfl (lv_room (Nat.le_of_ble_eq_true rfl)) dX0_judgeResult_4 ⟨Nat.le_of_ble_eq_true rfl, Nat.le_of_ble_eq_true rfl⟩) (fun r4 u H locs hw hP hD hS => ?_)
  have hP : va_P D vwCl [(ha, .inr (0, [.ref h3, .ref h1, .ref h4, .int (iI ((a0 : Nat) : Int)), .int (iI ((b0 : Nat) : Int)), .int (iI (ds : Int)), .int dc])), (h4, .inr (3, [.ref a4, .int (iI ((((T).length) : Nat) : Int))])), (a4, .inl (cI, 300, .inl (apL f4 0 (T))))] H := hP
  have hD : va_D A [(ha, .inr (0, [.ref h3, .ref h1, .ref h4, .int (iI ((a0 : Nat) : Int)), .int (iI ((b0 : Nat) : Int)), .int (iI (ds : Int)), .int dc])), (h4, .inr (3, [.ref a4, .int (iI ((((T).length) : Nat) : Int))])), (a4, .inl (cI, 300, .inl (apL f4 0 (T))))] := hD
  refine W.widen (k := 0) (n := 0) (Nat.le_of_ble_eq_true rfl) (Nat.le_of_ble_eq_true rfl) ?_
  have hw : r4 = iI ((((T).length) : Nat) : Int) := hw
  subst hw
  refine lv_aload_n hx hb dX0_judgeResult_7 rfl (lv_at hl 0 rfl) ?_
  refine va_get (D := D) (ci := 0) (v := .int (iI (ds : Int))) (C := RX0) (T := TX0) (N := 7) hx hb hts hi_X0 hown hK hP 0 rfl rfl 5 (by decide) fl28 (fun _ h9 => h9) rfl dX0_judgeResult_8 ?_
  refine lv_icmp_ge (tgt := 17) hx hb dX0_judgeResult_11 (by decide) (fun c11 => ?_) (fun c11 => ?_)
  · skip
    have c11 := iI_leT (a := (ds : Int)) (b := ((((T).length) : Nat) : Int)) c11 (by omega)
    refine lv_aload_n hx hb dX0_judgeResult_17 rfl (lv_at hl 0 rfl) ?_
    refine va_get (D := D) (ci := 0) (v := .ref h4) (C := RX0) (T := TX0) (N := 7) hx hb hts hi_X0 hown hK hP 0 rfl rfl 2 (by decide) fl18 (fun _ h9 => h9) rfl dX0_judgeResult_18 ?_
    refine k_calli (wc := [(h4, .inr (3, [.ref a4, .int (iI ((((T).length) : Nat) : Int))])), (a4, .inl (cI, 300, .inl (apL f4 0 (T))))]) (wr := [(ha, .inr (0, [.ref h3, .ref h1, .ref h4, .int (iI ((a0 : Nat) : Int)), .int (iI ((b0 : Nat) : Int)), .int (iI (ds : Int)), .int dc]))]) (wf := fun _ => [(ha, .inr (0, [.ref h3, .ref h1, .ref h4, .int (iI ((a0 : Nat) : Int)), .int (iI ((b0 : Nat) : Int)), .int (iI (ds : Int)), .int dc])), (h4, .inr (3, [.ref a4, .int (iI ((((T).length) : Nat) : Int))])), (a4, .inl (cI, 300, .inl (apL f4 0 (T))))]) hK hP hD hS hA [1, 2] [0] [0, 1, 2] ⟨⟨rfl, rfl, by decide⟩, rfl, by decide, by decide⟩ (fun _ => ⟨rfl, rfl⟩) (by decide) (fun hPc hDc => va_runV (As := []) (rest := []) ⟨hx, hb, hml, hown, hts⟩ (c_Row_digest l D cI cZ (h := h4) (a := a4) (M := 300) (n := ((T).length)) (f := (apL f4 0 (T))) (hM := by omega) (hn := by omega) _) (cwV 0 hts (kgV wm363 wm286 wm287 wm39 wmcX3_digest) rfl rfl rfl (by decide +kernel) ⟨Nat.le_of_ble_eq_true rfl, Nat.le_of_ble_eq_true rfl⟩) (k_preV hK hPc hDc (ci := 3) (q0 := 0) rfl rfl) rfl rfl hl.1 rfl (lv_room (Nat.le_of_ble_eq_true rfl)) dX0_judgeResult_21 ⟨Nat.le_of_ble_eq_true rfl, Nat.le_of_ble_eq_true rfl⟩) (fun r21 u H locs hw hP hD hS => ?_)
    have hP : va_P D vwCl [(ha, .inr (0, [.ref h3, .ref h1, .ref h4, .int (iI ((a0 : Nat) : Int)), .int (iI ((b0 : Nat) : Int)), .int (iI (ds : Int)), .int dc])), (h4, .inr (3, [.ref a4, .int (iI ((((T).length) : Nat) : Int))])), (a4, .inl (cI, 300, .inl (apL f4 0 (T))))] H := hP
    have hD : va_D A [(ha, .inr (0, [.ref h3, .ref h1, .ref h4, .int (iI ((a0 : Nat) : Int)), .int (iI ((b0 : Nat) : Int)), .int (iI (ds : Int)), .int dc])), (h4, .inr (3, [.ref a4, .int (iI ((((T).length) : Nat) : Int))])), (a4, .inl (cI, 300, .inl (apL f4 0 (T))))] := hD
    refine W.widen (k := 0) (n := 0) (Nat.le_of_ble_eq_true rfl) (Nat.le_of_ble_eq_true rfl) ?_
    have hw : r21 = (dg (apL f4 0 (T)) ((T).length)) := hw
    subst hw
    refine lv_aload_n hx hb dX0_judgeResult_24 rfl (lv_at hl 0 rfl) ?_
    refine va_get (D := D) (ci := 0) (v := .int dc) (C := RX0) (T := TX0) (N := 7) hx hb hts hi_X0 hown hK hP 0 rfl rfl 6 (by decide) fl31 (fun _ h9 => h9) rfl dX0_judgeResult_25 ?_
    refine lv_icmp_ne (tgt := 35) hx hb dX0_judgeResult_28 (by decide) (fun c28 => ?_) (fun c28 => ?_)
    · skip
      refine lv_bipush (v := iI (-8 : Int)) hx hb dX0_judgeResult_35 (by decide) ?_
      exact k_iret () hx hb hr hlocks hK hP hD hS [0, 1, 2] (by decide) rfl rfl (by unfold jdF; rw [dg_ap0] at c28; rw [if_neg (by omega), if_neg c28]) hAe hQ dX0_judgeResult_37
    · skip
      refine lv_iconst (v := iI (0 : Int)) hx hb dX0_judgeResult_31 rfl ?_
      refine lv_goto (tgt := 37) hx hb dX0_judgeResult_32 (by decide) ?_
      exact k_iret () hx hb hr hlocks hK hP hD hS [0, 1, 2] (by decide) rfl rfl (by unfold jdF; rw [dg_ap0] at c28; rw [if_neg (by omega), if_pos c28]) hAe hQ dX0_judgeResult_37
  · skip
    have c11 := iI_leF (a := (ds : Int)) (b := ((((T).length) : Nat) : Int)) c11 (by omega)
    refine lv_bipush (v := iI (-7 : Int)) hx hb dX0_judgeResult_14 (by decide) ?_
    exact k_iret () hx hb hr hlocks hK hP hD hS [0, 1, 2] (by decide) rfl rfl (by unfold jdF; rw [if_pos (by omega)]) hAe hQ dX0_judgeResult_16
end
section
abbrev rm_c_Applier_readHead : Room := { frames := 2, cells := 0, slots := 0, locals := 44 }
set_option maxHeartbeats 4000000 in
set_option maxRecDepth 100000 in
theorem c_Applier_readHead (l : Launch) (D : va_G) (cI cZ : ClassId) (ha : Nat) (h3 : Nat) (h1 : Nat) (h4 : Nat) (b0 : Nat) (ds : Int) (dc : Int32) (a3 : Nat) (n3 : Nat) (F : Nat → Nat) (a1 : Nat) (n1 : Nat) (f1 : Nat → Int32) (hn3 : n3 ≤ 900) (hB : ∀ j, j < n3 → F j < 256) (hn1 : n1 ≤ 300) : MI l yX0_readHead wsX0_readHead rm_c_Applier_readHead D (kT cI cZ) [.ref ha] [(ha, .inr (0, [.ref h3, .ref h1, .ref h4, .int (iI ((0 : Nat) : Int)), .int (iI ((b0 : Nat) : Int)), .int (iI (ds : Int)), .int dc])), (h3, .inr (3, [.ref a3, .int (iI ((n3 : Nat) : Int))])), (a3, .inl (cI, 900, .inl (kN F))), (h1, .inr (3, [.ref a1, .int (iI ((n1 : Nat) : Int))])), (a1, .inl (cI, 300, .inl f1))] (fun (r : Int32) (u : Nat × Int × Int32) => r = iI (hdF F n3 f1 n1 ds dc).1 ∧ u = (hdF F n3 f1 n1 ds dc).2) (fun (u : Nat × Int × Int32) => match u with | ⟨a9, d9, e9⟩ => [(ha, .inr (0, [.ref h3, .ref h1, .ref h4, .int (iI ((a9 : Nat) : Int)), .int (iI ((b0 : Nat) : Int)), .int (iI (d9 : Int)), .int e9])), (h3, .inr (3, [.ref a3, .int (iI ((n3 : Nat) : Int))])), (a3, .inl (cI, 900, .inl (kN F))), (h1, .inr (3, [.ref a1, .int (iI ((n1 : Nat) : Int))])), (a1, .inl (cI, 300, .inl f1))]) 0 0 := by
  intro sz
  refine k_of (cc := cX0_readHead) (maxL := 3) (ret := (some .int)) (by decide) rfl (Nat.le_of_ble_eq_true rfl) ?_
  intro p e s m args below meth c A Q hAe hQ hx hb hr hml hts hown hlocks hnm hP hK hD hS hA ls hl
  have hl : lv_has ls 3 [(0, .ref ha)] := hl
  have hi_X0 : ∀ w ∈ u_ws RX0 TX0 7, w ∈ wsX0_readHead := fun w h => km (ikX0 w h)
  have fl28 := hts _ (km wm108)
  have fl31 := hts _ (km wm109)
  have fl15 := hts _ (km wm104)
  refine lv_aload_n hx hb dX0_readHead_0 rfl (lv_at hl 0 rfl) ?_
  refine k_calli (wc := [(ha, .inr (0, [.ref h3, .ref h1, .ref h4, .int (iI ((0 : Nat) : Int)), .int (iI ((b0 : Nat) : Int)), .int (iI (ds : Int)), .int dc])), (h3, .inr (3, [.ref a3, .int (iI ((n3 : Nat) : Int))])), (a3, .inl (cI, 900, .inl (kN F)))]) (wr := [(h1, .inr (3, [.ref a1, .int (iI ((n1 : Nat) : Int))])), (a1, .inl (cI, 300, .inl f1))]) (wf := fun _ => [(ha, .inr (0, [.ref h3, .ref h1, .ref h4, .int (iI (((rv F n3 0).2 : Nat) : Int)), .int (iI ((b0 : Nat) : Int)), .int (iI (ds : Int)), .int dc])), (h3, .inr (3, [.ref a3, .int (iI ((n3 : Nat) : Int))])), (a3, .inl (cI, 900, .inl (kN F))), (h1, .inr (3, [.ref a1, .int (iI ((n1 : Nat) : Int))])), (a1, .inl (cI, 300, .inl f1))]) hK hP hD hS hA [0, 1, 2] [3, 4] [2, 3, 4, 0, 1] ⟨⟨rfl, rfl, by decide⟩, rfl, by decide, by decide⟩ (fun _ => ⟨rfl, rfl⟩) (by decide) (fun hPc hDc => va_runV (As := []) (rest := []) ⟨hx, hb, hml, hown, hts⟩ (c_Applier_readVarint l D cI cZ (ha := ha) (h3 := h3) (h1 := h1) (h4 := h4) (a0 := 0) (b0 := b0) (ds := ds) (dc := dc) (a3 := a3) (n3 := n3) (F := F) (hat := by omega) (hn3 := by omega) (hB := by omega) _) (cwV 0 hts (kgV wm349 wm351 wm5 wm42 wmcX0_readVarint) rfl rfl rfl (by decide +kernel) ⟨Nat.le_of_ble_eq_true rfl, Nat.le_of_ble_eq_true rfl⟩) (k_preV hK hPc hDc (ci := 0) (q0 := 0) rfl rfl) rfl rfl hl.1 rfl (lv_room (Nat.le_of_ble_eq_true rfl)) dX0_readHead_1 ⟨Nat.le_of_ble_eq_true rfl, Nat.le_of_ble_eq_true rfl⟩) (fun r1 u H locs hw hP hD hS => ?_)
  have hP : va_P D vwCl [(ha, .inr (0, [.ref h3, .ref h1, .ref h4, .int (iI (((rv F n3 0).2 : Nat) : Int)), .int (iI ((b0 : Nat) : Int)), .int (iI (ds : Int)), .int dc])), (h3, .inr (3, [.ref a3, .int (iI ((n3 : Nat) : Int))])), (a3, .inl (cI, 900, .inl (kN F))), (h1, .inr (3, [.ref a1, .int (iI ((n1 : Nat) : Int))])), (a1, .inl (cI, 300, .inl f1))] H := hP
  have hD : va_D A [(ha, .inr (0, [.ref h3, .ref h1, .ref h4, .int (iI (((rv F n3 0).2 : Nat) : Int)), .int (iI ((b0 : Nat) : Int)), .int (iI (ds : Int)), .int dc])), (h3, .inr (3, [.ref a3, .int (iI ((n3 : Nat) : Int))])), (a3, .inl (cI, 900, .inl (kN F))), (h1, .inr (3, [.ref a1, .int (iI ((n1 : Nat) : Int))])), (a1, .inl (cI, 300, .inl f1))] := hD
  refine W.widen (k := 0) (n := 0) (Nat.le_of_ble_eq_true rfl) (Nat.le_of_ble_eq_true rfl) ?_
  have hw : r1 = iI ((rv F n3 0).1 : Int) := hw
  subst hw
  have hr1 := rv_rng F n3 0
  refine lv_istore_n (lv' := [(1, .int (iI ((rv F n3 0).1 : Int))), (0, .ref ha)]) hx hb dX0_readHead_4 rfl hl (by decide) rfl (fun ls hl => ?_)
  refine lv_iload_n hx hb dX0_readHead_5 rfl (lv_at hl 0 rfl) ?_
  refine lv_iconst (v := iI (-1 : Int)) hx hb dX0_readHead_6 rfl ?_
  refine lv_icmp_ne (tgt := 12) hx hb dX0_readHead_7 (by decide) (fun c7 => ?_) (fun c7 => ?_)
  · skip
    have c7 := iI_eqF (a := ((rv F n3 0).1 : Int)) (b := (-1 : Int)) c7 (by omega)
    refine lv_aload_n hx hb dX0_readHead_12 rfl (lv_at hl 1 rfl) ?_
    refine lv_aload_n hx hb dX0_readHead_13 rfl (lv_at hl 1 rfl) ?_
    refine k_calli (wc := [(ha, .inr (0, [.ref h3, .ref h1, .ref h4, .int (iI (((rv F n3 0).2 : Nat) : Int)), .int (iI ((b0 : Nat) : Int)), .int (iI (ds : Int)), .int dc])), (h3, .inr (3, [.ref a3, .int (iI ((n3 : Nat) : Int))])), (a3, .inl (cI, 900, .inl (kN F)))]) (wr := [(h1, .inr (3, [.ref a1, .int (iI ((n1 : Nat) : Int))])), (a1, .inl (cI, 300, .inl f1))]) (wf := fun _ => [(ha, .inr (0, [.ref h3, .ref h1, .ref h4, .int (iI (((rv F n3 ((rv F n3 0).2)).2 : Nat) : Int)), .int (iI ((b0 : Nat) : Int)), .int (iI (ds : Int)), .int dc])), (h3, .inr (3, [.ref a3, .int (iI ((n3 : Nat) : Int))])), (a3, .inl (cI, 900, .inl (kN F))), (h1, .inr (3, [.ref a1, .int (iI ((n1 : Nat) : Int))])), (a1, .inl (cI, 300, .inl f1))]) hK hP hD hS hA [0, 1, 2] [3, 4] [2, 3, 4, 0, 1] ⟨⟨rfl, rfl, by decide⟩, rfl, by decide, by decide⟩ (fun _ => ⟨rfl, rfl⟩) (by decide) (fun hPc hDc => va_runV (As := []) (rest := [.ref ha]) ⟨hx, hb, hml, hown, hts⟩ (c_Applier_readVarint l D cI cZ (ha := ha) (h3 := h3) (h1 := h1) (h4 := h4) (a0 := (rv F n3 0).2) (b0 := b0) (ds := ds) (dc := dc) (a3 := a3) (n3 := n3) (F := F) (hat := by omega) (hn3 := by omega) (hB := by omega) _) (cwV 0 hts (kgV wm349 wm351 wm5 wm42 wmcX0_readVarint) rfl rfl rfl (by decide +kernel) ⟨Nat.le_of_ble_eq_true rfl, Nat.le_of_ble_eq_true rfl⟩) (k_preV hK hPc hDc (ci := 0) (q0 := 0) rfl rfl) rfl rfl hl.1 rfl (lv_room (Nat.le_of_ble_eq_true rfl)) dX0_readHead_14 ⟨Nat.le_of_ble_eq_true rfl, Nat.le_of_ble_eq_true rfl⟩) (fun r14 u H locs hw hP hD hS => ?_)
    have hP : va_P D vwCl [(ha, .inr (0, [.ref h3, .ref h1, .ref h4, .int (iI (((rv F n3 ((rv F n3 0).2)).2 : Nat) : Int)), .int (iI ((b0 : Nat) : Int)), .int (iI (ds : Int)), .int dc])), (h3, .inr (3, [.ref a3, .int (iI ((n3 : Nat) : Int))])), (a3, .inl (cI, 900, .inl (kN F))), (h1, .inr (3, [.ref a1, .int (iI ((n1 : Nat) : Int))])), (a1, .inl (cI, 300, .inl f1))] H := hP
    have hD : va_D A [(ha, .inr (0, [.ref h3, .ref h1, .ref h4, .int (iI (((rv F n3 ((rv F n3 0).2)).2 : Nat) : Int)), .int (iI ((b0 : Nat) : Int)), .int (iI (ds : Int)), .int dc])), (h3, .inr (3, [.ref a3, .int (iI ((n3 : Nat) : Int))])), (a3, .inl (cI, 900, .inl (kN F))), (h1, .inr (3, [.ref a1, .int (iI ((n1 : Nat) : Int))])), (a1, .inl (cI, 300, .inl f1))] := hD
    refine W.widen (k := 0) (n := 0) (Nat.le_of_ble_eq_true rfl) (Nat.le_of_ble_eq_true rfl) ?_
    have hw : r14 = iI ((rv F n3 ((rv F n3 0).2)).1 : Int) := hw
    subst hw
    have hr2 := rv_rng F n3 (rv F n3 0).2
    refine va_put (D := D) (ci := 0) (v := .int (iI ((rv F n3 ((rv F n3 0).2)).1 : Int))) (ty := .int) (C := RX0) (T := TX0) (N := 7) hx hb hts hi_X0 tyX0 tyX0_ok nmX0 hown hK hP hD hS 0 rfl rfl 5 (by decide) fl28 (fun _ h9 => h9) rfl (by decide +kernel) rfl rfl (Nat.le_of_ble_eq_true rfl) dX0_readHead_17 (fun H locs hP hD hS => ?_)
    have hP : va_P D vwCl [(ha, .inr (0, [.ref h3, .ref h1, .ref h4, .int (iI (((rv F n3 ((rv F n3 0).2)).2 : Nat) : Int)), .int (iI ((b0 : Nat) : Int)), .int (iI ((rv F n3 ((rv F n3 0).2)).1 : Int)), .int dc])), (h3, .inr (3, [.ref a3, .int (iI ((n3 : Nat) : Int))])), (a3, .inl (cI, 900, .inl (kN F))), (h1, .inr (3, [.ref a1, .int (iI ((n1 : Nat) : Int))])), (a1, .inl (cI, 300, .inl f1))] H := hP
    have hD : va_D A [(ha, .inr (0, [.ref h3, .ref h1, .ref h4, .int (iI (((rv F n3 ((rv F n3 0).2)).2 : Nat) : Int)), .int (iI ((b0 : Nat) : Int)), .int (iI ((rv F n3 ((rv F n3 0).2)).1 : Int)), .int dc])), (h3, .inr (3, [.ref a3, .int (iI ((n3 : Nat) : Int))])), (a3, .inl (cI, 900, .inl (kN F))), (h1, .inr (3, [.ref a1, .int (iI ((n1 : Nat) : Int))])), (a1, .inl (cI, 300, .inl f1))] := hD
    refine lv_aload_n hx hb dX0_readHead_20 rfl (lv_at hl 1 rfl) ?_
    refine va_get (D := D) (ci := 0) (v := .int (iI ((rv F n3 ((rv F n3 0).2)).1 : Int))) (C := RX0) (T := TX0) (N := 7) hx hb hts hi_X0 hown hK hP 0 rfl rfl 5 (by decide) fl28 (fun _ h9 => h9) rfl dX0_readHead_21 ?_
    refine lv_iconst (v := iI (-1 : Int)) hx hb dX0_readHead_24 rfl ?_
    refine lv_icmp_eq (tgt := 37) hx hb dX0_readHead_25 (by decide) (fun c25 => ?_) (fun c25 => ?_)
    · skip
      have c25 := iI_eqT (a := ((rv F n3 ((rv F n3 0).2)).1 : Int)) (b := (-1 : Int)) c25 (by omega)
      refine lv_iconst (v := iI (-1 : Int)) hx hb dX0_readHead_37 rfl ?_
      have hE : hdF F n3 f1 n1 ds dc = (-1, (rv F n3 (rv F n3 0).2).2, (rv F n3 (rv F n3 0).2).1, dc) := by unfold hdF; rw [if_neg (by omega), if_pos (by omega)]
      exact k_iret ((rv F n3 (rv F n3 0).2).2, (rv F n3 (rv F n3 0).2).1, dc) hx hb hr hlocks hK hP hD hS [0, 1, 2, 3, 4] (by decide) rfl rfl (⟨by rw [hE], by rw [hE]⟩) hAe hQ dX0_readHead_38
    · skip
      have c25 := iI_eqF (a := ((rv F n3 ((rv F n3 0).2)).1 : Int)) (b := (-1 : Int)) c25 (by omega)
      refine lv_aload_n hx hb dX0_readHead_28 rfl (lv_at hl 1 rfl) ?_
      refine k_calli (wc := [(ha, .inr (0, [.ref h3, .ref h1, .ref h4, .int (iI (((rv F n3 ((rv F n3 0).2)).2 : Nat) : Int)), .int (iI ((b0 : Nat) : Int)), .int (iI ((rv F n3 ((rv F n3 0).2)).1 : Int)), .int dc])), (h3, .inr (3, [.ref a3, .int (iI ((n3 : Nat) : Int))])), (a3, .inl (cI, 900, .inl (kN F)))]) (wr := [(h1, .inr (3, [.ref a1, .int (iI ((n1 : Nat) : Int))])), (a1, .inl (cI, 300, .inl f1))]) (wf := fun _ => [(ha, .inr (0, [.ref h3, .ref h1, .ref h4, .int (iI ((((rv F n3 ((rv F n3 0).2)).2) : Nat) : Int)), .int (iI ((b0 : Nat) : Int)), .int (iI (((rv F n3 ((rv F n3 0).2)).1) : Int)), .int dc])), (h3, .inr (3, [.ref a3, .int (iI ((n3 : Nat) : Int))])), (a3, .inl (cI, 900, .inl (kN F))), (h1, .inr (3, [.ref a1, .int (iI ((n1 : Nat) : Int))])), (a1, .inl (cI, 300, .inl f1))]) hK hP hD hS hA [0, 1, 2] [3, 4] [2, 3, 4, 0, 1] ⟨⟨rfl, rfl, by decide⟩, rfl, by decide, by decide⟩ (fun _ => ⟨rfl, rfl⟩) (by decide) (fun hPc hDc => va_runV (As := []) (rest := []) ⟨hx, hb, hml, hown, hts⟩ (c_Applier_unread l D cI cZ (ha := ha) (h3 := h3) (h1 := h1) (h4 := h4) (a0 := (rv F n3 ((rv F n3 0).2)).2) (b0 := b0) (ds := (rv F n3 ((rv F n3 0).2)).1) (dc := dc) (a3 := a3) (n3 := n3) (F := F) (hat := by omega) (hn3 := by omega) _) (cwV 0 hts (kgV wm354 wm356 wm6 wm42 wmcX0_unread) rfl rfl rfl (by decide +kernel) ⟨Nat.le_of_ble_eq_true rfl, Nat.le_of_ble_eq_true rfl⟩) (k_preV hK hPc hDc (ci := 0) (q0 := 0) rfl rfl) rfl rfl hl.1 rfl (lv_room (Nat.le_of_ble_eq_true rfl)) dX0_readHead_29 ⟨Nat.le_of_ble_eq_true rfl, Nat.le_of_ble_eq_true rfl⟩) (fun r29 u H locs hw hP hD hS => ?_)
      have hP : va_P D vwCl [(ha, .inr (0, [.ref h3, .ref h1, .ref h4, .int (iI ((((rv F n3 ((rv F n3 0).2)).2) : Nat) : Int)), .int (iI ((b0 : Nat) : Int)), .int (iI (((rv F n3 ((rv F n3 0).2)).1) : Int)), .int dc])), (h3, .inr (3, [.ref a3, .int (iI ((n3 : Nat) : Int))])), (a3, .inl (cI, 900, .inl (kN F))), (h1, .inr (3, [.ref a1, .int (iI ((n1 : Nat) : Int))])), (a1, .inl (cI, 300, .inl f1))] H := hP
      have hD : va_D A [(ha, .inr (0, [.ref h3, .ref h1, .ref h4, .int (iI ((((rv F n3 ((rv F n3 0).2)).2) : Nat) : Int)), .int (iI ((b0 : Nat) : Int)), .int (iI (((rv F n3 ((rv F n3 0).2)).1) : Int)), .int dc])), (h3, .inr (3, [.ref a3, .int (iI ((n3 : Nat) : Int))])), (a3, .inl (cI, 900, .inl (kN F))), (h1, .inr (3, [.ref a1, .int (iI ((n1 : Nat) : Int))])), (a1, .inl (cI, 300, .inl f1))] := hD
      refine W.widen (k := 0) (n := 0) (Nat.le_of_ble_eq_true rfl) (Nat.le_of_ble_eq_true rfl) ?_
      have hw : r29 = iI (((n3 - ((rv F n3 ((rv F n3 0).2)).2)) : Nat) : Int) := hw
      subst hw
      refine lv_bipush (v := iI (8 : Int)) hx hb dX0_readHead_32 (by decide) ?_
      refine lv_icmp_ge (tgt := 39) hx hb dX0_readHead_34 (by decide) (fun c34 => ?_) (fun c34 => ?_)
      · skip
        have c34 := iI_leT (a := (8 : Int)) (b := (((n3 - ((rv F n3 ((rv F n3 0).2)).2)) : Nat) : Int)) c34 (by omega)
        refine lv_aload_n hx hb dX0_readHead_39 rfl (lv_at hl 1 rfl) ?_
        refine k_calli (wc := [(ha, .inr (0, [.ref h3, .ref h1, .ref h4, .int (iI ((((rv F n3 ((rv F n3 0).2)).2) : Nat) : Int)), .int (iI ((b0 : Nat) : Int)), .int (iI (((rv F n3 ((rv F n3 0).2)).1) : Int)), .int dc])), (h3, .inr (3, [.ref a3, .int (iI ((n3 : Nat) : Int))])), (a3, .inl (cI, 900, .inl (kN F)))]) (wr := [(h1, .inr (3, [.ref a1, .int (iI ((n1 : Nat) : Int))])), (a1, .inl (cI, 300, .inl f1))]) (wf := fun _ => [(ha, .inr (0, [.ref h3, .ref h1, .ref h4, .int (iI ((((rv F n3 ((rv F n3 0).2)).2) + 4 : Nat) : Int)), .int (iI ((b0 : Nat) : Int)), .int (iI (((rv F n3 ((rv F n3 0).2)).1) : Int)), .int dc])), (h3, .inr (3, [.ref a3, .int (iI ((n3 : Nat) : Int))])), (a3, .inl (cI, 900, .inl (kN F))), (h1, .inr (3, [.ref a1, .int (iI ((n1 : Nat) : Int))])), (a1, .inl (cI, 300, .inl f1))]) hK hP hD hS hA [0, 1, 2] [3, 4] [2, 3, 4, 0, 1] ⟨⟨rfl, rfl, by decide⟩, rfl, by decide, by decide⟩ (fun _ => ⟨rfl, rfl⟩) (by decide) (fun hPc hDc => va_runV (As := []) (rest := []) ⟨hx, hb, hml, hown, hts⟩ (c_Applier_readWord l D cI cZ (ha := ha) (h3 := h3) (h1 := h1) (h4 := h4) (a0 := ((rv F n3 ((rv F n3 0).2)).2)) (b0 := b0) (ds := ((rv F n3 ((rv F n3 0).2)).1)) (dc := dc) (a3 := a3) (n3 := n3) (F := F) (ha4 := by omega) (hn3 := by omega) _) (cwV 0 hts (kgV wm359 wm361 wm7 wm42 wmcX0_readWord) rfl rfl rfl (by decide +kernel) ⟨Nat.le_of_ble_eq_true rfl, Nat.le_of_ble_eq_true rfl⟩) (k_preV hK hPc hDc (ci := 0) (q0 := 0) rfl rfl) rfl rfl hl.1 rfl (lv_room (Nat.le_of_ble_eq_true rfl)) dX0_readHead_40 ⟨Nat.le_of_ble_eq_true rfl, Nat.le_of_ble_eq_true rfl⟩) (fun r40 u H locs hw hP hD hS => ?_)
        have hP : va_P D vwCl [(ha, .inr (0, [.ref h3, .ref h1, .ref h4, .int (iI ((((rv F n3 ((rv F n3 0).2)).2) + 4 : Nat) : Int)), .int (iI ((b0 : Nat) : Int)), .int (iI (((rv F n3 ((rv F n3 0).2)).1) : Int)), .int dc])), (h3, .inr (3, [.ref a3, .int (iI ((n3 : Nat) : Int))])), (a3, .inl (cI, 900, .inl (kN F))), (h1, .inr (3, [.ref a1, .int (iI ((n1 : Nat) : Int))])), (a1, .inl (cI, 300, .inl f1))] H := hP
        have hD : va_D A [(ha, .inr (0, [.ref h3, .ref h1, .ref h4, .int (iI ((((rv F n3 ((rv F n3 0).2)).2) + 4 : Nat) : Int)), .int (iI ((b0 : Nat) : Int)), .int (iI (((rv F n3 ((rv F n3 0).2)).1) : Int)), .int dc])), (h3, .inr (3, [.ref a3, .int (iI ((n3 : Nat) : Int))])), (a3, .inl (cI, 900, .inl (kN F))), (h1, .inr (3, [.ref a1, .int (iI ((n1 : Nat) : Int))])), (a1, .inl (cI, 300, .inl f1))] := hD
        refine W.widen (k := 0) (n := 0) (Nat.le_of_ble_eq_true rfl) (Nat.le_of_ble_eq_true rfl) ?_
        have hw : r40 = (rdW F ((rv F n3 ((rv F n3 0).2)).2) 4) := hw
        subst hw
        refine lv_istore_n (lv' := [(2, .int (rdW F ((rv F n3 ((rv F n3 0).2)).2) 4)), (1, .int (iI ((rv F n3 0).1 : Int))), (0, .ref ha)]) hx hb dX0_readHead_43 rfl hl (by decide) rfl (fun ls hl => ?_)
        refine lv_aload_n hx hb dX0_readHead_44 rfl (lv_at hl 2 rfl) ?_
        refine lv_aload_n hx hb dX0_readHead_45 rfl (lv_at hl 2 rfl) ?_
        refine k_calli (wc := [(ha, .inr (0, [.ref h3, .ref h1, .ref h4, .int (iI ((((rv F n3 ((rv F n3 0).2)).2) + 4 : Nat) : Int)), .int (iI ((b0 : Nat) : Int)), .int (iI (((rv F n3 ((rv F n3 0).2)).1) : Int)), .int dc])), (h3, .inr (3, [.ref a3, .int (iI ((n3 : Nat) : Int))])), (a3, .inl (cI, 900, .inl (kN F)))]) (wr := [(h1, .inr (3, [.ref a1, .int (iI ((n1 : Nat) : Int))])), (a1, .inl (cI, 300, .inl f1))]) (wf := fun _ => [(ha, .inr (0, [.ref h3, .ref h1, .ref h4, .int (iI (((((rv F n3 ((rv F n3 0).2)).2) + 4) + 4 : Nat) : Int)), .int (iI ((b0 : Nat) : Int)), .int (iI (((rv F n3 ((rv F n3 0).2)).1) : Int)), .int dc])), (h3, .inr (3, [.ref a3, .int (iI ((n3 : Nat) : Int))])), (a3, .inl (cI, 900, .inl (kN F))), (h1, .inr (3, [.ref a1, .int (iI ((n1 : Nat) : Int))])), (a1, .inl (cI, 300, .inl f1))]) hK hP hD hS hA [0, 1, 2] [3, 4] [2, 3, 4, 0, 1] ⟨⟨rfl, rfl, by decide⟩, rfl, by decide, by decide⟩ (fun _ => ⟨rfl, rfl⟩) (by decide) (fun hPc hDc => va_runV (As := []) (rest := [.ref ha]) ⟨hx, hb, hml, hown, hts⟩ (c_Applier_readWord l D cI cZ (ha := ha) (h3 := h3) (h1 := h1) (h4 := h4) (a0 := ((rv F n3 ((rv F n3 0).2)).2) + 4) (b0 := b0) (ds := ((rv F n3 ((rv F n3 0).2)).1)) (dc := dc) (a3 := a3) (n3 := n3) (F := F) (ha4 := by omega) (hn3 := by omega) _) (cwV 0 hts (kgV wm359 wm361 wm7 wm42 wmcX0_readWord) rfl rfl rfl (by decide +kernel) ⟨Nat.le_of_ble_eq_true rfl, Nat.le_of_ble_eq_true rfl⟩) (k_preV hK hPc hDc (ci := 0) (q0 := 0) rfl rfl) rfl rfl hl.1 rfl (lv_room (Nat.le_of_ble_eq_true rfl)) dX0_readHead_46 ⟨Nat.le_of_ble_eq_true rfl, Nat.le_of_ble_eq_true rfl⟩) (fun r46 u H locs hw hP hD hS => ?_)
        have hP : va_P D vwCl [(ha, .inr (0, [.ref h3, .ref h1, .ref h4, .int (iI (((((rv F n3 ((rv F n3 0).2)).2) + 4) + 4 : Nat) : Int)), .int (iI ((b0 : Nat) : Int)), .int (iI (((rv F n3 ((rv F n3 0).2)).1) : Int)), .int dc])), (h3, .inr (3, [.ref a3, .int (iI ((n3 : Nat) : Int))])), (a3, .inl (cI, 900, .inl (kN F))), (h1, .inr (3, [.ref a1, .int (iI ((n1 : Nat) : Int))])), (a1, .inl (cI, 300, .inl f1))] H := hP
        have hD : va_D A [(ha, .inr (0, [.ref h3, .ref h1, .ref h4, .int (iI (((((rv F n3 ((rv F n3 0).2)).2) + 4) + 4 : Nat) : Int)), .int (iI ((b0 : Nat) : Int)), .int (iI (((rv F n3 ((rv F n3 0).2)).1) : Int)), .int dc])), (h3, .inr (3, [.ref a3, .int (iI ((n3 : Nat) : Int))])), (a3, .inl (cI, 900, .inl (kN F))), (h1, .inr (3, [.ref a1, .int (iI ((n1 : Nat) : Int))])), (a1, .inl (cI, 300, .inl f1))] := hD
        refine W.widen (k := 0) (n := 0) (Nat.le_of_ble_eq_true rfl) (Nat.le_of_ble_eq_true rfl) ?_
        have hw : r46 = (rdW F (((rv F n3 ((rv F n3 0).2)).2) + 4) 4) := hw
        subst hw
        refine va_put (D := D) (ci := 0) (v := .int (rdW F (((rv F n3 ((rv F n3 0).2)).2) + 4) 4)) (ty := .int) (C := RX0) (T := TX0) (N := 7) hx hb hts hi_X0 tyX0 tyX0_ok nmX0 hown hK hP hD hS 0 rfl rfl 6 (by decide) fl31 (fun _ h9 => h9) rfl (by decide +kernel) rfl rfl (Nat.le_of_ble_eq_true rfl) dX0_readHead_49 (fun H locs hP hD hS => ?_)
        have hP : va_P D vwCl [(ha, .inr (0, [.ref h3, .ref h1, .ref h4, .int (iI (((((rv F n3 ((rv F n3 0).2)).2) + 4) + 4 : Nat) : Int)), .int (iI ((b0 : Nat) : Int)), .int (iI (((rv F n3 ((rv F n3 0).2)).1) : Int)), .int (rdW F (((rv F n3 ((rv F n3 0).2)).2) + 4) 4)])), (h3, .inr (3, [.ref a3, .int (iI ((n3 : Nat) : Int))])), (a3, .inl (cI, 900, .inl (kN F))), (h1, .inr (3, [.ref a1, .int (iI ((n1 : Nat) : Int))])), (a1, .inl (cI, 300, .inl f1))] H := hP
        have hD : va_D A [(ha, .inr (0, [.ref h3, .ref h1, .ref h4, .int (iI (((((rv F n3 ((rv F n3 0).2)).2) + 4) + 4 : Nat) : Int)), .int (iI ((b0 : Nat) : Int)), .int (iI (((rv F n3 ((rv F n3 0).2)).1) : Int)), .int (rdW F (((rv F n3 ((rv F n3 0).2)).2) + 4) 4)])), (h3, .inr (3, [.ref a3, .int (iI ((n3 : Nat) : Int))])), (a3, .inl (cI, 900, .inl (kN F))), (h1, .inr (3, [.ref a1, .int (iI ((n1 : Nat) : Int))])), (a1, .inl (cI, 300, .inl f1))] := hD
        refine lv_iload_n hx hb dX0_readHead_52 rfl (lv_at hl 1 rfl) ?_
        refine lv_aload_n hx hb dX0_readHead_53 rfl (lv_at hl 2 rfl) ?_
        refine va_get (D := D) (ci := 0) (v := .ref h1) (C := RX0) (T := TX0) (N := 7) hx hb hts hi_X0 hown hK hP 0 rfl rfl 1 (by decide) fl15 (fun _ h9 => h9) rfl dX0_readHead_54 ?_
        refine k_calli (wc := [(h1, .inr (3, [.ref a1, .int (iI ((n1 : Nat) : Int))])), (a1, .inl (cI, 300, .inl f1))]) (wr := [(ha, .inr (0, [.ref h3, .ref h1, .ref h4, .int (iI (((((rv F n3 ((rv F n3 0).2)).2) + 4) + 4 : Nat) : Int)), .int (iI ((b0 : Nat) : Int)), .int (iI (((rv F n3 ((rv F n3 0).2)).1) : Int)), .int (rdW F (((rv F n3 ((rv F n3 0).2)).2) + 4) 4)])), (h3, .inr (3, [.ref a3, .int (iI ((n3 : Nat) : Int))])), (a3, .inl (cI, 900, .inl (kN F)))]) (wf := fun _ => [(ha, .inr (0, [.ref h3, .ref h1, .ref h4, .int (iI (((((rv F n3 ((rv F n3 0).2)).2) + 4) + 4 : Nat) : Int)), .int (iI ((b0 : Nat) : Int)), .int (iI (((rv F n3 ((rv F n3 0).2)).1) : Int)), .int (rdW F (((rv F n3 ((rv F n3 0).2)).2) + 4) 4)])), (h3, .inr (3, [.ref a3, .int (iI ((n3 : Nat) : Int))])), (a3, .inl (cI, 900, .inl (kN F))), (h1, .inr (3, [.ref a1, .int (iI ((n1 : Nat) : Int))])), (a1, .inl (cI, 300, .inl f1))]) hK hP hD hS hA [3, 4] [0, 1, 2] [0, 1, 2, 3, 4] ⟨⟨rfl, rfl, by decide⟩, rfl, by decide, by decide⟩ (fun _ => ⟨rfl, rfl⟩) (by decide) (fun hPc hDc => va_runV (As := []) (rest := [.int (iI ((rv F n3 0).1 : Int))]) ⟨hx, hb, hml, hown, hts⟩ (c_Row_count l D cI cZ (h := h1) (a := a1) (M := 300) (n := n1) (f := f1)  _) (cwV 0 hts (kgV wm358 wm193 wm194 wm39 wmcX3_count) rfl rfl rfl (by decide +kernel) ⟨Nat.le_of_ble_eq_true rfl, Nat.le_of_ble_eq_true rfl⟩) (k_preV hK hPc hDc (ci := 3) (q0 := 0) rfl rfl) rfl rfl hl.1 rfl (lv_room (Nat.le_of_ble_eq_true rfl)) dX0_readHead_57 ⟨Nat.le_of_ble_eq_true rfl, Nat.le_of_ble_eq_true rfl⟩) (fun r57 u H locs hw hP hD hS => ?_)
        have hP : va_P D vwCl [(ha, .inr (0, [.ref h3, .ref h1, .ref h4, .int (iI (((((rv F n3 ((rv F n3 0).2)).2) + 4) + 4 : Nat) : Int)), .int (iI ((b0 : Nat) : Int)), .int (iI (((rv F n3 ((rv F n3 0).2)).1) : Int)), .int (rdW F (((rv F n3 ((rv F n3 0).2)).2) + 4) 4)])), (h3, .inr (3, [.ref a3, .int (iI ((n3 : Nat) : Int))])), (a3, .inl (cI, 900, .inl (kN F))), (h1, .inr (3, [.ref a1, .int (iI ((n1 : Nat) : Int))])), (a1, .inl (cI, 300, .inl f1))] H := hP
        have hD : va_D A [(ha, .inr (0, [.ref h3, .ref h1, .ref h4, .int (iI (((((rv F n3 ((rv F n3 0).2)).2) + 4) + 4 : Nat) : Int)), .int (iI ((b0 : Nat) : Int)), .int (iI (((rv F n3 ((rv F n3 0).2)).1) : Int)), .int (rdW F (((rv F n3 ((rv F n3 0).2)).2) + 4) 4)])), (h3, .inr (3, [.ref a3, .int (iI ((n3 : Nat) : Int))])), (a3, .inl (cI, 900, .inl (kN F))), (h1, .inr (3, [.ref a1, .int (iI ((n1 : Nat) : Int))])), (a1, .inl (cI, 300, .inl f1))] := hD
        refine W.widen (k := 0) (n := 0) (Nat.le_of_ble_eq_true rfl) (Nat.le_of_ble_eq_true rfl) ?_
        have hw : r57 = iI ((n1 : Nat) : Int) := hw
        subst hw
        refine lv_icmp_eq (tgt := 66) hx hb dX0_readHead_60 (by decide) (fun c60 => ?_) (fun c60 => ?_)
        · skip
          have c60 := iI_eqT (a := ((rv F n3 0).1 : Int)) (b := ((n1 : Nat) : Int)) c60 (by omega)
          refine lv_iload_n hx hb dX0_readHead_66 rfl (lv_at hl 0 rfl) ?_
          refine lv_aload_n hx hb dX0_readHead_67 rfl (lv_at hl 2 rfl) ?_
          refine va_get (D := D) (ci := 0) (v := .ref h1) (C := RX0) (T := TX0) (N := 7) hx hb hts hi_X0 hown hK hP 0 rfl rfl 1 (by decide) fl15 (fun _ h9 => h9) rfl dX0_readHead_68 ?_
          refine k_calli (wc := [(h1, .inr (3, [.ref a1, .int (iI ((n1 : Nat) : Int))])), (a1, .inl (cI, 300, .inl f1))]) (wr := [(ha, .inr (0, [.ref h3, .ref h1, .ref h4, .int (iI (((((rv F n3 ((rv F n3 0).2)).2) + 4) + 4 : Nat) : Int)), .int (iI ((b0 : Nat) : Int)), .int (iI (((rv F n3 ((rv F n3 0).2)).1) : Int)), .int (rdW F (((rv F n3 ((rv F n3 0).2)).2) + 4) 4)])), (h3, .inr (3, [.ref a3, .int (iI ((n3 : Nat) : Int))])), (a3, .inl (cI, 900, .inl (kN F)))]) (wf := fun _ => [(ha, .inr (0, [.ref h3, .ref h1, .ref h4, .int (iI (((((rv F n3 ((rv F n3 0).2)).2) + 4) + 4 : Nat) : Int)), .int (iI ((b0 : Nat) : Int)), .int (iI (((rv F n3 ((rv F n3 0).2)).1) : Int)), .int (rdW F (((rv F n3 ((rv F n3 0).2)).2) + 4) 4)])), (h3, .inr (3, [.ref a3, .int (iI ((n3 : Nat) : Int))])), (a3, .inl (cI, 900, .inl (kN F))), (h1, .inr (3, [.ref a1, .int (iI ((n1 : Nat) : Int))])), (a1, .inl (cI, 300, .inl f1))]) hK hP hD hS hA [3, 4] [0, 1, 2] [0, 1, 2, 3, 4] ⟨⟨rfl, rfl, by decide⟩, rfl, by decide, by decide⟩ (fun _ => ⟨rfl, rfl⟩) (by decide) (fun hPc hDc => va_runV (As := []) (rest := [.int (rdW F ((rv F n3 ((rv F n3 0).2)).2) 4)]) ⟨hx, hb, hml, hown, hts⟩ (c_Row_digest l D cI cZ (h := h1) (a := a1) (M := 300) (n := n1) (f := f1) (hM := by omega) (hn := by omega) _) (cwV 0 hts (kgV wm363 wm286 wm287 wm39 wmcX3_digest) rfl rfl rfl (by decide +kernel) ⟨Nat.le_of_ble_eq_true rfl, Nat.le_of_ble_eq_true rfl⟩) (k_preV hK hPc hDc (ci := 3) (q0 := 0) rfl rfl) rfl rfl hl.1 rfl (lv_room (Nat.le_of_ble_eq_true rfl)) dX0_readHead_71 ⟨Nat.le_of_ble_eq_true rfl, Nat.le_of_ble_eq_true rfl⟩) (fun r71 u H locs hw hP hD hS => ?_)
          have hP : va_P D vwCl [(ha, .inr (0, [.ref h3, .ref h1, .ref h4, .int (iI (((((rv F n3 ((rv F n3 0).2)).2) + 4) + 4 : Nat) : Int)), .int (iI ((b0 : Nat) : Int)), .int (iI (((rv F n3 ((rv F n3 0).2)).1) : Int)), .int (rdW F (((rv F n3 ((rv F n3 0).2)).2) + 4) 4)])), (h3, .inr (3, [.ref a3, .int (iI ((n3 : Nat) : Int))])), (a3, .inl (cI, 900, .inl (kN F))), (h1, .inr (3, [.ref a1, .int (iI ((n1 : Nat) : Int))])), (a1, .inl (cI, 300, .inl f1))] H := hP
          have hD : va_D A [(ha, .inr (0, [.ref h3, .ref h1, .ref h4, .int (iI (((((rv F n3 ((rv F n3 0).2)).2) + 4) + 4 : Nat) : Int)), .int (iI ((b0 : Nat) : Int)), .int (iI (((rv F n3 ((rv F n3 0).2)).1) : Int)), .int (rdW F (((rv F n3 ((rv F n3 0).2)).2) + 4) 4)])), (h3, .inr (3, [.ref a3, .int (iI ((n3 : Nat) : Int))])), (a3, .inl (cI, 900, .inl (kN F))), (h1, .inr (3, [.ref a1, .int (iI ((n1 : Nat) : Int))])), (a1, .inl (cI, 300, .inl f1))] := hD
          refine W.widen (k := 0) (n := 0) (Nat.le_of_ble_eq_true rfl) (Nat.le_of_ble_eq_true rfl) ?_
          have hw : r71 = (dg f1 n1) := hw
          subst hw
          refine lv_icmp_eq (tgt := 80) hx hb dX0_readHead_74 (by decide) (fun c74 => ?_) (fun c74 => ?_)
          · skip
            refine lv_aload_n hx hb dX0_readHead_80 rfl (lv_at hl 2 rfl) ?_
            refine va_get (D := D) (ci := 0) (v := .int (iI (((rv F n3 ((rv F n3 0).2)).1) : Int))) (C := RX0) (T := TX0) (N := 7) hx hb hts hi_X0 hown hK hP 0 rfl rfl 5 (by decide) fl28 (fun _ h9 => h9) rfl dX0_readHead_81 ?_
            refine lv_sipush (v := iI (300 : Int)) hx hb dX0_readHead_84 (by decide) ?_
            refine lv_icmp_le (tgt := 95) hx hb dX0_readHead_87 (by decide) (fun c87 => ?_) (fun c87 => ?_)
            · skip
              have c87 := iI_leT (a := (((rv F n3 ((rv F n3 0).2)).1) : Int)) (b := (300 : Int)) c87 (by omega)
              refine lv_iconst (v := iI (0 : Int)) hx hb dX0_readHead_95 rfl ?_
              have hE : hdF F n3 f1 n1 ds dc = (0, (rv F n3 (rv F n3 0).2).2 + 8, (rv F n3 (rv F n3 0).2).1, (rdW F ((rv F n3 (rv F n3 0).2).2 + 4) 4)) := by unfold hdF; rw [if_neg (by omega), if_neg (by omega), if_neg (by omega), if_neg (fun h => h c74), if_neg (by omega)]
              exact k_iret ((rv F n3 (rv F n3 0).2).2 + 8, (rv F n3 (rv F n3 0).2).1, (rdW F ((rv F n3 (rv F n3 0).2).2 + 4) 4)) hx hb hr hlocks hK hP hD hS [0, 1, 2, 3, 4] (by decide) rfl rfl (⟨by rw [hE], by rw [hE]⟩) hAe hQ dX0_readHead_96
            · skip
              have c87 := iI_leF (a := (((rv F n3 ((rv F n3 0).2)).1) : Int)) (b := (300 : Int)) c87 (by omega)
              refine lv_bipush (v := iI (-4 : Int)) hx hb dX0_readHead_90 (by decide) ?_
              refine lv_goto (tgt := 96) hx hb dX0_readHead_92 (by decide) ?_
              have hE : hdF F n3 f1 n1 ds dc = (-4, (rv F n3 (rv F n3 0).2).2 + 8, (rv F n3 (rv F n3 0).2).1, (rdW F ((rv F n3 (rv F n3 0).2).2 + 4) 4)) := by unfold hdF; rw [if_neg (by omega), if_neg (by omega), if_neg (by omega), if_neg (fun h => h c74), if_pos (by omega)]
              exact k_iret ((rv F n3 (rv F n3 0).2).2 + 8, (rv F n3 (rv F n3 0).2).1, (rdW F ((rv F n3 (rv F n3 0).2).2 + 4) 4)) hx hb hr hlocks hK hP hD hS [0, 1, 2, 3, 4] (by decide) rfl rfl (⟨by rw [hE], by rw [hE]⟩) hAe hQ dX0_readHead_96
          · skip
            refine lv_bipush (v := iI (-3 : Int)) hx hb dX0_readHead_77 (by decide) ?_
            have hE : hdF F n3 f1 n1 ds dc = (-3, (rv F n3 (rv F n3 0).2).2 + 8, (rv F n3 (rv F n3 0).2).1, (rdW F ((rv F n3 (rv F n3 0).2).2 + 4) 4)) := by unfold hdF; rw [if_neg (by omega), if_neg (by omega), if_neg (by omega), if_pos c74]
            exact k_iret ((rv F n3 (rv F n3 0).2).2 + 8, (rv F n3 (rv F n3 0).2).1, (rdW F ((rv F n3 (rv F n3 0).2).2 + 4) 4)) hx hb hr hlocks hK hP hD hS [0, 1, 2, 3, 4] (by decide) rfl rfl (⟨by rw [hE], by rw [hE]⟩) hAe hQ dX0_readHead_79
        · skip
          have c60 := iI_eqF (a := ((rv F n3 0).1 : Int)) (b := ((n1 : Nat) : Int)) c60 (by omega)
          refine lv_bipush (v := iI (-2 : Int)) hx hb dX0_readHead_63 (by decide) ?_
          have hE : hdF F n3 f1 n1 ds dc = (-2, (rv F n3 (rv F n3 0).2).2 + 8, (rv F n3 (rv F n3 0).2).1, (rdW F ((rv F n3 (rv F n3 0).2).2 + 4) 4)) := by unfold hdF; rw [if_neg (by omega), if_neg (by omega), if_pos (by omega)]
          exact k_iret ((rv F n3 (rv F n3 0).2).2 + 8, (rv F n3 (rv F n3 0).2).1, (rdW F ((rv F n3 (rv F n3 0).2).2 + 4) 4)) hx hb hr hlocks hK hP hD hS [0, 1, 2, 3, 4] (by decide) rfl rfl (⟨by rw [hE], by rw [hE]⟩) hAe hQ dX0_readHead_65
      · skip
        have c34 := iI_leF (a := (8 : Int)) (b := (((n3 - ((rv F n3 ((rv F n3 0).2)).2)) : Nat) : Int)) c34 (by omega)
        refine lv_iconst (v := iI (-1 : Int)) hx hb dX0_readHead_37 rfl ?_
        have hE : hdF F n3 f1 n1 ds dc = (-1, (rv F n3 (rv F n3 0).2).2, (rv F n3 (rv F n3 0).2).1, dc) := by unfold hdF; rw [if_neg (by omega), if_pos (by omega)]
        exact k_iret ((rv F n3 (rv F n3 0).2).2, (rv F n3 (rv F n3 0).2).1, dc) hx hb hr hlocks hK hP hD hS [0, 1, 2, 3, 4] (by decide) rfl rfl (⟨by rw [hE], by rw [hE]⟩) hAe hQ dX0_readHead_38
  · skip
    have c7 := iI_eqT (a := ((rv F n3 0).1 : Int)) (b := (-1 : Int)) c7 (by omega)
    refine lv_iconst (v := iI (-1 : Int)) hx hb dX0_readHead_10 rfl ?_
    have hE : hdF F n3 f1 n1 ds dc = (-1, (rv F n3 0).2, ds, dc) := by unfold hdF; rw [if_pos (by omega)]
    exact k_iret ((rv F n3 0).2, ds, dc) hx hb hr hlocks hK hP hD hS [0, 1, 2, 3, 4] (by decide) rfl rfl (⟨by rw [hE], by rw [hE]⟩) hAe hQ dX0_readHead_11

abbrev rm_c_Applier_run : Room := { frames := 5, cells := 0, slots := 0, locals := 113 }
set_option maxHeartbeats 4000000 in
set_option maxRecDepth 100000 in
theorem c_Applier_run (l : Launch) (D : va_G) (cI cZ : ClassId) (ha : Nat) (h3 : Nat) (h1 : Nat) (h4 : Nat) (a0 : Nat) (b0 : Nat) (ds : Int) (dc : Int32) (a3 : Nat) (n3 : Nat) (F : Nat → Nat) (a1 : Nat) (n1 : Nat) (f1 : Nat → Int32) (a4 : Nat) (n4 : Nat) (f4 : Nat → Int32) (hn3 : n3 ≤ 900) (hB : ∀ j, j < n3 → F j < 256) (hn1 : n1 ≤ 300) : MI l yX0_run wsX0_run rm_c_Applier_run D (kT cI cZ) [.ref ha] [(ha, .inr (0, [.ref h3, .ref h1, .ref h4, .int (iI ((a0 : Nat) : Int)), .int (iI ((b0 : Nat) : Int)), .int (iI (ds : Int)), .int dc])), (h3, .inr (3, [.ref a3, .int (iI ((n3 : Nat) : Int))])), (a3, .inl (cI, 900, .inl (kN F))), (h1, .inr (3, [.ref a1, .int (iI ((n1 : Nat) : Int))])), (a1, .inl (cI, 300, .inl f1)), (h4, .inr (3, [.ref a4, .int (iI ((n4 : Nat) : Int))])), (a4, .inl (cI, 300, .inl f4))] (fun (r : Int32) (u : Nat × Nat × Int × Int32 × Nat × (Nat → Int32)) => r = iI (apRun F n3 f1 n1).1 ∧ rl u.2.2.2.2.2 u.2.2.2.2.1 = (apRun F n3 f1 n1).2 ∧ u.2.2.2.2.1 ≤ 300) (fun (u : Nat × Nat × Int × Int32 × Nat × (Nat → Int32)) => match u with | ⟨a9, b9, d9, e9, n9, f9⟩ => [(ha, .inr (0, [.ref h3, .ref h1, .ref h4, .int (iI ((a9 : Nat) : Int)), .int (iI ((b9 : Nat) : Int)), .int (iI (d9 : Int)), .int e9])), (h3, .inr (3, [.ref a3, .int (iI ((n3 : Nat) : Int))])), (a3, .inl (cI, 900, .inl (kN F))), (h1, .inr (3, [.ref a1, .int (iI ((n1 : Nat) : Int))])), (a1, .inl (cI, 300, .inl f1)), (h4, .inr (3, [.ref a4, .int (iI ((n9 : Nat) : Int))])), (a4, .inl (cI, 300, .inl f9))]) 0 0 := by
  intro sz
  refine k_of (cc := cX0_run) (maxL := 2) (ret := (some .int)) (by decide) rfl (Nat.le_of_ble_eq_true rfl) ?_
  intro p e s m args below meth c A Q hAe hQ hx hb hr hml hts hown hlocks hnm hP hK hD hS hA ls hl
  have hl : lv_has ls 2 [(0, .ref ha)] := hl
  have hi_X0 : ∀ w ∈ u_ws RX0 TX0 7, w ∈ wsX0_run := fun w h => km (ikX0 w h)
  have fl18 := hts _ (km wm105)
  have fl21 := hts _ (km wm106)
  have fl25 := hts _ (km wm107)
  refine lv_aload_n hx hb dX0_run_0 rfl (lv_at hl 0 rfl) ?_
  refine va_get (D := D) (ci := 0) (v := .ref h4) (C := RX0) (T := TX0) (N := 7) hx hb hts hi_X0 hown hK hP 0 rfl rfl 2 (by decide) fl18 (fun _ h9 => h9) rfl dX0_run_1 ?_
  refine k_callv (wc := [(h4, .inr (3, [.ref a4, .int (iI ((n4 : Nat) : Int))])), (a4, .inl (cI, 300, .inl f4))]) (wr := [(ha, .inr (0, [.ref h3, .ref h1, .ref h4, .int (iI ((a0 : Nat) : Int)), .int (iI ((b0 : Nat) : Int)), .int (iI (ds : Int)), .int dc])), (h3, .inr (3, [.ref a3, .int (iI ((n3 : Nat) : Int))])), (a3, .inl (cI, 900, .inl (kN F))), (h1, .inr (3, [.ref a1, .int (iI ((n1 : Nat) : Int))])), (a1, .inl (cI, 300, .inl f1))]) (wf := fun _ => [(ha, .inr (0, [.ref h3, .ref h1, .ref h4, .int (iI ((a0 : Nat) : Int)), .int (iI ((b0 : Nat) : Int)), .int (iI (ds : Int)), .int dc])), (h3, .inr (3, [.ref a3, .int (iI ((n3 : Nat) : Int))])), (a3, .inl (cI, 900, .inl (kN F))), (h1, .inr (3, [.ref a1, .int (iI ((n1 : Nat) : Int))])), (a1, .inl (cI, 300, .inl f1)), (h4, .inr (3, [.ref a4, .int (iI ((0 : Nat) : Int))])), (a4, .inl (cI, 300, .inl f4))]) hK hP hD hS hA [5, 6] [0, 1, 2, 3, 4] [0, 1, 2, 3, 4, 5, 6] ⟨⟨rfl, rfl, by decide⟩, rfl, by decide, by decide⟩ (fun _ => ⟨rfl, rfl⟩) (by decide) (fun hPc hDc => va_runV (As := []) (rest := []) ⟨hx, hb, hml, hown, hts⟩ (c_Row_clear l D cI cZ (h := h4) (a := a4) (M := 300) (n := n4) (f := f4)  _) (cwV 0 hts (kgV wm344 wm213 wm214 wm39 wmcX3_clear) rfl rfl rfl (by decide +kernel) ⟨Nat.le_of_ble_eq_true rfl, Nat.le_of_ble_eq_true rfl⟩) (k_preV hK hPc hDc (ci := 3) (q0 := 0) rfl rfl) rfl rfl hl.1 rfl (lv_room (Nat.le_of_ble_eq_true rfl)) dX0_run_4 ⟨Nat.le_of_ble_eq_true rfl, Nat.le_of_ble_eq_true rfl⟩) (fun u H locs hw hP hD hS => ?_)
  have hP : va_P D vwCl [(ha, .inr (0, [.ref h3, .ref h1, .ref h4, .int (iI ((a0 : Nat) : Int)), .int (iI ((b0 : Nat) : Int)), .int (iI (ds : Int)), .int dc])), (h3, .inr (3, [.ref a3, .int (iI ((n3 : Nat) : Int))])), (a3, .inl (cI, 900, .inl (kN F))), (h1, .inr (3, [.ref a1, .int (iI ((n1 : Nat) : Int))])), (a1, .inl (cI, 300, .inl f1)), (h4, .inr (3, [.ref a4, .int (iI ((0 : Nat) : Int))])), (a4, .inl (cI, 300, .inl f4))] H := hP
  have hD : va_D A [(ha, .inr (0, [.ref h3, .ref h1, .ref h4, .int (iI ((a0 : Nat) : Int)), .int (iI ((b0 : Nat) : Int)), .int (iI (ds : Int)), .int dc])), (h3, .inr (3, [.ref a3, .int (iI ((n3 : Nat) : Int))])), (a3, .inl (cI, 900, .inl (kN F))), (h1, .inr (3, [.ref a1, .int (iI ((n1 : Nat) : Int))])), (a1, .inl (cI, 300, .inl f1)), (h4, .inr (3, [.ref a4, .int (iI ((0 : Nat) : Int))])), (a4, .inl (cI, 300, .inl f4))] := hD
  refine W.widen (k := 0) (n := 0) (Nat.le_of_ble_eq_true rfl) (Nat.le_of_ble_eq_true rfl) ?_
  refine lv_aload_n hx hb dX0_run_7 rfl (lv_at hl 0 rfl) ?_
  refine lv_iconst (v := iI ((0 : Nat) : Int)) hx hb dX0_run_8 rfl ?_
  refine va_put (D := D) (ci := 0) (v := .int (iI ((0 : Nat) : Int))) (ty := .int) (C := RX0) (T := TX0) (N := 7) hx hb hts hi_X0 tyX0 tyX0_ok nmX0 hown hK hP hD hS 0 rfl rfl 3 (by decide) fl21 (fun _ h9 => h9) rfl (by decide +kernel) rfl rfl (Nat.le_of_ble_eq_true rfl) dX0_run_9 (fun H locs hP hD hS => ?_)
  have hP : va_P D vwCl [(ha, .inr (0, [.ref h3, .ref h1, .ref h4, .int (iI ((0 : Nat) : Int)), .int (iI ((b0 : Nat) : Int)), .int (iI (ds : Int)), .int dc])), (h3, .inr (3, [.ref a3, .int (iI ((n3 : Nat) : Int))])), (a3, .inl (cI, 900, .inl (kN F))), (h1, .inr (3, [.ref a1, .int (iI ((n1 : Nat) : Int))])), (a1, .inl (cI, 300, .inl f1)), (h4, .inr (3, [.ref a4, .int (iI ((0 : Nat) : Int))])), (a4, .inl (cI, 300, .inl f4))] H := hP
  have hD : va_D A [(ha, .inr (0, [.ref h3, .ref h1, .ref h4, .int (iI ((0 : Nat) : Int)), .int (iI ((b0 : Nat) : Int)), .int (iI (ds : Int)), .int dc])), (h3, .inr (3, [.ref a3, .int (iI ((n3 : Nat) : Int))])), (a3, .inl (cI, 900, .inl (kN F))), (h1, .inr (3, [.ref a1, .int (iI ((n1 : Nat) : Int))])), (a1, .inl (cI, 300, .inl f1)), (h4, .inr (3, [.ref a4, .int (iI ((0 : Nat) : Int))])), (a4, .inl (cI, 300, .inl f4))] := hD
  refine lv_aload_n hx hb dX0_run_12 rfl (lv_at hl 0 rfl) ?_
  refine lv_iconst (v := iI ((0 : Nat) : Int)) hx hb dX0_run_13 rfl ?_
  refine va_put (D := D) (ci := 0) (v := .int (iI ((0 : Nat) : Int))) (ty := .int) (C := RX0) (T := TX0) (N := 7) hx hb hts hi_X0 tyX0 tyX0_ok nmX0 hown hK hP hD hS 0 rfl rfl 4 (by decide) fl25 (fun _ h9 => h9) rfl (by decide +kernel) rfl rfl (Nat.le_of_ble_eq_true rfl) dX0_run_14 (fun H locs hP hD hS => ?_)
  have hP : va_P D vwCl [(ha, .inr (0, [.ref h3, .ref h1, .ref h4, .int (iI ((0 : Nat) : Int)), .int (iI ((0 : Nat) : Int)), .int (iI (ds : Int)), .int dc])), (h3, .inr (3, [.ref a3, .int (iI ((n3 : Nat) : Int))])), (a3, .inl (cI, 900, .inl (kN F))), (h1, .inr (3, [.ref a1, .int (iI ((n1 : Nat) : Int))])), (a1, .inl (cI, 300, .inl f1)), (h4, .inr (3, [.ref a4, .int (iI ((0 : Nat) : Int))])), (a4, .inl (cI, 300, .inl f4))] H := hP
  have hD : va_D A [(ha, .inr (0, [.ref h3, .ref h1, .ref h4, .int (iI ((0 : Nat) : Int)), .int (iI ((0 : Nat) : Int)), .int (iI (ds : Int)), .int dc])), (h3, .inr (3, [.ref a3, .int (iI ((n3 : Nat) : Int))])), (a3, .inl (cI, 900, .inl (kN F))), (h1, .inr (3, [.ref a1, .int (iI ((n1 : Nat) : Int))])), (a1, .inl (cI, 300, .inl f1)), (h4, .inr (3, [.ref a4, .int (iI ((0 : Nat) : Int))])), (a4, .inl (cI, 300, .inl f4))] := hD
  refine lv_aload_n hx hb dX0_run_17 rfl (lv_at hl 0 rfl) ?_
  refine k_calli (wc := [(ha, .inr (0, [.ref h3, .ref h1, .ref h4, .int (iI ((0 : Nat) : Int)), .int (iI ((0 : Nat) : Int)), .int (iI (ds : Int)), .int dc])), (h3, .inr (3, [.ref a3, .int (iI ((n3 : Nat) : Int))])), (a3, .inl (cI, 900, .inl (kN F))), (h1, .inr (3, [.ref a1, .int (iI ((n1 : Nat) : Int))])), (a1, .inl (cI, 300, .inl f1))]) (wr := [(h4, .inr (3, [.ref a4, .int (iI ((0 : Nat) : Int))])), (a4, .inl (cI, 300, .inl f4))]) (wf := fun u => match u with | ⟨a9, d9, e9⟩ => [(ha, .inr (0, [.ref h3, .ref h1, .ref h4, .int (iI ((a9 : Nat) : Int)), .int (iI ((0 : Nat) : Int)), .int (iI (d9 : Int)), .int e9])), (h3, .inr (3, [.ref a3, .int (iI ((n3 : Nat) : Int))])), (a3, .inl (cI, 900, .inl (kN F))), (h1, .inr (3, [.ref a1, .int (iI ((n1 : Nat) : Int))])), (a1, .inl (cI, 300, .inl f1)), (h4, .inr (3, [.ref a4, .int (iI ((0 : Nat) : Int))])), (a4, .inl (cI, 300, .inl f4))]) hK hP hD hS hA [0, 1, 2, 3, 4] [5, 6] [2, 3, 4, 5, 6, 0, 1] ⟨⟨rfl, rfl, by decide⟩, rfl, by decide, by decide⟩ (fun _ => ⟨rfl, rfl⟩) (by decide) (fun hPc hDc => va_runV (As := []) (rest := []) ⟨hx, hb, hml, hown, hts⟩ (c_Applier_readHead l D cI cZ (ha := ha) (h3 := h3) (h1 := h1) (h4 := h4) (b0 := 0) (ds := ds) (dc := dc) (a3 := a3) (n3 := n3) (F := F) (a1 := a1) (n1 := n1) (f1 := f1) (hn3 := by omega) (hB := by omega) (hn1 := by omega) _) (cwV 0 hts (kgV wm345 wm347 wm4 wm42 wmcX0_readHead) rfl rfl rfl (by decide +kernel) ⟨Nat.le_of_ble_eq_true rfl, Nat.le_of_ble_eq_true rfl⟩) (k_preV hK hPc hDc (ci := 0) (q0 := 0) rfl rfl) rfl rfl hl.1 rfl (lv_room (Nat.le_of_ble_eq_true rfl)) dX0_run_18 ⟨Nat.le_of_ble_eq_true rfl, Nat.le_of_ble_eq_true rfl⟩) (fun r18 u H locs hw hP hD hS => ?_)
  obtain ⟨a9, d9, e9⟩ := u
  have hP : va_P D vwCl [(ha, .inr (0, [.ref h3, .ref h1, .ref h4, .int (iI ((a9 : Nat) : Int)), .int (iI ((0 : Nat) : Int)), .int (iI (d9 : Int)), .int e9])), (h3, .inr (3, [.ref a3, .int (iI ((n3 : Nat) : Int))])), (a3, .inl (cI, 900, .inl (kN F))), (h1, .inr (3, [.ref a1, .int (iI ((n1 : Nat) : Int))])), (a1, .inl (cI, 300, .inl f1)), (h4, .inr (3, [.ref a4, .int (iI ((0 : Nat) : Int))])), (a4, .inl (cI, 300, .inl f4))] H := hP
  have hD : va_D A [(ha, .inr (0, [.ref h3, .ref h1, .ref h4, .int (iI ((a9 : Nat) : Int)), .int (iI ((0 : Nat) : Int)), .int (iI (d9 : Int)), .int e9])), (h3, .inr (3, [.ref a3, .int (iI ((n3 : Nat) : Int))])), (a3, .inl (cI, 900, .inl (kN F))), (h1, .inr (3, [.ref a1, .int (iI ((n1 : Nat) : Int))])), (a1, .inl (cI, 300, .inl f1)), (h4, .inr (3, [.ref a4, .int (iI ((0 : Nat) : Int))])), (a4, .inl (cI, 300, .inl f4))] := hD
  refine W.widen (k := 0) (n := 0) (Nat.le_of_ble_eq_true rfl) (Nat.le_of_ble_eq_true rfl) ?_
  obtain ⟨hw1, hw2⟩ := hw
  obtain ⟨e1, e2, e3⟩ : a9 = (hdF F n3 f1 n1 ds dc).2.1 ∧ d9 = (hdF F n3 f1 n1 ds dc).2.2.1 ∧ e9 = (hdF F n3 f1 n1 ds dc).2.2.2 := by rw [← hw2]; exact ⟨rfl, rfl, rfl⟩
  subst hw1
  have hA1 := hdF_any F n3 f1 n1 ds dc
  have hh := hdF_w (F := F) (n3 := n3) (f1 := f1) (n1 := n1) (ds := ds) (dc := dc)
  have hhr := hh.1
  refine lv_istore_n (lv' := [(1, .int (iI ((hdF F n3 f1 n1 ds dc).1 : Int))), (0, .ref ha)]) hx hb dX0_run_21 rfl hl (by decide) rfl (fun ls hl => ?_)
  refine lv_iload_n hx hb dX0_run_22 rfl (lv_at hl 0 rfl) ?_
  refine lv_if_ne (tgt := 31) hx hb dX0_run_23 (by decide) (fun c23 => ?_) (fun c23 => ?_)
  · skip
    have c23 := iI_eqF (a := ((hdF F n3 f1 n1 ds dc).1 : Int)) (b := (0 : Int)) c23 (by omega)
    refine lv_iload_n hx hb dX0_run_31 rfl (lv_at hl 0 rfl) ?_
    refine lv_if_ne (tgt := 40) hx hb dX0_run_32 (by decide) (fun c32 => ?_) (fun c32 => ?_)
    · skip
      have c32 := iI_eqF (a := ((hdF F n3 f1 n1 ds dc).1 : Int)) (b := (0 : Int)) c32 (by omega)
      refine lv_iload_n hx hb dX0_run_40 rfl (lv_at hl 0 rfl) ?_
      refine lv_if_eq (tgt := 53) hx hb dX0_run_41 (by decide) (fun c41 => ?_) (fun c41 => ?_)
      · skip
        have c41 := iI_eqT (a := ((hdF F n3 f1 n1 ds dc).1 : Int)) (b := (0 : Int)) c41 (by omega)
        omega
      · skip
        have c41 := iI_eqF (a := ((hdF F n3 f1 n1 ds dc).1 : Int)) (b := (0 : Int)) c41 (by omega)
        refine lv_aload_n hx hb dX0_run_44 rfl (lv_at hl 1 rfl) ?_
        refine va_get (D := D) (ci := 0) (v := .ref h4) (C := RX0) (T := TX0) (N := 7) hx hb hts hi_X0 hown hK hP 0 rfl rfl 2 (by decide) fl18 (fun _ h9 => h9) rfl dX0_run_45 ?_
        refine k_callv (wc := [(h4, .inr (3, [.ref a4, .int (iI ((0 : Nat) : Int))])), (a4, .inl (cI, 300, .inl f4))]) (wr := [(ha, .inr (0, [.ref h3, .ref h1, .ref h4, .int (iI ((a9 : Nat) : Int)), .int (iI ((0 : Nat) : Int)), .int (iI (d9 : Int)), .int e9])), (h3, .inr (3, [.ref a3, .int (iI ((n3 : Nat) : Int))])), (a3, .inl (cI, 900, .inl (kN F))), (h1, .inr (3, [.ref a1, .int (iI ((n1 : Nat) : Int))])), (a1, .inl (cI, 300, .inl f1))]) (wf := fun _ => [(ha, .inr (0, [.ref h3, .ref h1, .ref h4, .int (iI ((a9 : Nat) : Int)), .int (iI ((0 : Nat) : Int)), .int (iI (d9 : Int)), .int e9])), (h3, .inr (3, [.ref a3, .int (iI ((n3 : Nat) : Int))])), (a3, .inl (cI, 900, .inl (kN F))), (h1, .inr (3, [.ref a1, .int (iI ((n1 : Nat) : Int))])), (a1, .inl (cI, 300, .inl f1)), (h4, .inr (3, [.ref a4, .int (iI ((0 : Nat) : Int))])), (a4, .inl (cI, 300, .inl f4))]) hK hP hD hS hA [5, 6] [0, 1, 2, 3, 4] [0, 1, 2, 3, 4, 5, 6] ⟨⟨rfl, rfl, by decide⟩, rfl, by decide, by decide⟩ (fun _ => ⟨rfl, rfl⟩) (by decide) (fun hPc hDc => va_runV (As := []) (rest := []) ⟨hx, hb, hml, hown, hts⟩ (c_Row_clear l D cI cZ (h := h4) (a := a4) (M := 300) (n := 0) (f := f4)  _) (cwV 0 hts (kgV wm344 wm213 wm214 wm39 wmcX3_clear) rfl rfl rfl (by decide +kernel) ⟨Nat.le_of_ble_eq_true rfl, Nat.le_of_ble_eq_true rfl⟩) (k_preV hK hPc hDc (ci := 3) (q0 := 0) rfl rfl) rfl rfl hl.1 rfl (lv_room (Nat.le_of_ble_eq_true rfl)) dX0_run_48 ⟨Nat.le_of_ble_eq_true rfl, Nat.le_of_ble_eq_true rfl⟩) (fun u H locs hw hP hD hS => ?_)
        have hP : va_P D vwCl [(ha, .inr (0, [.ref h3, .ref h1, .ref h4, .int (iI ((a9 : Nat) : Int)), .int (iI ((0 : Nat) : Int)), .int (iI (d9 : Int)), .int e9])), (h3, .inr (3, [.ref a3, .int (iI ((n3 : Nat) : Int))])), (a3, .inl (cI, 900, .inl (kN F))), (h1, .inr (3, [.ref a1, .int (iI ((n1 : Nat) : Int))])), (a1, .inl (cI, 300, .inl f1)), (h4, .inr (3, [.ref a4, .int (iI ((0 : Nat) : Int))])), (a4, .inl (cI, 300, .inl f4))] H := hP
        have hD : va_D A [(ha, .inr (0, [.ref h3, .ref h1, .ref h4, .int (iI ((a9 : Nat) : Int)), .int (iI ((0 : Nat) : Int)), .int (iI (d9 : Int)), .int e9])), (h3, .inr (3, [.ref a3, .int (iI ((n3 : Nat) : Int))])), (a3, .inl (cI, 900, .inl (kN F))), (h1, .inr (3, [.ref a1, .int (iI ((n1 : Nat) : Int))])), (a1, .inl (cI, 300, .inl f1)), (h4, .inr (3, [.ref a4, .int (iI ((0 : Nat) : Int))])), (a4, .inl (cI, 300, .inl f4))] := hD
        refine W.widen (k := 0) (n := 0) (Nat.le_of_ble_eq_true rfl) (Nat.le_of_ble_eq_true rfl) ?_
        refine lv_iload_n hx hb dX0_run_51 rfl (lv_at hl 0 rfl) ?_
        have hE : apRun F n3 f1 n1 = ((hdF F n3 f1 n1 ds dc).1, []) := by unfold apRun; rw [if_pos (by rw [← hA1.1]; exact c41), ← hA1.1]
        exact k_iret (a9, 0, d9, e9, 0, f4) hx hb hr hlocks hK hP hD hS [0, 1, 2, 3, 4, 5, 6] (by decide) rfl rfl (⟨by rw [hE], by rw [hE]; first | exact rl_ap0 _ _ | rfl, by dsimp only; omega⟩) hAe hQ dX0_run_52
    · skip
      have c32 := iI_eqT (a := ((hdF F n3 f1 n1 ds dc).1 : Int)) (b := (0 : Int)) c32 (by omega)
      omega
  · skip
    have c23 := iI_eqT (a := ((hdF F n3 f1 n1 ds dc).1 : Int)) (b := (0 : Int)) c23 (by omega)
    refine lv_aload_n hx hb dX0_run_26 rfl (lv_at hl 1 rfl) ?_
    have hh2 := hh.2 c23
    rw [← e1, ← e2] at hh2
    rw [show f4 = (apL f4 0 (([] : List Int32))) from (apL_nil f4 0).symm] at hP hD
    rw [show iI ((0 : Nat) : Int) = iI (((([] : List Int32)).length : Nat) : Int) from rfl] at hP hD
    refine k_calli (wc := [(ha, .inr (0, [.ref h3, .ref h1, .ref h4, .int (iI ((a9 : Nat) : Int)), .int (iI ((0 : Nat) : Int)), .int (iI (d9 : Int)), .int e9])), (h3, .inr (3, [.ref a3, .int (iI ((n3 : Nat) : Int))])), (a3, .inl (cI, 900, .inl (kN F))), (h1, .inr (3, [.ref a1, .int (iI ((n1 : Nat) : Int))])), (a1, .inl (cI, 300, .inl f1)), (h4, .inr (3, [.ref a4, .int (iI (((([] : List Int32)).length : Nat) : Int))])), (a4, .inl (cI, 300, .inl (apL f4 0 (([] : List Int32)))))]) (wr := []) (wf := fun u => match u with | ⟨a8, b8, T8⟩ => [(ha, .inr (0, [.ref h3, .ref h1, .ref h4, .int (iI ((a8 : Nat) : Int)), .int (iI ((b8 : Nat) : Int)), .int (iI (d9 : Int)), .int e9])), (h3, .inr (3, [.ref a3, .int (iI ((n3 : Nat) : Int))])), (a3, .inl (cI, 900, .inl (kN F))), (h1, .inr (3, [.ref a1, .int (iI ((n1 : Nat) : Int))])), (a1, .inl (cI, 300, .inl f1)), (h4, .inr (3, [.ref a4, .int (iI (((T8).length : Nat) : Int))])), (a4, .inl (cI, 300, .inl (apL f4 0 (T8))))]) hK hP hD hS hA [0, 1, 2, 3, 4, 5, 6] [] [0, 1, 2, 3, 4, 5, 6] ⟨⟨rfl, rfl, by decide⟩, rfl, by decide, by decide⟩ (fun _ => ⟨rfl, rfl⟩) (by decide) (fun hPc hDc => va_runV (As := []) (rest := []) ⟨hx, hb, hml, hown, hts⟩ (c_Applier_doAll l D cI cZ (ha := ha) (h3 := h3) (h1 := h1) (h4 := h4) (a0 := a9) (b0 := 0) (ds := d9) (dc := e9) (a3 := a3) (n3 := n3) (F := F) (a1 := a1) (n1 := n1) (f1 := f1) (a4 := a4) (f4 := f4) (T := ([] : List Int32)) (hat := by omega) (hn3 := by omega) (hB := by omega) (hn1 := by omega) (hb0 := by omega) (hds := by omega) (hTl := by simpa using hh2.2.1) _) (cwV 0 hts (kgV wm364 wm366 wm8 wm42 wmcX0_doAll) rfl rfl rfl (by decide +kernel) ⟨Nat.le_of_ble_eq_true rfl, Nat.le_of_ble_eq_true rfl⟩) (k_preV hK hPc hDc (ci := 0) (q0 := 0) rfl rfl) rfl rfl hl.1 rfl (lv_room (Nat.le_of_ble_eq_true rfl)) dX0_run_27 ⟨Nat.le_of_ble_eq_true rfl, Nat.le_of_ble_eq_true rfl⟩) (fun r27 u H locs hw hP hD hS => ?_)
    obtain ⟨a8, b8, T8⟩ := u
    have hP : va_P D vwCl [(ha, .inr (0, [.ref h3, .ref h1, .ref h4, .int (iI ((a8 : Nat) : Int)), .int (iI ((b8 : Nat) : Int)), .int (iI (d9 : Int)), .int e9])), (h3, .inr (3, [.ref a3, .int (iI ((n3 : Nat) : Int))])), (a3, .inl (cI, 900, .inl (kN F))), (h1, .inr (3, [.ref a1, .int (iI ((n1 : Nat) : Int))])), (a1, .inl (cI, 300, .inl f1)), (h4, .inr (3, [.ref a4, .int (iI (((T8).length : Nat) : Int))])), (a4, .inl (cI, 300, .inl (apL f4 0 (T8))))] H := hP
    have hD : va_D A [(ha, .inr (0, [.ref h3, .ref h1, .ref h4, .int (iI ((a8 : Nat) : Int)), .int (iI ((b8 : Nat) : Int)), .int (iI (d9 : Int)), .int e9])), (h3, .inr (3, [.ref a3, .int (iI ((n3 : Nat) : Int))])), (a3, .inl (cI, 900, .inl (kN F))), (h1, .inr (3, [.ref a1, .int (iI ((n1 : Nat) : Int))])), (a1, .inl (cI, 300, .inl f1)), (h4, .inr (3, [.ref a4, .int (iI (((T8).length : Nat) : Int))])), (a4, .inl (cI, 300, .inl (apL f4 0 (T8))))] := hD
    refine W.widen (k := 0) (n := 0) (Nat.le_of_ble_eq_true rfl) (Nat.le_of_ble_eq_true rfl) ?_
    obtain ⟨hw1, hw2⟩ := hw
    obtain ⟨g1, g2, hT8⟩ : a8 = (alF F n3 f1 n1 d9 900 a9 0 []).2.1 ∧ b8 = (alF F n3 f1 n1 d9 900 a9 0 []).2.2.1 ∧ T8 = (alF F n3 f1 n1 d9 900 a9 0 []).2.2.2 := by rw [← hw2]; exact ⟨rfl, rfl, rfl⟩
    subst hw1
    have hA2 := hA1.2 c23
    have e5 : d9 = (hdF F n3 f1 n1 0 0).2.2.1 := by rw [e2, hA2]
    have e6 : e9 = (hdF F n3 f1 n1 0 0).2.2.2 := by rw [e3, hA2]
    have e7 : a9 = (hdF F n3 f1 n1 0 0).2.1 := by rw [e1, hA2]
    have hal : (alF F n3 f1 n1 d9 900 a9 0 []) = (alF F n3 f1 n1 (hdF F n3 f1 n1 0 0).2.2.1 900 (hdF F n3 f1 n1 0 0).2.1 0 []) := by rw [e5, e7]
    have haw := alF_w (F := F) (n3 := n3) (f1 := f1) (n1 := n1) (ds := d9) 900 a9 0 [] (by omega) (by omega) (by simpa using hh2.2.1)
    have hawT : (T8.length : Int) ≤ d9 := by rw [hT8]; exact haw.2.2.2
    have hawr := haw.1
    refine lv_istore_n (lv' := [(1, .int (iI ((alF F n3 f1 n1 d9 900 a9 0 []).1 : Int))), (0, .ref ha)]) hx hb dX0_run_30 rfl hl (by decide) rfl (fun ls hl => ?_)
    refine lv_iload_n hx hb dX0_run_31 rfl (lv_at hl 0 rfl) ?_
    refine lv_if_ne (tgt := 40) hx hb dX0_run_32 (by decide) (fun c32 => ?_) (fun c32 => ?_)
    · skip
      have c32 := iI_eqF (a := ((alF F n3 f1 n1 d9 900 a9 0 []).1 : Int)) (b := (0 : Int)) c32 (by omega)
      refine lv_iload_n hx hb dX0_run_40 rfl (lv_at hl 0 rfl) ?_
      refine lv_if_eq (tgt := 53) hx hb dX0_run_41 (by decide) (fun c41 => ?_) (fun c41 => ?_)
      · skip
        have c41 := iI_eqT (a := ((alF F n3 f1 n1 d9 900 a9 0 []).1 : Int)) (b := (0 : Int)) c41 (by omega)
        omega
      · skip
        have c41 := iI_eqF (a := ((alF F n3 f1 n1 d9 900 a9 0 []).1 : Int)) (b := (0 : Int)) c41 (by omega)
        refine lv_aload_n hx hb dX0_run_44 rfl (lv_at hl 1 rfl) ?_
        refine va_get (D := D) (ci := 0) (v := .ref h4) (C := RX0) (T := TX0) (N := 7) hx hb hts hi_X0 hown hK hP 0 rfl rfl 2 (by decide) fl18 (fun _ h9 => h9) rfl dX0_run_45 ?_
        refine k_callv (wc := [(h4, .inr (3, [.ref a4, .int (iI (((T8).length : Nat) : Int))])), (a4, .inl (cI, 300, .inl (apL f4 0 (T8))))]) (wr := [(ha, .inr (0, [.ref h3, .ref h1, .ref h4, .int (iI ((a8 : Nat) : Int)), .int (iI ((b8 : Nat) : Int)), .int (iI (d9 : Int)), .int e9])), (h3, .inr (3, [.ref a3, .int (iI ((n3 : Nat) : Int))])), (a3, .inl (cI, 900, .inl (kN F))), (h1, .inr (3, [.ref a1, .int (iI ((n1 : Nat) : Int))])), (a1, .inl (cI, 300, .inl f1))]) (wf := fun _ => [(ha, .inr (0, [.ref h3, .ref h1, .ref h4, .int (iI ((a8 : Nat) : Int)), .int (iI ((b8 : Nat) : Int)), .int (iI (d9 : Int)), .int e9])), (h3, .inr (3, [.ref a3, .int (iI ((n3 : Nat) : Int))])), (a3, .inl (cI, 900, .inl (kN F))), (h1, .inr (3, [.ref a1, .int (iI ((n1 : Nat) : Int))])), (a1, .inl (cI, 300, .inl f1)), (h4, .inr (3, [.ref a4, .int (iI ((0 : Nat) : Int))])), (a4, .inl (cI, 300, .inl (apL f4 0 (T8))))]) hK hP hD hS hA [5, 6] [0, 1, 2, 3, 4] [0, 1, 2, 3, 4, 5, 6] ⟨⟨rfl, rfl, by decide⟩, rfl, by decide, by decide⟩ (fun _ => ⟨rfl, rfl⟩) (by decide) (fun hPc hDc => va_runV (As := []) (rest := []) ⟨hx, hb, hml, hown, hts⟩ (c_Row_clear l D cI cZ (h := h4) (a := a4) (M := 300) (n := (T8).length) (f := (apL f4 0 (T8)))  _) (cwV 0 hts (kgV wm344 wm213 wm214 wm39 wmcX3_clear) rfl rfl rfl (by decide +kernel) ⟨Nat.le_of_ble_eq_true rfl, Nat.le_of_ble_eq_true rfl⟩) (k_preV hK hPc hDc (ci := 3) (q0 := 0) rfl rfl) rfl rfl hl.1 rfl (lv_room (Nat.le_of_ble_eq_true rfl)) dX0_run_48 ⟨Nat.le_of_ble_eq_true rfl, Nat.le_of_ble_eq_true rfl⟩) (fun u H locs hw hP hD hS => ?_)
        have hP : va_P D vwCl [(ha, .inr (0, [.ref h3, .ref h1, .ref h4, .int (iI ((a8 : Nat) : Int)), .int (iI ((b8 : Nat) : Int)), .int (iI (d9 : Int)), .int e9])), (h3, .inr (3, [.ref a3, .int (iI ((n3 : Nat) : Int))])), (a3, .inl (cI, 900, .inl (kN F))), (h1, .inr (3, [.ref a1, .int (iI ((n1 : Nat) : Int))])), (a1, .inl (cI, 300, .inl f1)), (h4, .inr (3, [.ref a4, .int (iI ((0 : Nat) : Int))])), (a4, .inl (cI, 300, .inl (apL f4 0 (T8))))] H := hP
        have hD : va_D A [(ha, .inr (0, [.ref h3, .ref h1, .ref h4, .int (iI ((a8 : Nat) : Int)), .int (iI ((b8 : Nat) : Int)), .int (iI (d9 : Int)), .int e9])), (h3, .inr (3, [.ref a3, .int (iI ((n3 : Nat) : Int))])), (a3, .inl (cI, 900, .inl (kN F))), (h1, .inr (3, [.ref a1, .int (iI ((n1 : Nat) : Int))])), (a1, .inl (cI, 300, .inl f1)), (h4, .inr (3, [.ref a4, .int (iI ((0 : Nat) : Int))])), (a4, .inl (cI, 300, .inl (apL f4 0 (T8))))] := hD
        refine W.widen (k := 0) (n := 0) (Nat.le_of_ble_eq_true rfl) (Nat.le_of_ble_eq_true rfl) ?_
        refine lv_iload_n hx hb dX0_run_51 rfl (lv_at hl 0 rfl) ?_
        have hE : apRun F n3 f1 n1 = ((alF F n3 f1 n1 d9 900 a9 0 []).1, []) := by unfold apRun; rw [if_neg (fun h => h (by rw [← hA1.1]; exact c23)), ← hal]; rw [if_pos c41]
        exact k_iret (a8, b8, d9, e9, 0, (apL f4 0 (T8))) hx hb hr hlocks hK hP hD hS [0, 1, 2, 3, 4, 5, 6] (by decide) rfl rfl (⟨by rw [hE], by rw [hE]; first | exact rl_ap0 _ _ | rfl, by dsimp only; omega⟩) hAe hQ dX0_run_52
    · skip
      have c32 := iI_eqT (a := ((alF F n3 f1 n1 d9 900 a9 0 []).1 : Int)) (b := (0 : Int)) c32 (by omega)
      refine lv_aload_n hx hb dX0_run_35 rfl (lv_at hl 1 rfl) ?_
      refine k_calli (wc := [(ha, .inr (0, [.ref h3, .ref h1, .ref h4, .int (iI ((a8 : Nat) : Int)), .int (iI ((b8 : Nat) : Int)), .int (iI (d9 : Int)), .int e9])), (h4, .inr (3, [.ref a4, .int (iI (((T8).length : Nat) : Int))])), (a4, .inl (cI, 300, .inl (apL f4 0 (T8))))]) (wr := [(h3, .inr (3, [.ref a3, .int (iI ((n3 : Nat) : Int))])), (a3, .inl (cI, 900, .inl (kN F))), (h1, .inr (3, [.ref a1, .int (iI ((n1 : Nat) : Int))])), (a1, .inl (cI, 300, .inl f1))]) (wf := fun _ => [(ha, .inr (0, [.ref h3, .ref h1, .ref h4, .int (iI ((a8 : Nat) : Int)), .int (iI ((b8 : Nat) : Int)), .int (iI (d9 : Int)), .int e9])), (h3, .inr (3, [.ref a3, .int (iI ((n3 : Nat) : Int))])), (a3, .inl (cI, 900, .inl (kN F))), (h1, .inr (3, [.ref a1, .int (iI ((n1 : Nat) : Int))])), (a1, .inl (cI, 300, .inl f1)), (h4, .inr (3, [.ref a4, .int (iI (((T8).length : Nat) : Int))])), (a4, .inl (cI, 300, .inl (apL f4 0 (T8))))]) hK hP hD hS hA [0, 5, 6] [1, 2, 3, 4] [4, 0, 1, 2, 3, 5, 6] ⟨⟨rfl, rfl, by decide⟩, rfl, by decide, by decide⟩ (fun _ => ⟨rfl, rfl⟩) (by decide) (fun hPc hDc => va_runV (As := []) (rest := []) ⟨hx, hb, hml, hown, hts⟩ (c_Applier_judgeResult l D cI cZ (ha := ha) (h3 := h3) (h1 := h1) (h4 := h4) (a0 := a8) (b0 := b8) (ds := d9) (dc := e9) (a4 := a4) (f4 := f4) (T := T8) (hds := hh2.2) (hTl := hawT) _) (cwV 0 hts (kgV wm384 wm386 wm12 wm42 wmcX0_judgeResult) rfl rfl rfl (by decide +kernel) ⟨Nat.le_of_ble_eq_true rfl, Nat.le_of_ble_eq_true rfl⟩) (k_preV hK hPc hDc (ci := 0) (q0 := 0) rfl rfl) rfl rfl hl.1 rfl (lv_room (Nat.le_of_ble_eq_true rfl)) dX0_run_36 ⟨Nat.le_of_ble_eq_true rfl, Nat.le_of_ble_eq_true rfl⟩) (fun r36 u H locs hw hP hD hS => ?_)
      have hP : va_P D vwCl [(ha, .inr (0, [.ref h3, .ref h1, .ref h4, .int (iI ((a8 : Nat) : Int)), .int (iI ((b8 : Nat) : Int)), .int (iI (d9 : Int)), .int e9])), (h3, .inr (3, [.ref a3, .int (iI ((n3 : Nat) : Int))])), (a3, .inl (cI, 900, .inl (kN F))), (h1, .inr (3, [.ref a1, .int (iI ((n1 : Nat) : Int))])), (a1, .inl (cI, 300, .inl f1)), (h4, .inr (3, [.ref a4, .int (iI (((T8).length : Nat) : Int))])), (a4, .inl (cI, 300, .inl (apL f4 0 (T8))))] H := hP
      have hD : va_D A [(ha, .inr (0, [.ref h3, .ref h1, .ref h4, .int (iI ((a8 : Nat) : Int)), .int (iI ((b8 : Nat) : Int)), .int (iI (d9 : Int)), .int e9])), (h3, .inr (3, [.ref a3, .int (iI ((n3 : Nat) : Int))])), (a3, .inl (cI, 900, .inl (kN F))), (h1, .inr (3, [.ref a1, .int (iI ((n1 : Nat) : Int))])), (a1, .inl (cI, 300, .inl f1)), (h4, .inr (3, [.ref a4, .int (iI (((T8).length : Nat) : Int))])), (a4, .inl (cI, 300, .inl (apL f4 0 (T8))))] := hD
      refine W.widen (k := 0) (n := 0) (Nat.le_of_ble_eq_true rfl) (Nat.le_of_ble_eq_true rfl) ?_
      have hw : r36 = iI (jdF d9 e9 T8 : Int) := hw
      subst hw
      have hjr := jdF_w d9 e9 T8
      refine lv_istore_n (lv' := [(1, .int (iI (jdF d9 e9 T8 : Int))), (0, .ref ha)]) hx hb dX0_run_39 rfl hl (by decide) rfl (fun ls hl => ?_)
      refine lv_iload_n hx hb dX0_run_40 rfl (lv_at hl 0 rfl) ?_
      refine lv_if_eq (tgt := 53) hx hb dX0_run_41 (by decide) (fun c41 => ?_) (fun c41 => ?_)
      · skip
        have c41 := iI_eqT (a := (jdF d9 e9 T8 : Int)) (b := (0 : Int)) c41 (by omega)
        refine lv_aload_n hx hb dX0_run_53 rfl (lv_at hl 1 rfl) ?_
        refine va_get (D := D) (ci := 0) (v := .ref h4) (C := RX0) (T := TX0) (N := 7) hx hb hts hi_X0 hown hK hP 0 rfl rfl 2 (by decide) fl18 (fun _ h9 => h9) rfl dX0_run_54 ?_
        refine k_calli (wc := [(h4, .inr (3, [.ref a4, .int (iI (((T8).length : Nat) : Int))])), (a4, .inl (cI, 300, .inl (apL f4 0 (T8))))]) (wr := [(ha, .inr (0, [.ref h3, .ref h1, .ref h4, .int (iI ((a8 : Nat) : Int)), .int (iI ((b8 : Nat) : Int)), .int (iI (d9 : Int)), .int e9])), (h3, .inr (3, [.ref a3, .int (iI ((n3 : Nat) : Int))])), (a3, .inl (cI, 900, .inl (kN F))), (h1, .inr (3, [.ref a1, .int (iI ((n1 : Nat) : Int))])), (a1, .inl (cI, 300, .inl f1))]) (wf := fun _ => [(ha, .inr (0, [.ref h3, .ref h1, .ref h4, .int (iI ((a8 : Nat) : Int)), .int (iI ((b8 : Nat) : Int)), .int (iI (d9 : Int)), .int e9])), (h3, .inr (3, [.ref a3, .int (iI ((n3 : Nat) : Int))])), (a3, .inl (cI, 900, .inl (kN F))), (h1, .inr (3, [.ref a1, .int (iI ((n1 : Nat) : Int))])), (a1, .inl (cI, 300, .inl f1)), (h4, .inr (3, [.ref a4, .int (iI ((((T8).length) : Nat) : Int))])), (a4, .inl (cI, 300, .inl (apL f4 0 (T8))))]) hK hP hD hS hA [5, 6] [0, 1, 2, 3, 4] [0, 1, 2, 3, 4, 5, 6] ⟨⟨rfl, rfl, by decide⟩, rfl, by decide, by decide⟩ (fun _ => ⟨rfl, rfl⟩) (by decide) (fun hPc hDc => va_runV (As := []) (rest := []) ⟨hx, hb, hml, hown, hts⟩ (c_Row_count l D cI cZ (h := h4) (a := a4) (M := 300) (n := (T8).length) (f := (apL f4 0 (T8)))  _) (cwV 0 hts (kgV wm358 wm193 wm194 wm39 wmcX3_count) rfl rfl rfl (by decide +kernel) ⟨Nat.le_of_ble_eq_true rfl, Nat.le_of_ble_eq_true rfl⟩) (k_preV hK hPc hDc (ci := 3) (q0 := 0) rfl rfl) rfl rfl hl.1 rfl (lv_room (Nat.le_of_ble_eq_true rfl)) dX0_run_57 ⟨Nat.le_of_ble_eq_true rfl, Nat.le_of_ble_eq_true rfl⟩) (fun r57 u H locs hw hP hD hS => ?_)
        have hP : va_P D vwCl [(ha, .inr (0, [.ref h3, .ref h1, .ref h4, .int (iI ((a8 : Nat) : Int)), .int (iI ((b8 : Nat) : Int)), .int (iI (d9 : Int)), .int e9])), (h3, .inr (3, [.ref a3, .int (iI ((n3 : Nat) : Int))])), (a3, .inl (cI, 900, .inl (kN F))), (h1, .inr (3, [.ref a1, .int (iI ((n1 : Nat) : Int))])), (a1, .inl (cI, 300, .inl f1)), (h4, .inr (3, [.ref a4, .int (iI ((((T8).length) : Nat) : Int))])), (a4, .inl (cI, 300, .inl (apL f4 0 (T8))))] H := hP
        have hD : va_D A [(ha, .inr (0, [.ref h3, .ref h1, .ref h4, .int (iI ((a8 : Nat) : Int)), .int (iI ((b8 : Nat) : Int)), .int (iI (d9 : Int)), .int e9])), (h3, .inr (3, [.ref a3, .int (iI ((n3 : Nat) : Int))])), (a3, .inl (cI, 900, .inl (kN F))), (h1, .inr (3, [.ref a1, .int (iI ((n1 : Nat) : Int))])), (a1, .inl (cI, 300, .inl f1)), (h4, .inr (3, [.ref a4, .int (iI ((((T8).length) : Nat) : Int))])), (a4, .inl (cI, 300, .inl (apL f4 0 (T8))))] := hD
        refine W.widen (k := 0) (n := 0) (Nat.le_of_ble_eq_true rfl) (Nat.le_of_ble_eq_true rfl) ?_
        have hw : r57 = iI ((((T8).length) : Nat) : Int) := hw
        subst hw
        have hE : apRun F n3 f1 n1 = ((T8.length : Int), T8) := by unfold apRun; rw [if_neg (fun h => h (by rw [← hA1.1]; exact c23)), ← hal]; rw [if_neg (fun h => h c32), ← e5, ← e6, ← hT8]; rw [if_neg (fun h => h c41)]
        exact k_iret (a8, b8, d9, e9, ((T8).length), (apL f4 0 (T8))) hx hb hr hlocks hK hP hD hS [0, 1, 2, 3, 4, 5, 6] (by decide) rfl rfl (⟨by rw [hE], by rw [hE]; first | exact rl_ap0 _ _ | rfl, by dsimp only; omega⟩) hAe hQ dX0_run_60
      · skip
        have c41 := iI_eqF (a := (jdF d9 e9 T8 : Int)) (b := (0 : Int)) c41 (by omega)
        refine lv_aload_n hx hb dX0_run_44 rfl (lv_at hl 1 rfl) ?_
        refine va_get (D := D) (ci := 0) (v := .ref h4) (C := RX0) (T := TX0) (N := 7) hx hb hts hi_X0 hown hK hP 0 rfl rfl 2 (by decide) fl18 (fun _ h9 => h9) rfl dX0_run_45 ?_
        refine k_callv (wc := [(h4, .inr (3, [.ref a4, .int (iI (((T8).length : Nat) : Int))])), (a4, .inl (cI, 300, .inl (apL f4 0 (T8))))]) (wr := [(ha, .inr (0, [.ref h3, .ref h1, .ref h4, .int (iI ((a8 : Nat) : Int)), .int (iI ((b8 : Nat) : Int)), .int (iI (d9 : Int)), .int e9])), (h3, .inr (3, [.ref a3, .int (iI ((n3 : Nat) : Int))])), (a3, .inl (cI, 900, .inl (kN F))), (h1, .inr (3, [.ref a1, .int (iI ((n1 : Nat) : Int))])), (a1, .inl (cI, 300, .inl f1))]) (wf := fun _ => [(ha, .inr (0, [.ref h3, .ref h1, .ref h4, .int (iI ((a8 : Nat) : Int)), .int (iI ((b8 : Nat) : Int)), .int (iI (d9 : Int)), .int e9])), (h3, .inr (3, [.ref a3, .int (iI ((n3 : Nat) : Int))])), (a3, .inl (cI, 900, .inl (kN F))), (h1, .inr (3, [.ref a1, .int (iI ((n1 : Nat) : Int))])), (a1, .inl (cI, 300, .inl f1)), (h4, .inr (3, [.ref a4, .int (iI ((0 : Nat) : Int))])), (a4, .inl (cI, 300, .inl (apL f4 0 (T8))))]) hK hP hD hS hA [5, 6] [0, 1, 2, 3, 4] [0, 1, 2, 3, 4, 5, 6] ⟨⟨rfl, rfl, by decide⟩, rfl, by decide, by decide⟩ (fun _ => ⟨rfl, rfl⟩) (by decide) (fun hPc hDc => va_runV (As := []) (rest := []) ⟨hx, hb, hml, hown, hts⟩ (c_Row_clear l D cI cZ (h := h4) (a := a4) (M := 300) (n := (T8).length) (f := (apL f4 0 (T8)))  _) (cwV 0 hts (kgV wm344 wm213 wm214 wm39 wmcX3_clear) rfl rfl rfl (by decide +kernel) ⟨Nat.le_of_ble_eq_true rfl, Nat.le_of_ble_eq_true rfl⟩) (k_preV hK hPc hDc (ci := 3) (q0 := 0) rfl rfl) rfl rfl hl.1 rfl (lv_room (Nat.le_of_ble_eq_true rfl)) dX0_run_48 ⟨Nat.le_of_ble_eq_true rfl, Nat.le_of_ble_eq_true rfl⟩) (fun u H locs hw hP hD hS => ?_)
        have hP : va_P D vwCl [(ha, .inr (0, [.ref h3, .ref h1, .ref h4, .int (iI ((a8 : Nat) : Int)), .int (iI ((b8 : Nat) : Int)), .int (iI (d9 : Int)), .int e9])), (h3, .inr (3, [.ref a3, .int (iI ((n3 : Nat) : Int))])), (a3, .inl (cI, 900, .inl (kN F))), (h1, .inr (3, [.ref a1, .int (iI ((n1 : Nat) : Int))])), (a1, .inl (cI, 300, .inl f1)), (h4, .inr (3, [.ref a4, .int (iI ((0 : Nat) : Int))])), (a4, .inl (cI, 300, .inl (apL f4 0 (T8))))] H := hP
        have hD : va_D A [(ha, .inr (0, [.ref h3, .ref h1, .ref h4, .int (iI ((a8 : Nat) : Int)), .int (iI ((b8 : Nat) : Int)), .int (iI (d9 : Int)), .int e9])), (h3, .inr (3, [.ref a3, .int (iI ((n3 : Nat) : Int))])), (a3, .inl (cI, 900, .inl (kN F))), (h1, .inr (3, [.ref a1, .int (iI ((n1 : Nat) : Int))])), (a1, .inl (cI, 300, .inl f1)), (h4, .inr (3, [.ref a4, .int (iI ((0 : Nat) : Int))])), (a4, .inl (cI, 300, .inl (apL f4 0 (T8))))] := hD
        refine W.widen (k := 0) (n := 0) (Nat.le_of_ble_eq_true rfl) (Nat.le_of_ble_eq_true rfl) ?_
        refine lv_iload_n hx hb dX0_run_51 rfl (lv_at hl 0 rfl) ?_
        have hE : apRun F n3 f1 n1 = ((jdF d9 e9 T8), []) := by unfold apRun; rw [if_neg (fun h => h (by rw [← hA1.1]; exact c23)), ← hal]; rw [if_neg (fun h => h c32), ← e5, ← e6, ← hT8]; rw [if_pos c41]
        exact k_iret (a8, b8, d9, e9, 0, (apL f4 0 (T8))) hx hb hr hlocks hK hP hD hS [0, 1, 2, 3, 4, 5, 6] (by decide) rfl rfl (⟨by rw [hE], by rw [hE]; first | exact rl_ap0 _ _ | rfl, by dsimp only; omega⟩) hAe hQ dX0_run_52
end
section
/-! in place -/
def pfx (k : Nat) (v : Int) (A : Nat → Int) : Nat → Int := fun i => if i < k then v else A i
theorem pfx_0 (v : Int) (A : Nat → Int) : pfx 0 v A = A := by funext i; simp [pfx]
theorem pfx_s (k : Nat) (v : Int) (A : Nat → Int) : upd (kA (pfx k v A)) k (iI v) = kA (pfx (k + 1) v A) := by
  rw [kA_upd]
  congr 1
  funext i
  unfold uZ pfx
  by_cases h : i = k
  · subst h; simp
  · by_cases h2 : i < k
    · simp [h, h2, Nat.lt_succ_of_lt h2]
    · have h3 : ¬ i < k + 1 := by omega
      simp [h, h2, h3]
theorem cpy_0 {f g : Nat → Int32} {sp dp : Nat} : va_cpy f g sp dp 0 = g := by
  funext j
  unfold va_cpy
  rw [if_neg (by omega)]
theorem cpy_s {f g : Nat → Int32} {sp dp k : Nat} : upd (va_cpy f g sp dp k) (dp + k) (f (sp + k)) = va_cpy f g sp dp (k + 1) := by
  funext j
  unfold upd va_cpy
  by_cases h : j = dp + k
  · rw [if_pos h, if_pos (by omega)]
    congr 1
    omega
  · rw [if_neg h]
    by_cases h2 : dp ≤ j ∧ j < dp + k
    · rw [if_pos h2, if_pos (by omega)]
    · rw [if_neg h2, if_neg (by omega)]
/-- the counts of those that wait, changed by c for those whose bytes lie where q takes -/
def chB (P L S : Nat → Int) (q : Nat) (c : Int) (k : Nat) (B : Nat → Int) : Nat → Int := fun i => if i < k ∧ i ≠ q ∧ (P i < S q + L q ∧ S q < P i + L i) then B i + c else B i
theorem chB_0 {P L S : Nat → Int} {q : Nat} {c : Int} {B : Nat → Int} : chB P L S q c 0 B = B := by
  funext i
  unfold chB
  rw [if_neg (by omega)]
theorem chB_k {P L S : Nat → Int} {q k : Nat} {c : Int} {B : Nat → Int} : chB P L S q c k B k = B k := by
  unfold chB
  rw [if_neg (by omega)]
theorem chB_n {P L S : Nat → Int} {q k : Nat} {c : Int} {B : Nat → Int} (h : k = q ∨ ¬ (P k < S q + L q ∧ S q < P k + L k)) : chB P L S q c (k + 1) B = chB P L S q c k B := by
  funext i
  unfold chB
  by_cases e : i = k
  · subst e
    rw [if_neg (by omega), if_neg (by omega)]
  · by_cases h2 : i < k ∧ i ≠ q ∧ (P i < S q + L q ∧ S q < P i + L i)
    · rw [if_pos h2, if_pos (by omega)]
    · rw [if_neg h2, if_neg (by omega)]
theorem chB_y {P L S : Nat → Int} {q k : Nat} {c : Int} {B : Nat → Int} (h : k ≠ q) (h1 : P k < S q + L q ∧ S q < P k + L k) : upd (kA (chB P L S q c k B)) k (iI (B k + c)) = kA (chB P L S q c (k + 1) B) := by
  rw [kA_upd]
  congr 1
  funext i
  unfold uZ chB
  by_cases e : i = k
  · subst e
    rw [if_pos rfl, if_pos (by omega)]
  · rw [if_neg e]
    by_cases h2 : i < k ∧ i ≠ q ∧ (P i < S q + L q ∧ S q < P i + L i)
    · rw [if_pos h2, if_pos (by omega)]
    · rw [if_neg h2, if_neg (by omega)]
theorem chB_rng {P L S : Nat → Int} {q k : Nat} {c b : Int} {B : Nat → Int} (hc : -1 ≤ c ∧ c ≤ 1) {i : Nat} (h : -b ≤ B i ∧ B i ≤ b) : -(b + 1) ≤ chB P L S q c k B i ∧ chB P L S q c k B i ≤ b + 1 := by
  unfold chB
  split <;> omega
def cbF (P L S : Nat → Int) (cnt : Nat) (B : Nat → Int) : Nat → Nat → Int
  | 0 => B
  | k + 1 => if S k = -1 then cbF P L S cnt B k else chB P L S k 1 cnt (cbF P L S cnt B k)
theorem cbF_rng {P L S : Nat → Int} {cnt : Nat} {B : Nat → Int} {i : Nat} (h : B i = 0) : ∀ k : Nat, -(k : Int) ≤ cbF P L S cnt B k i ∧ cbF P L S cnt B k i ≤ k := by
  intro k
  induction k with
  | zero => simp [cbF, h]
  | succ k ih =>
    unfold cbF
    split
    · omega
    · have := chB_rng (P := P) (L := L) (S := S) (q := k) (k := cnt) (c := 1) (b := (k : Int)) (by omega) ih
      omega
/-- the least that is left and free -/
def nfF (T B : Nat → Int) : Nat → Nat → Int
  | 0, _ => -1
  | n + 1, i => if T i = -1 ∧ B i = 0 then ((i : Nat) : Int) else nfF T B n (i + 1)
theorem nfF_y {T B : Nat → Int} {cnt i : Nat} (hi : i < cnt) (h : T i = -1 ∧ B i = 0) : nfF T B (cnt - i) i = ((i : Nat) : Int) := by
  rw [show cnt - i = (cnt - (i + 1)) + 1 by omega, nfF, if_pos h]
theorem nfF_n {T B : Nat → Int} {cnt i : Nat} (hi : i < cnt) (h : ¬ (T i = -1 ∧ B i = 0)) : nfF T B (cnt - i) i = nfF T B (cnt - (i + 1)) (i + 1) := by
  rw [show cnt - i = (cnt - (i + 1)) + 1 by omega, nfF, if_neg h]
theorem nfF_rng {T B : Nat → Int} : ∀ (n i : Nat), -1 ≤ nfF T B n i ∧ nfF T B n i < (i + n : Nat) := by
  intro n
  induction n with
  | zero => intro i; simp only [nfF]; omega
  | succ n ih =>
    intro i
    unfold nfF
    split
    · omega
    · have := ih (i + 1)
      omega
/-- the copy that wants memory with the fewest bytes -/
def fbF (L S A T : Nat → Int) : Nat → Int
  | 0 => -1
  | k + 1 => if (¬ S k = -1 ∧ T k = -1 ∧ A k = 0) ∧ (fbF L S A T k = -1 ∨ L k < L (fbF L S A T k).toNat) then ((k : Nat) : Int) else fbF L S A T k
theorem fbF_rng {L S A T : Nat → Int} : ∀ k : Nat, -1 ≤ fbF L S A T k ∧ fbF L S A T k < k := by
  intro k
  induction k with
  | zero => simp only [fbF]; omega
  | succ k ih =>
    unfold fbF
    split <;> omega
theorem fbF_y {L S A T : Nat → Int} {k : Nat} (h : ¬ S k = -1 ∧ T k = -1 ∧ A k = 0) (h2 : fbF L S A T k = -1 ∨ L k < L (fbF L S A T k).toNat) : fbF L S A T (k + 1) = ((k : Nat) : Int) := by rw [fbF, if_pos ⟨h, h2⟩]
theorem fbF_n {L S A T : Nat → Int} {k : Nat} (h : ¬ ((¬ S k = -1 ∧ T k = -1 ∧ A k = 0) ∧ (fbF L S A T k = -1 ∨ L k < L (fbF L S A T k).toNat))) : fbF L S A T (k + 1) = fbF L S A T k := by rw [fbF, if_neg h]
theorem fbF_S {L S A T : Nat → Int} : ∀ k : Nat, fbF L S A T k ≠ -1 → ¬ S (fbF L S A T k).toNat = -1 := by
  intro k
  induction k with
  | zero => intro h; exact absurd rfl h
  | succ k ih =>
    unfold fbF
    split
    next q => intro _; exact q.1.1
    next q => exact ih
/-- aside, turns, counts, done, memory, hand, bytes aside -/
abbrev PlS : Type := (Nat → Int) × (Nat → Int) × (Nat → Int) × Nat × (Nat → Int32) × (Nat → Int32) × Nat
def cyH (P L S : Nat → Int) (fg : Nat → Int32) (k : Nat) (A T : Nat → Int) (fm fh : Nat → Int32) : Nat → Int32 :=
  if ¬ S k = -1 ∧ T k = -1 ∧ A k = 0 then va_cpy fm fh (S k).toNat (P k).toNat (L k).toNat else if S k = -1 then va_cpy fg fh (P k).toNat (P k).toNat (L k).toNat else fh
def cyB (P L S : Nat → Int) (cnt k : Nat) (A T B : Nat → Int) : Nat → Int := if ¬ S k = -1 ∧ T k = -1 ∧ A k = 0 then chB P L S k (-1) cnt B else B
def cyF (P L S : Nat → Int) (cnt : Nat) (fg : Nat → Int32) (k : Nat) (x : PlS) : PlS :=
  (x.1, uZ x.2.1 k ((x.2.2.2.1 : Nat) : Int), cyB P L S cnt k x.1 x.2.1 x.2.2.1, x.2.2.2.1 + 1, va_cpy (cyH P L S fg k x.1 x.2.1 x.2.2.2.2.1 x.2.2.2.2.2.1) x.2.2.2.2.1 (P k).toNat (P k).toNat (L k).toNat, cyH P L S fg k x.1 x.2.1 x.2.2.2.2.1 x.2.2.2.2.2.1, x.2.2.2.2.2.2)
def asF (P L S : Nat → Int) (cnt k : Nat) (x : PlS) : PlS :=
  (uZ x.1 k 1, x.2.1, chB P L S k (-1) cnt x.2.2.1, x.2.2.2.1, x.2.2.2.2.1, va_cpy x.2.2.2.2.1 x.2.2.2.2.2.1 (S k).toNat (P k).toNat (L k).toNat, x.2.2.2.2.2.2 + (L k).toNat)
def stF (P L S : Nat → Int) (cnt : Nat) (fg : Nat → Int32) (x : PlS) : PlS :=
  if nfF x.2.1 x.2.2.1 cnt 0 = -1 then (if fbF L S x.1 x.2.1 cnt = -1 then x else asF P L S cnt (fbF L S x.1 x.2.1 cnt).toNat x) else cyF P L S cnt fg (nfF x.2.1 x.2.2.1 cnt 0).toNat x
def rnF (P L S : Nat → Int) (cnt : Nat) (fg : Nat → Int32) : Nat → PlS → PlS
  | 0, x => x
  | t + 1, x => if x.2.2.2.1 < cnt then rnF P L S cnt fg t (stF P L S cnt fg x) else x
theorem rnF_s {P L S : Nat → Int} {cnt t : Nat} {fg : Nat → Int32} {x : PlS} (ht : t < 600) (h : x.2.2.2.1 < cnt) : rnF P L S cnt fg (600 - t) x = rnF P L S cnt fg (600 - (t + 1)) (stF P L S cnt fg x) := by
  rw [show 600 - t = (600 - (t + 1)) + 1 by omega, rnF, if_pos h]
theorem rnF_e {P L S : Nat → Int} {cnt t : Nat} {fg : Nat → Int32} {x : PlS} (h : t = 0 ∨ ¬ x.2.2.2.1 < cnt) : rnF P L S cnt fg t x = x := by
  cases t with
  | zero => rfl
  | succ t => rw [rnF, if_neg (by omega)]
end
section
abbrev rm_c_Placer_wasPutAside : Room := { frames := 0, cells := 0, slots := 0, locals := 0 }
set_option maxHeartbeats 4000000 in
set_option maxRecDepth 100000 in
theorem c_Placer_wasPutAside (l : Launch) (D : va_G) (cI cZ : ClassId) (hq : Nat) (hp : Nat) (h5 : Nat) (h6 : Nat) (aa : Nat) (ar : Nat) (ax : Nat) (dn : Nat) (A0 : Nat → Int) (z : Int) (hz : -2147483648 ≤ z ∧ z < 2147483648) (hA0 : ∀ i, i < 300 → A0 i = 0 ∨ A0 i = 1) : MI l yX1_wasPutAside wsX1_wasPutAside rm_c_Placer_wasPutAside D (kT cI cZ) [.ref hq, .int (iI (z : Int))] [(hq, .inr (1, [.ref hp, .ref h5, .ref h6, .ref aa, .ref ar, .ref ax, .int (iI ((dn : Nat) : Int))])), (aa, .inl (cZ, 300, .inl (kA A0)))] (fun (r : Int32) (_ : Unit) => r = kb (decide ((0 ≤ z ∧ z < 300) ∧ ¬ A0 z.toNat = 0))) (fun (u : Unit) => match u with | _ => [(hq, .inr (1, [.ref hp, .ref h5, .ref h6, .ref aa, .ref ar, .ref ax, .int (iI ((dn : Nat) : Int))])), (aa, .inl (cZ, 300, .inl (kA A0)))]) 0 0 := by
  intro sz
  refine k_of (cc := cX1_wasPutAside) (maxL := 2) (ret := (some .boolean)) (by decide) rfl (Nat.le_of_ble_eq_true rfl) ?_
  intro p e s m args below meth c A Q hAe hQ hx hb hr hml hts hown hlocks hnm hP hK hD hS hA ls hl
  have hl : lv_has ls 2 [(0, .ref hq), (1, .int (iI (z : Int)))] := hl
  have hi_X1 : ∀ w ∈ u_ws RX1 TX1 7, w ∈ wsX1_wasPutAside := fun w h => km (ikX1 w h)
  have fl27 := hts _ (km wm136)
  refine lv_iload_n hx hb dX1_wasPutAside_0 rfl (lv_at hl 1 rfl) ?_
  refine lv_if_lt (tgt := 24) hx hb dX1_wasPutAside_1 (by decide) (fun c1 => ?_) (fun c1 => ?_)
  · skip
    have c1 := iI_ltT (a := (z : Int)) (b := (0 : Int)) c1 (by omega)
    refine lv_iconst (v := iI (0 : Int)) hx hb dX1_wasPutAside_24 rfl ?_
    exact k_zret () hx hb hr (by decide) hlocks hK hP hD hS [0, 1] (by decide) rfl rfl (by first | exact kb1 (by omega) | exact kb0 (by omega)) hAe hQ dX1_wasPutAside_25
  · skip
    have c1 := iI_ltF (a := (z : Int)) (b := (0 : Int)) c1 (by omega)
    refine lv_iload_n hx hb dX1_wasPutAside_4 rfl (lv_at hl 1 rfl) ?_
    refine lv_sipush (v := iI (300 : Int)) hx hb dX1_wasPutAside_5 (by decide) ?_
    refine lv_icmp_ge (tgt := 24) hx hb dX1_wasPutAside_8 (by decide) (fun c8 => ?_) (fun c8 => ?_)
    · skip
      have c8 := iI_leT (a := (300 : Int)) (b := (z : Int)) c8 (by omega)
      refine lv_iconst (v := iI (0 : Int)) hx hb dX1_wasPutAside_24 rfl ?_
      exact k_zret () hx hb hr (by decide) hlocks hK hP hD hS [0, 1] (by decide) rfl rfl (by first | exact kb1 (by omega) | exact kb0 (by omega)) hAe hQ dX1_wasPutAside_25
    · skip
      have c8 := iI_leF (a := (300 : Int)) (b := (z : Int)) c8 (by omega)
      refine lv_aload_n hx hb dX1_wasPutAside_11 rfl (lv_at hl 0 rfl) ?_
      refine va_get (D := D) (ci := 1) (v := .ref aa) (C := RX1) (T := TX1) (N := 7) hx hb hts hi_X1 hown hK hP 0 rfl rfl 3 (by decide) fl27 (fun _ h9 => h9) rfl dX1_wasPutAside_12 ?_
      refine lv_iload_n hx hb dX1_wasPutAside_15 rfl (lv_at hl 1 rfl) ?_
      have h01 := hA0 z.toNat (by omega)
      refine k_zald hx hb hK hP 1 1 rfl rfl z.toNat (by omega) dX1_wasPutAside_16 ?_
      refine kn_i (y := iI (A0 z.toNat : Int)) (rfl) ?_
      refine lv_if_eq (tgt := 24) hx hb dX1_wasPutAside_17 (by decide) (fun c17 => ?_) (fun c17 => ?_)
      · skip
        have c17 := iI_eqT (a := (A0 z.toNat : Int)) (b := (0 : Int)) c17 (by omega)
        refine lv_iconst (v := iI (0 : Int)) hx hb dX1_wasPutAside_24 rfl ?_
        exact k_zret () hx hb hr (by decide) hlocks hK hP hD hS [0, 1] (by decide) rfl rfl (by first | exact kb1 (by omega) | exact kb0 (by omega)) hAe hQ dX1_wasPutAside_25
      · skip
        have c17 := iI_eqF (a := (A0 z.toNat : Int)) (b := (0 : Int)) c17 (by omega)
        refine lv_iconst (v := iI (1 : Int)) hx hb dX1_wasPutAside_20 rfl ?_
        refine lv_goto (tgt := 25) hx hb dX1_wasPutAside_21 (by decide) ?_
        exact k_zret () hx hb hr (by decide) hlocks hK hP hD hS [0, 1] (by decide) rfl rfl (by first | exact kb1 (by omega) | exact kb0 (by omega)) hAe hQ dX1_wasPutAside_25

abbrev rm_c_Placer_turnOf : Room := { frames := 0, cells := 0, slots := 0, locals := 0 }
set_option maxHeartbeats 4000000 in
set_option maxRecDepth 100000 in
theorem c_Placer_turnOf (l : Launch) (D : va_G) (cI cZ : ClassId) (hq : Nat) (hp : Nat) (h5 : Nat) (h6 : Nat) (aa : Nat) (ar : Nat) (ax : Nat) (dn : Nat) (T0 : Nat → Int) (z : Int) (hz : -2147483648 ≤ z ∧ z < 2147483648) : MI l yX1_turnOf wsX1_turnOf rm_c_Placer_turnOf D (kT cI cZ) [.ref hq, .int (iI (z : Int))] [(hq, .inr (1, [.ref hp, .ref h5, .ref h6, .ref aa, .ref ar, .ref ax, .int (iI ((dn : Nat) : Int))])), (ar, .inl (cI, 300, .inl (kA T0)))] (fun (r : Int32) (_ : Unit) => r = iI (rZ T0 300 z : Int)) (fun (u : Unit) => match u with | _ => [(hq, .inr (1, [.ref hp, .ref h5, .ref h6, .ref aa, .ref ar, .ref ax, .int (iI ((dn : Nat) : Int))])), (ar, .inl (cI, 300, .inl (kA T0)))]) 0 0 := by
  intro sz
  refine k_of (cc := cX1_turnOf) (maxL := 2) (ret := (some .int)) (by decide) rfl (Nat.le_of_ble_eq_true rfl) ?_
  intro p e s m args below meth c A Q hAe hQ hx hb hr hml hts hown hlocks hnm hP hK hD hS hA ls hl
  have hl : lv_has ls 2 [(0, .ref hq), (1, .int (iI (z : Int)))] := hl
  have hi_X1 : ∀ w ∈ u_ws RX1 TX1 7, w ∈ wsX1_turnOf := fun w h => km (ikX1 w h)
  have fl31 := hts _ (km wm137)
  refine lv_iload_n hx hb dX1_turnOf_0 rfl (lv_at hl 1 rfl) ?_
  refine lv_if_lt (tgt := 20) hx hb dX1_turnOf_1 (by decide) (fun c1 => ?_) (fun c1 => ?_)
  · skip
    have c1 := iI_ltT (a := (z : Int)) (b := (0 : Int)) c1 (by omega)
    refine lv_iconst (v := iI (-1 : Int)) hx hb dX1_turnOf_20 rfl ?_
    exact k_iret () hx hb hr hlocks hK hP hD hS [0, 1] (by decide) rfl rfl (by unfold rZ; first | rw [if_pos (by omega)] | rw [if_neg (by omega)]) hAe hQ dX1_turnOf_21
  · skip
    have c1 := iI_ltF (a := (z : Int)) (b := (0 : Int)) c1 (by omega)
    refine lv_iload_n hx hb dX1_turnOf_4 rfl (lv_at hl 1 rfl) ?_
    refine lv_sipush (v := iI (300 : Int)) hx hb dX1_turnOf_5 (by decide) ?_
    refine lv_icmp_ge (tgt := 20) hx hb dX1_turnOf_8 (by decide) (fun c8 => ?_) (fun c8 => ?_)
    · skip
      have c8 := iI_leT (a := (300 : Int)) (b := (z : Int)) c8 (by omega)
      refine lv_iconst (v := iI (-1 : Int)) hx hb dX1_turnOf_20 rfl ?_
      exact k_iret () hx hb hr hlocks hK hP hD hS [0, 1] (by decide) rfl rfl (by unfold rZ; first | rw [if_pos (by omega)] | rw [if_neg (by omega)]) hAe hQ dX1_turnOf_21
    · skip
      have c8 := iI_leF (a := (300 : Int)) (b := (z : Int)) c8 (by omega)
      refine lv_aload_n hx hb dX1_turnOf_11 rfl (lv_at hl 0 rfl) ?_
      refine va_get (D := D) (ci := 1) (v := .ref ar) (C := RX1) (T := TX1) (N := 7) hx hb hts hi_X1 hown hK hP 0 rfl rfl 4 (by decide) fl31 (fun _ h9 => h9) rfl dX1_turnOf_12 ?_
      refine lv_iload_n hx hb dX1_turnOf_15 rfl (lv_at hl 1 rfl) ?_
      refine k_iald hx hb hK hP 1 0 rfl rfl z.toNat (by omega) dX1_turnOf_16 ?_
      refine kn_i (y := iI (T0 z.toNat : Int)) (rfl) ?_
      refine lv_goto (tgt := 21) hx hb dX1_turnOf_17 (by decide) ?_
      exact k_iret () hx hb hr hlocks hK hP hD hS [0, 1] (by decide) rfl rfl (by unfold rZ; first | rw [if_pos (by omega)] | rw [if_neg (by omega)]) hAe hQ dX1_turnOf_21

abbrev rm_c_Placer_forget : Room := { frames := 0, cells := 0, slots := 0, locals := 0 }
set_option maxHeartbeats 4000000 in
set_option maxRecDepth 100000 in
theorem c_Placer_forget (l : Launch) (D : va_G) (cI cZ : ClassId) (hq : Nat) (hp : Nat) (h5 : Nat) (h6 : Nat) (aa : Nat) (ar : Nat) (ax : Nat) (dn : Nat) (A0 : Nat → Int) (T0 : Nat → Int) (B0 : Nat → Int)  : MV l yX1_forget wsX1_forget rm_c_Placer_forget D (kT cI cZ) [.ref hq] [(hq, .inr (1, [.ref hp, .ref h5, .ref h6, .ref aa, .ref ar, .ref ax, .int (iI ((dn : Nat) : Int))])), (aa, .inl (cZ, 300, .inl (kA A0))), (ar, .inl (cI, 300, .inl (kA T0))), (ax, .inl (cI, 300, .inl (kA B0)))] (fun (_ : Unit) => True) (fun (u : Unit) => match u with | _ => [(hq, .inr (1, [.ref hp, .ref h5, .ref h6, .ref aa, .ref ar, .ref ax, .int (iI ((0 : Nat) : Int))])), (aa, .inl (cZ, 300, .inl (kA (pfx 300 0 A0)))), (ar, .inl (cI, 300, .inl (kA (pfx 300 (-1) T0)))), (ax, .inl (cI, 300, .inl (kA (pfx 300 0 B0))))]) 0 0 := by
  intro sz
  refine k_of (cc := cX1_forget) (maxL := 2) (ret := none) (by decide) rfl (Nat.le_of_ble_eq_true rfl) ?_
  intro p e s m args below meth c A Q hAe hQ hx hb hr hml hts hown hlocks hnm hP hK hD hS hA ls hl
  have hl : lv_has ls 2 [(0, .ref hq)] := hl
  have hi_X1 : ∀ w ∈ u_ws RX1 TX1 7, w ∈ wsX1_forget := fun w h => km (ikX1 w h)
  have fl38 := hts _ (km wm139)
  have fl27 := hts _ (km wm136)
  have fl31 := hts _ (km wm137)
  have fl35 := hts _ (km wm138)
  refine lv_aload_n hx hb dX1_forget_0 rfl (lv_at hl 0 rfl) ?_
  refine lv_iconst (v := iI ((0 : Nat) : Int)) hx hb dX1_forget_1 rfl ?_
  refine va_put (D := D) (ci := 1) (v := .int (iI ((0 : Nat) : Int))) (ty := .int) (C := RX1) (T := TX1) (N := 7) hx hb hts hi_X1 tyX1 tyX1_ok nmX1 hown hK hP hD hS 0 rfl rfl 6 (by decide) fl38 (fun _ h9 => h9) rfl (by decide +kernel) rfl rfl (Nat.le_of_ble_eq_true rfl) dX1_forget_2 (fun H locs hP hD hS => ?_)
  have hP : va_P D vwCl [(hq, .inr (1, [.ref hp, .ref h5, .ref h6, .ref aa, .ref ar, .ref ax, .int (iI ((0 : Nat) : Int))])), (aa, .inl (cZ, 300, .inl (kA A0))), (ar, .inl (cI, 300, .inl (kA T0))), (ax, .inl (cI, 300, .inl (kA B0)))] H := hP
  have hD : va_D A [(hq, .inr (1, [.ref hp, .ref h5, .ref h6, .ref aa, .ref ar, .ref ax, .int (iI ((0 : Nat) : Int))])), (aa, .inl (cZ, 300, .inl (kA A0))), (ar, .inl (cI, 300, .inl (kA T0))), (ax, .inl (cI, 300, .inl (kA B0)))] := hD
  refine lv_iconst (v := iI ((0 : Nat) : Int)) hx hb dX1_forget_5 rfl ?_
  refine lv_istore_n (lv' := [(1, .int (iI ((0 : Nat) : Int))), (0, .ref hq)]) hx hb dX1_forget_6 rfl hl (by decide) rfl (fun ls hl => ?_)
  have lp7 : ∀ (fu : Nat) (k : Nat) (H : Heap) (locs : List Loc) (ls : Array Slot), 300 - k < fu → (k ≤ 300) → va_P D vwCl [(hq, .inr (1, [.ref hp, .ref h5, .ref h6, .ref aa, .ref ar, .ref ax, .int (iI ((0 : Nat) : Int))])), (aa, .inl (cZ, 300, .inl (kA (pfx k 0 A0)))), (ar, .inl (cI, 300, .inl (kA (pfx k (-1) T0)))), (ax, .inl (cI, 300, .inl (kA (pfx k 0 B0))))] H → va_D A [(hq, .inr (1, [.ref hp, .ref h5, .ref h6, .ref aa, .ref ar, .ref ax, .int (iI ((0 : Nat) : Int))])), (aa, .inl (cZ, 300, .inl (kA (pfx k 0 A0)))), (ar, .inl (cI, 300, .inl (kA (pfx k (-1) T0)))), (ax, .inl (cI, 300, .inl (kA (pfx k 0 B0))))] → va_S A s.heap H locs → lv_has ls 2 [(0, .ref hq), (1, .int (iI ((k : Nat) : Int)))] → W p l e rm_c_Placer_forget s m args below meth c H locs 0 0 Q (F0 m 7 ls []) := by
    intro fu
    induction fu with
    | zero => intro k H locs ls hfu; exact absurd hfu (Nat.not_lt_zero _)
    | succ fu ih7 =>
      intro k H locs ls hfu hk hP hD hS hl
      refine lv_iload_n hx hb dX1_forget_7 rfl (lv_at hl 1 rfl) ?_
      refine lv_sipush (v := iI (300 : Int)) hx hb dX1_forget_8 (by decide) ?_
      refine lv_icmp_ge (tgt := 41) hx hb dX1_forget_11 (by decide) (fun c11 => ?_) (fun c11 => ?_)
      · skip
        have c11 := iI_leT (a := (300 : Int)) (b := ((k : Nat) : Int)) c11 (by omega)
        obtain rfl : k = 300 := by omega
        exact k_vret () hx hb hr hlocks hK hP hD hS [0, 1, 2, 3] (by decide) rfl rfl (trivial) hAe hQ dX1_forget_41
      · skip
        have c11 := iI_leF (a := (300 : Int)) (b := ((k : Nat) : Int)) c11 (by omega)
        refine lv_aload_n hx hb dX1_forget_14 rfl (lv_at hl 0 rfl) ?_
        refine va_get (D := D) (ci := 1) (v := .ref aa) (C := RX1) (T := TX1) (N := 7) hx hb hts hi_X1 hown hK hP 0 rfl rfl 3 (by decide) fl27 (fun _ h9 => h9) rfl dX1_forget_15 ?_
        refine lv_iload_n hx hb dX1_forget_18 rfl (lv_at hl 1 rfl) ?_
        refine lv_iconst (v := iI (0 : Int)) hx hb dX1_forget_19 rfl ?_
        refine k_zast hx hb hK hP hD hS 1 1 rfl rfl k (by omega) (by decide) dX1_forget_20 (fun H locs hP hD hS => ?_)
        have hP : va_P D vwCl [(hq, .inr (1, [.ref hp, .ref h5, .ref h6, .ref aa, .ref ar, .ref ax, .int (iI ((0 : Nat) : Int))])), (aa, .inl (cZ, 300, .inl (upd (kA (pfx k 0 A0)) k (iI (0 : Int))))), (ar, .inl (cI, 300, .inl (kA (pfx k (-1) T0)))), (ax, .inl (cI, 300, .inl (kA (pfx k 0 B0))))] H := hP
        have hD : va_D A [(hq, .inr (1, [.ref hp, .ref h5, .ref h6, .ref aa, .ref ar, .ref ax, .int (iI ((0 : Nat) : Int))])), (aa, .inl (cZ, 300, .inl (upd (kA (pfx k 0 A0)) k (iI (0 : Int))))), (ar, .inl (cI, 300, .inl (kA (pfx k (-1) T0)))), (ax, .inl (cI, 300, .inl (kA (pfx k 0 B0))))] := hD
        rw [show (upd (kA (pfx k 0 A0)) k (iI (0 : Int))) = (kA (pfx (k + 1) 0 A0)) from pfx_s _ _ _] at hP hD
        refine lv_aload_n hx hb dX1_forget_21 rfl (lv_at hl 0 rfl) ?_
        refine va_get (D := D) (ci := 1) (v := .ref ar) (C := RX1) (T := TX1) (N := 7) hx hb hts hi_X1 hown hK hP 0 rfl rfl 4 (by decide) fl31 (fun _ h9 => h9) rfl dX1_forget_22 ?_
        refine lv_iload_n hx hb dX1_forget_25 rfl (lv_at hl 1 rfl) ?_
        refine lv_iconst (v := iI (-1 : Int)) hx hb dX1_forget_26 rfl ?_
        refine k_iast hx hb hK hP hD hS 2 0 rfl rfl k (by omega) dX1_forget_27 (fun H locs hP hD hS => ?_)
        have hP : va_P D vwCl [(hq, .inr (1, [.ref hp, .ref h5, .ref h6, .ref aa, .ref ar, .ref ax, .int (iI ((0 : Nat) : Int))])), (aa, .inl (cZ, 300, .inl (kA (pfx (k + 1) 0 A0)))), (ar, .inl (cI, 300, .inl (upd (kA (pfx k (-1) T0)) k (iI (-1 : Int))))), (ax, .inl (cI, 300, .inl (kA (pfx k 0 B0))))] H := hP
        have hD : va_D A [(hq, .inr (1, [.ref hp, .ref h5, .ref h6, .ref aa, .ref ar, .ref ax, .int (iI ((0 : Nat) : Int))])), (aa, .inl (cZ, 300, .inl (kA (pfx (k + 1) 0 A0)))), (ar, .inl (cI, 300, .inl (upd (kA (pfx k (-1) T0)) k (iI (-1 : Int))))), (ax, .inl (cI, 300, .inl (kA (pfx k 0 B0))))] := hD
        rw [show (upd (kA (pfx k (-1) T0)) k (iI (-1 : Int))) = (kA (pfx (k + 1) (-1) T0)) from pfx_s _ _ _] at hP hD
        refine lv_aload_n hx hb dX1_forget_28 rfl (lv_at hl 0 rfl) ?_
        refine va_get (D := D) (ci := 1) (v := .ref ax) (C := RX1) (T := TX1) (N := 7) hx hb hts hi_X1 hown hK hP 0 rfl rfl 5 (by decide) fl35 (fun _ h9 => h9) rfl dX1_forget_29 ?_
        refine lv_iload_n hx hb dX1_forget_32 rfl (lv_at hl 1 rfl) ?_
        refine lv_iconst (v := iI (0 : Int)) hx hb dX1_forget_33 rfl ?_
        refine k_iast hx hb hK hP hD hS 3 0 rfl rfl k (by omega) dX1_forget_34 (fun H locs hP hD hS => ?_)
        have hP : va_P D vwCl [(hq, .inr (1, [.ref hp, .ref h5, .ref h6, .ref aa, .ref ar, .ref ax, .int (iI ((0 : Nat) : Int))])), (aa, .inl (cZ, 300, .inl (kA (pfx (k + 1) 0 A0)))), (ar, .inl (cI, 300, .inl (kA (pfx (k + 1) (-1) T0)))), (ax, .inl (cI, 300, .inl (upd (kA (pfx k 0 B0)) k (iI (0 : Int)))))] H := hP
        have hD : va_D A [(hq, .inr (1, [.ref hp, .ref h5, .ref h6, .ref aa, .ref ar, .ref ax, .int (iI ((0 : Nat) : Int))])), (aa, .inl (cZ, 300, .inl (kA (pfx (k + 1) 0 A0)))), (ar, .inl (cI, 300, .inl (kA (pfx (k + 1) (-1) T0)))), (ax, .inl (cI, 300, .inl (upd (kA (pfx k 0 B0)) k (iI (0 : Int)))))] := hD
        rw [show (upd (kA (pfx k 0 B0)) k (iI (0 : Int))) = (kA (pfx (k + 1) 0 B0)) from pfx_s _ _ _] at hP hD
        refine lv_iinc (v := iI ((k + 1 : Nat) : Int)) (lv' := [(1, .int (iI ((k + 1 : Nat) : Int))), (0, .ref hq)]) hx hb dX1_forget_35 hl (k := 1) rfl (iA (by omega)) (by decide) rfl (fun ls hl => ?_)
        refine lv_goto (tgt := 7) hx hb dX1_forget_38 (by decide) ?_
        exact ih7 (k + 1) _ _ _ (by omega) (by omega) hP hD hS (lv_sub hl [1, 0] rfl)
  rw [show (kA A0) = (kA (pfx 0 0 A0)) from by rw [pfx_0]] at hP hD
  rw [show (kA T0) = (kA (pfx 0 (-1) T0)) from by rw [pfx_0]] at hP hD
  rw [show (kA B0) = (kA (pfx 0 0 B0)) from by rw [pfx_0]] at hP hD
  exact lp7 _ 0 _ _ _ (Nat.lt_succ_self _) (by omega) hP hD hS (lv_sub hl [1, 0] rfl)

abbrev rm_c_Placer_move : Room := { frames := 2, cells := 0, slots := 0, locals := 42 }
set_option maxHeartbeats 4000000 in
set_option maxRecDepth 100000 in
theorem c_Placer_move (l : Launch) (D : va_G) (cI cZ : ClassId) (hq : Nat) (hp : Nat) (h5 : Nat) (h6 : Nat) (aa : Nat) (ar : Nat) (ax : Nat) (dn : Nat) (ob : Nat) (og : Nat) (ap : Nat) (al : Nat) (aq : Nat) (cnt : Nat) (P : Nat → Int) (L : Nat → Int) (h : Nat) (a : Nat) (M : Nat) (n : Nat) (f : Nat → Int32) (h2 : Nat) (a2 : Nat) (M2 : Nat) (n2 : Nat) (g : Nat → Int32) (st : Nat) (i : Nat) (hM : M ≤ 900) (hn : n ≤ M) (hM2 : M2 ≤ 900) (hn2 : n2 ≤ M2) (hc : cnt ≤ 300) (hi : i < cnt) (hPi : 0 ≤ P i ∧ 0 ≤ L i) (hs : (st : Int) + L i ≤ n) (ht : P i + L i ≤ n2) : MV l yX1_move wsX1_move rm_c_Placer_move D (kT cI cZ) [.ref hq, .ref h, .int (iI ((st : Nat) : Int)), .ref h2, .int (iI ((i : Nat) : Int))] [(hq, .inr (1, [.ref hp, .ref h5, .ref h6, .ref aa, .ref ar, .ref ax, .int (iI ((dn : Nat) : Int))])), (hp, .inr (2, [.ref ob, .ref og, .ref ap, .ref al, .ref aq, .int (iI ((cnt : Nat) : Int))])), (ap, .inl (cI, 300, .inl (kA P))), (al, .inl (cI, 300, .inl (kA L))), (h, .inr (3, [.ref a, .int (iI ((n : Nat) : Int))])), (a, .inl (cI, M, .inl f)), (h2, .inr (3, [.ref a2, .int (iI ((n2 : Nat) : Int))])), (a2, .inl (cI, M2, .inl g))] (fun (_ : Unit) => True) (fun (u : Unit) => match u with | _ => [(hq, .inr (1, [.ref hp, .ref h5, .ref h6, .ref aa, .ref ar, .ref ax, .int (iI ((dn : Nat) : Int))])), (hp, .inr (2, [.ref ob, .ref og, .ref ap, .ref al, .ref aq, .int (iI ((cnt : Nat) : Int))])), (ap, .inl (cI, 300, .inl (kA P))), (al, .inl (cI, 300, .inl (kA L))), (h, .inr (3, [.ref a, .int (iI ((n : Nat) : Int))])), (a, .inl (cI, M, .inl f)), (h2, .inr (3, [.ref a2, .int (iI ((n2 : Nat) : Int))])), (a2, .inl (cI, M2, .inl (va_cpy f g st (P i).toNat (L i).toNat)))]) 0 0 := by
  intro sz
  refine k_of (cc := cX1_move) (maxL := 8) (ret := none) (by decide) rfl (Nat.le_of_ble_eq_true rfl) ?_
  intro p e s m args below meth c A Q hAe hQ hx hb hr hml hts hown hlocks hnm hP hK hD hS hA ls hl
  have hl : lv_has ls 8 [(0, .ref hq), (1, .ref h), (2, .int (iI ((st : Nat) : Int))), (3, .ref h2), (4, .int (iI ((i : Nat) : Int)))] := hl
  have hi_X1 : ∀ w ∈ u_ws RX1 TX1 7, w ∈ wsX1_move := fun w h => km (ikX1 w h)
  have fl9 := hts _ (km wm133)
  refine lv_aload_n hx hb dX1_move_0 rfl (lv_at hl 0 rfl) ?_
  refine va_get (D := D) (ci := 1) (v := .ref hp) (C := RX1) (T := TX1) (N := 7) hx hb hts hi_X1 hown hK hP 0 rfl rfl 0 (by decide) fl9 (fun _ h9 => h9) rfl dX1_move_1 ?_
  refine lv_iload hx hb dX1_move_4 (lv_at hl 4 rfl) ?_
  refine k_calli (wc := [(hp, .inr (2, [.ref ob, .ref og, .ref ap, .ref al, .ref aq, .int (iI ((cnt : Nat) : Int))])), (ap, .inl (cI, 300, .inl (kA P)))]) (wr := [(hq, .inr (1, [.ref hp, .ref h5, .ref h6, .ref aa, .ref ar, .ref ax, .int (iI ((dn : Nat) : Int))])), (al, .inl (cI, 300, .inl (kA L))), (h, .inr (3, [.ref a, .int (iI ((n : Nat) : Int))])), (a, .inl (cI, M, .inl f)), (h2, .inr (3, [.ref a2, .int (iI ((n2 : Nat) : Int))])), (a2, .inl (cI, M2, .inl g))]) (wf := fun _ => [(hq, .inr (1, [.ref hp, .ref h5, .ref h6, .ref aa, .ref ar, .ref ax, .int (iI ((dn : Nat) : Int))])), (hp, .inr (2, [.ref ob, .ref og, .ref ap, .ref al, .ref aq, .int (iI ((cnt : Nat) : Int))])), (ap, .inl (cI, 300, .inl (kA P))), (al, .inl (cI, 300, .inl (kA L))), (h, .inr (3, [.ref a, .int (iI ((n : Nat) : Int))])), (a, .inl (cI, M, .inl f)), (h2, .inr (3, [.ref a2, .int (iI ((n2 : Nat) : Int))])), (a2, .inl (cI, M2, .inl g))]) hK hP hD hS hA [1, 2] [0, 3, 4, 5, 6, 7] [0, 6, 7, 1, 2, 3, 4, 5] ⟨⟨rfl, rfl, by decide⟩, rfl, by decide, by decide⟩ (fun _ => ⟨rfl, rfl⟩) (by decide) (fun hPc hDc => va_runV (As := [.int (iI ((i : Nat) : Int))]) (rest := []) ⟨hx, hb, hml, hown, hts⟩ (c_Plan_placek l D cI cZ (hp := hp) (ob := ob) (og := og) (ap := ap) (al := al) (aq := aq) (cnt := cnt) (F := P) (k := i) (hc := by omega) (hk := by omega) _) (cwV 1 hts (kgV wm449 wm298 wm299 wm41 wmcX2_place) rfl rfl rfl (by decide +kernel) ⟨Nat.le_of_ble_eq_true rfl, Nat.le_of_ble_eq_true rfl⟩) (k_preV hK hPc hDc (ci := 2) (q0 := 0) rfl rfl) rfl rfl hl.1 rfl (lv_room (Nat.le_of_ble_eq_true rfl)) dX1_move_6 ⟨Nat.le_of_ble_eq_true rfl, Nat.le_of_ble_eq_true rfl⟩) (fun r6 u H locs hw hP hD hS => ?_)
  have hP : va_P D vwCl [(hq, .inr (1, [.ref hp, .ref h5, .ref h6, .ref aa, .ref ar, .ref ax, .int (iI ((dn : Nat) : Int))])), (hp, .inr (2, [.ref ob, .ref og, .ref ap, .ref al, .ref aq, .int (iI ((cnt : Nat) : Int))])), (ap, .inl (cI, 300, .inl (kA P))), (al, .inl (cI, 300, .inl (kA L))), (h, .inr (3, [.ref a, .int (iI ((n : Nat) : Int))])), (a, .inl (cI, M, .inl f)), (h2, .inr (3, [.ref a2, .int (iI ((n2 : Nat) : Int))])), (a2, .inl (cI, M2, .inl g))] H := hP
  have hD : va_D A [(hq, .inr (1, [.ref hp, .ref h5, .ref h6, .ref aa, .ref ar, .ref ax, .int (iI ((dn : Nat) : Int))])), (hp, .inr (2, [.ref ob, .ref og, .ref ap, .ref al, .ref aq, .int (iI ((cnt : Nat) : Int))])), (ap, .inl (cI, 300, .inl (kA P))), (al, .inl (cI, 300, .inl (kA L))), (h, .inr (3, [.ref a, .int (iI ((n : Nat) : Int))])), (a, .inl (cI, M, .inl f)), (h2, .inr (3, [.ref a2, .int (iI ((n2 : Nat) : Int))])), (a2, .inl (cI, M2, .inl g))] := hD
  refine W.widen (k := 0) (n := 0) (Nat.le_of_ble_eq_true rfl) (Nat.le_of_ble_eq_true rfl) ?_
  have hw : r6 = iI (((P i).toNat : Nat) : Int) := hw.trans (congrArg iI (by omega))
  subst hw
  refine lv_istore (lv' := [(5, .int (iI (((P i).toNat : Nat) : Int))), (0, .ref hq), (1, .ref h), (2, .int (iI ((st : Nat) : Int))), (3, .ref h2), (4, .int (iI ((i : Nat) : Int)))]) hx hb dX1_move_9 hl (by decide) rfl (fun ls hl => ?_)
  refine lv_aload_n hx hb dX1_move_11 rfl (lv_at hl 1 rfl) ?_
  refine va_get (D := D) (ci := 1) (v := .ref hp) (C := RX1) (T := TX1) (N := 7) hx hb hts hi_X1 hown hK hP 0 rfl rfl 0 (by decide) fl9 (fun _ h9 => h9) rfl dX1_move_12 ?_
  refine lv_iload hx hb dX1_move_15 (lv_at hl 5 rfl) ?_
  refine k_calli (wc := [(hp, .inr (2, [.ref ob, .ref og, .ref ap, .ref al, .ref aq, .int (iI ((cnt : Nat) : Int))])), (al, .inl (cI, 300, .inl (kA L)))]) (wr := [(hq, .inr (1, [.ref hp, .ref h5, .ref h6, .ref aa, .ref ar, .ref ax, .int (iI ((dn : Nat) : Int))])), (ap, .inl (cI, 300, .inl (kA P))), (h, .inr (3, [.ref a, .int (iI ((n : Nat) : Int))])), (a, .inl (cI, M, .inl f)), (h2, .inr (3, [.ref a2, .int (iI ((n2 : Nat) : Int))])), (a2, .inl (cI, M2, .inl g))]) (wf := fun _ => [(hq, .inr (1, [.ref hp, .ref h5, .ref h6, .ref aa, .ref ar, .ref ax, .int (iI ((dn : Nat) : Int))])), (hp, .inr (2, [.ref ob, .ref og, .ref ap, .ref al, .ref aq, .int (iI ((cnt : Nat) : Int))])), (ap, .inl (cI, 300, .inl (kA P))), (al, .inl (cI, 300, .inl (kA L))), (h, .inr (3, [.ref a, .int (iI ((n : Nat) : Int))])), (a, .inl (cI, M, .inl f)), (h2, .inr (3, [.ref a2, .int (iI ((n2 : Nat) : Int))])), (a2, .inl (cI, M2, .inl g))]) hK hP hD hS hA [1, 3] [0, 2, 4, 5, 6, 7] [0, 6, 1, 7, 2, 3, 4, 5] ⟨⟨rfl, rfl, by decide⟩, rfl, by decide, by decide⟩ (fun _ => ⟨rfl, rfl⟩) (by decide) (fun hPc hDc => va_runV (As := [.int (iI ((i : Nat) : Int))]) (rest := []) ⟨hx, hb, hml, hown, hts⟩ (c_Plan_lengthk l D cI cZ (hp := hp) (ob := ob) (og := og) (ap := ap) (al := al) (aq := aq) (cnt := cnt) (F := L) (k := i) (hc := by omega) (hk := by omega) _) (cwV 1 hts (kgV wm450 wm269 wm270 wm41 wmcX2_length) rfl rfl rfl (by decide +kernel) ⟨Nat.le_of_ble_eq_true rfl, Nat.le_of_ble_eq_true rfl⟩) (k_preV hK hPc hDc (ci := 2) (q0 := 0) rfl rfl) rfl rfl hl.1 rfl (lv_room (Nat.le_of_ble_eq_true rfl)) dX1_move_17 ⟨Nat.le_of_ble_eq_true rfl, Nat.le_of_ble_eq_true rfl⟩) (fun r17 u H locs hw hP hD hS => ?_)
  have hP : va_P D vwCl [(hq, .inr (1, [.ref hp, .ref h5, .ref h6, .ref aa, .ref ar, .ref ax, .int (iI ((dn : Nat) : Int))])), (hp, .inr (2, [.ref ob, .ref og, .ref ap, .ref al, .ref aq, .int (iI ((cnt : Nat) : Int))])), (ap, .inl (cI, 300, .inl (kA P))), (al, .inl (cI, 300, .inl (kA L))), (h, .inr (3, [.ref a, .int (iI ((n : Nat) : Int))])), (a, .inl (cI, M, .inl f)), (h2, .inr (3, [.ref a2, .int (iI ((n2 : Nat) : Int))])), (a2, .inl (cI, M2, .inl g))] H := hP
  have hD : va_D A [(hq, .inr (1, [.ref hp, .ref h5, .ref h6, .ref aa, .ref ar, .ref ax, .int (iI ((dn : Nat) : Int))])), (hp, .inr (2, [.ref ob, .ref og, .ref ap, .ref al, .ref aq, .int (iI ((cnt : Nat) : Int))])), (ap, .inl (cI, 300, .inl (kA P))), (al, .inl (cI, 300, .inl (kA L))), (h, .inr (3, [.ref a, .int (iI ((n : Nat) : Int))])), (a, .inl (cI, M, .inl f)), (h2, .inr (3, [.ref a2, .int (iI ((n2 : Nat) : Int))])), (a2, .inl (cI, M2, .inl g))] := hD
  refine W.widen (k := 0) (n := 0) (Nat.le_of_ble_eq_true rfl) (Nat.le_of_ble_eq_true rfl) ?_
  have hw : r17 = iI (((L i).toNat : Nat) : Int) := hw.trans (congrArg iI (by omega))
  subst hw
  refine lv_istore (lv' := [(6, .int (iI (((L i).toNat : Nat) : Int))), (5, .int (iI (((P i).toNat : Nat) : Int))), (0, .ref hq), (1, .ref h), (2, .int (iI ((st : Nat) : Int))), (3, .ref h2), (4, .int (iI ((i : Nat) : Int)))]) hx hb dX1_move_20 hl (by decide) rfl (fun ls hl => ?_)
  refine lv_iconst (v := iI ((0 : Nat) : Int)) hx hb dX1_move_22 rfl ?_
  refine lv_istore (lv' := [(7, .int (iI ((0 : Nat) : Int))), (6, .int (iI (((L i).toNat : Nat) : Int))), (5, .int (iI (((P i).toNat : Nat) : Int))), (0, .ref hq), (1, .ref h), (2, .int (iI ((st : Nat) : Int))), (3, .ref h2), (4, .int (iI ((i : Nat) : Int)))]) hx hb dX1_move_23 hl (by decide) rfl (fun ls hl => ?_)
  have lp25 : ∀ (fu : Nat) (k : Nat) (H : Heap) (locs : List Loc) (ls : Array Slot), (L i).toNat - k < fu → (k ≤ (L i).toNat) → va_P D vwCl [(hq, .inr (1, [.ref hp, .ref h5, .ref h6, .ref aa, .ref ar, .ref ax, .int (iI ((dn : Nat) : Int))])), (hp, .inr (2, [.ref ob, .ref og, .ref ap, .ref al, .ref aq, .int (iI ((cnt : Nat) : Int))])), (ap, .inl (cI, 300, .inl (kA P))), (al, .inl (cI, 300, .inl (kA L))), (h, .inr (3, [.ref a, .int (iI ((n : Nat) : Int))])), (a, .inl (cI, M, .inl f)), (h2, .inr (3, [.ref a2, .int (iI ((n2 : Nat) : Int))])), (a2, .inl (cI, M2, .inl (va_cpy f g st (P i).toNat k)))] H → va_D A [(hq, .inr (1, [.ref hp, .ref h5, .ref h6, .ref aa, .ref ar, .ref ax, .int (iI ((dn : Nat) : Int))])), (hp, .inr (2, [.ref ob, .ref og, .ref ap, .ref al, .ref aq, .int (iI ((cnt : Nat) : Int))])), (ap, .inl (cI, 300, .inl (kA P))), (al, .inl (cI, 300, .inl (kA L))), (h, .inr (3, [.ref a, .int (iI ((n : Nat) : Int))])), (a, .inl (cI, M, .inl f)), (h2, .inr (3, [.ref a2, .int (iI ((n2 : Nat) : Int))])), (a2, .inl (cI, M2, .inl (va_cpy f g st (P i).toNat k)))] → va_S A s.heap H locs → lv_has ls 8 [(0, .ref hq), (1, .ref h), (2, .int (iI ((st : Nat) : Int))), (3, .ref h2), (5, .int (iI (((P i).toNat : Nat) : Int))), (6, .int (iI (((L i).toNat : Nat) : Int))), (7, .int (iI ((k : Nat) : Int)))] → W p l e rm_c_Placer_move s m args below meth c H locs 0 0 Q (F0 m 25 ls []) := by
    intro fu
    induction fu with
    | zero => intro k H locs ls hfu; exact absurd hfu (Nat.not_lt_zero _)
    | succ fu ih25 =>
      intro k H locs ls hfu hk hP hD hS hl
      refine lv_iload hx hb dX1_move_25 (lv_at hl 6 rfl) ?_
      refine lv_iload hx hb dX1_move_27 (lv_at hl 5 rfl) ?_
      refine lv_icmp_ge (tgt := 55) hx hb dX1_move_29 (by decide) (fun c29 => ?_) (fun c29 => ?_)
      · skip
        have c29 := iI_leT (a := (((L i).toNat : Nat) : Int)) (b := ((k : Nat) : Int)) c29 (by omega)
        obtain rfl : k = (L i).toNat := by omega
        exact k_vret () hx hb hr hlocks hK hP hD hS [0, 1, 2, 3, 4, 5, 6, 7] (by decide) rfl rfl (trivial) hAe hQ dX1_move_55
      · skip
        have c29 := iI_leF (a := (((L i).toNat : Nat) : Int)) (b := ((k : Nat) : Int)) c29 (by omega)
        refine lv_aload_n hx hb dX1_move_32 rfl (lv_at hl 3 rfl) ?_
        refine lv_iload hx hb dX1_move_33 (lv_at hl 4 rfl) ?_
        refine lv_iload hx hb dX1_move_35 (lv_at hl 6 rfl) ?_
        refine lv_iadd hx hb dX1_move_37 ?_
        refine kn_i (iA (c := ((((P i).toNat + k) : Nat) : Int)) (by omega)) ?_
        refine lv_aload_n hx hb dX1_move_38 rfl (lv_at hl 1 rfl) ?_
        refine lv_iload_n hx hb dX1_move_39 rfl (lv_at hl 2 rfl) ?_
        refine lv_iload hx hb dX1_move_40 (lv_at hl 6 rfl) ?_
        refine lv_iadd hx hb dX1_move_42 ?_
        refine kn_i (iA (c := (((st + k) : Nat) : Int)) (by omega)) ?_
        refine k_calli (wc := [(h, .inr (3, [.ref a, .int (iI ((n : Nat) : Int))])), (a, .inl (cI, M, .inl f))]) (wr := [(hq, .inr (1, [.ref hp, .ref h5, .ref h6, .ref aa, .ref ar, .ref ax, .int (iI ((dn : Nat) : Int))])), (hp, .inr (2, [.ref ob, .ref og, .ref ap, .ref al, .ref aq, .int (iI ((cnt : Nat) : Int))])), (ap, .inl (cI, 300, .inl (kA P))), (al, .inl (cI, 300, .inl (kA L))), (h2, .inr (3, [.ref a2, .int (iI ((n2 : Nat) : Int))])), (a2, .inl (cI, M2, .inl (va_cpy f g st (P i).toNat k)))]) (wf := fun _ => [(hq, .inr (1, [.ref hp, .ref h5, .ref h6, .ref aa, .ref ar, .ref ax, .int (iI ((dn : Nat) : Int))])), (hp, .inr (2, [.ref ob, .ref og, .ref ap, .ref al, .ref aq, .int (iI ((cnt : Nat) : Int))])), (ap, .inl (cI, 300, .inl (kA P))), (al, .inl (cI, 300, .inl (kA L))), (h, .inr (3, [.ref a, .int (iI ((n : Nat) : Int))])), (a, .inl (cI, M, .inl f)), (h2, .inr (3, [.ref a2, .int (iI ((n2 : Nat) : Int))])), (a2, .inl (cI, M2, .inl (va_cpy f g st (P i).toNat k)))]) hK hP hD hS hA [4, 5] [0, 1, 2, 3, 6, 7] [0, 1, 2, 3, 6, 7, 4, 5] ⟨⟨rfl, rfl, by decide⟩, rfl, by decide, by decide⟩ (fun _ => ⟨rfl, rfl⟩) (by decide) (fun hPc hDc => va_runV (As := [.int (iI (((st + k) : Nat) : Int))]) (rest := [.int (iI ((((P i).toNat + k) : Nat) : Int)), .ref h2]) ⟨hx, hb, hml, hown, hts⟩ (c_Row_atk l D cI cZ (h := h) (a := a) (M := M) (n := n) (f := f) (k := (st + k)) (hM := by omega) (hn := by omega) (hk := by omega) _) (cwV 1 hts (kgV wm451 wm225 wm226 wm39 wmcX3_at) rfl rfl rfl (by decide +kernel) ⟨Nat.le_of_ble_eq_true rfl, Nat.le_of_ble_eq_true rfl⟩) (k_preV hK hPc hDc (ci := 3) (q0 := 0) rfl rfl) rfl rfl hl.1 rfl (lv_room (Nat.le_of_ble_eq_true rfl)) dX1_move_43 ⟨Nat.le_of_ble_eq_true rfl, Nat.le_of_ble_eq_true rfl⟩) (fun r43 u H locs hw hP hD hS => ?_)
        have hP : va_P D vwCl [(hq, .inr (1, [.ref hp, .ref h5, .ref h6, .ref aa, .ref ar, .ref ax, .int (iI ((dn : Nat) : Int))])), (hp, .inr (2, [.ref ob, .ref og, .ref ap, .ref al, .ref aq, .int (iI ((cnt : Nat) : Int))])), (ap, .inl (cI, 300, .inl (kA P))), (al, .inl (cI, 300, .inl (kA L))), (h, .inr (3, [.ref a, .int (iI ((n : Nat) : Int))])), (a, .inl (cI, M, .inl f)), (h2, .inr (3, [.ref a2, .int (iI ((n2 : Nat) : Int))])), (a2, .inl (cI, M2, .inl (va_cpy f g st (P i).toNat k)))] H := hP
        have hD : va_D A [(hq, .inr (1, [.ref hp, .ref h5, .ref h6, .ref aa, .ref ar, .ref ax, .int (iI ((dn : Nat) : Int))])), (hp, .inr (2, [.ref ob, .ref og, .ref ap, .ref al, .ref aq, .int (iI ((cnt : Nat) : Int))])), (ap, .inl (cI, 300, .inl (kA P))), (al, .inl (cI, 300, .inl (kA L))), (h, .inr (3, [.ref a, .int (iI ((n : Nat) : Int))])), (a, .inl (cI, M, .inl f)), (h2, .inr (3, [.ref a2, .int (iI ((n2 : Nat) : Int))])), (a2, .inl (cI, M2, .inl (va_cpy f g st (P i).toNat k)))] := hD
        refine W.widen (k := 0) (n := 0) (Nat.le_of_ble_eq_true rfl) (Nat.le_of_ble_eq_true rfl) ?_
        have hw : r43 = (f (st + k)) := hw
        subst hw
        refine k_callv (wc := [(h2, .inr (3, [.ref a2, .int (iI ((n2 : Nat) : Int))])), (a2, .inl (cI, M2, .inl (va_cpy f g st (P i).toNat k)))]) (wr := [(hq, .inr (1, [.ref hp, .ref h5, .ref h6, .ref aa, .ref ar, .ref ax, .int (iI ((dn : Nat) : Int))])), (hp, .inr (2, [.ref ob, .ref og, .ref ap, .ref al, .ref aq, .int (iI ((cnt : Nat) : Int))])), (ap, .inl (cI, 300, .inl (kA P))), (al, .inl (cI, 300, .inl (kA L))), (h, .inr (3, [.ref a, .int (iI ((n : Nat) : Int))])), (a, .inl (cI, M, .inl f))]) (wf := fun _ => [(hq, .inr (1, [.ref hp, .ref h5, .ref h6, .ref aa, .ref ar, .ref ax, .int (iI ((dn : Nat) : Int))])), (hp, .inr (2, [.ref ob, .ref og, .ref ap, .ref al, .ref aq, .int (iI ((cnt : Nat) : Int))])), (ap, .inl (cI, 300, .inl (kA P))), (al, .inl (cI, 300, .inl (kA L))), (h, .inr (3, [.ref a, .int (iI ((n : Nat) : Int))])), (a, .inl (cI, M, .inl f)), (h2, .inr (3, [.ref a2, .int (iI ((n2 : Nat) : Int))])), (a2, .inl (cI, M2, .inl (upd (va_cpy f g st (P i).toNat k) ((P i).toNat + k) (f (st + k)))))]) hK hP hD hS hA [6, 7] [0, 1, 2, 3, 4, 5] [0, 1, 2, 3, 4, 5, 6, 7] ⟨⟨rfl, rfl, by decide⟩, rfl, by decide, by decide⟩ (fun _ => ⟨rfl, rfl⟩) (by decide) (fun hPc hDc => va_runV (As := [.int (iI ((((P i).toNat + k) : Nat) : Int)), .int (f (st + k))]) (rest := []) ⟨hx, hb, hml, hown, hts⟩ (c_Row_put l D cI cZ (h := h2) (a := a2) (M := M2) (n := n2) (f := (va_cpy f g st (P i).toNat k)) (k := ((P i).toNat + k)) (x := (f (st + k))) (hM := by omega) (hn := by omega) (hk := by omega) _) (cwV 2 hts (kgV wm452 wm453 wm454 wm39 wmcX3_put) rfl rfl rfl (by decide +kernel) ⟨Nat.le_of_ble_eq_true rfl, Nat.le_of_ble_eq_true rfl⟩) (k_preV hK hPc hDc (ci := 3) (q0 := 0) rfl rfl) rfl rfl hl.1 rfl (lv_room (Nat.le_of_ble_eq_true rfl)) dX1_move_46 ⟨Nat.le_of_ble_eq_true rfl, Nat.le_of_ble_eq_true rfl⟩) (fun u H locs hw hP hD hS => ?_)
        have hP : va_P D vwCl [(hq, .inr (1, [.ref hp, .ref h5, .ref h6, .ref aa, .ref ar, .ref ax, .int (iI ((dn : Nat) : Int))])), (hp, .inr (2, [.ref ob, .ref og, .ref ap, .ref al, .ref aq, .int (iI ((cnt : Nat) : Int))])), (ap, .inl (cI, 300, .inl (kA P))), (al, .inl (cI, 300, .inl (kA L))), (h, .inr (3, [.ref a, .int (iI ((n : Nat) : Int))])), (a, .inl (cI, M, .inl f)), (h2, .inr (3, [.ref a2, .int (iI ((n2 : Nat) : Int))])), (a2, .inl (cI, M2, .inl (upd (va_cpy f g st (P i).toNat k) ((P i).toNat + k) (f (st + k)))))] H := hP
        have hD : va_D A [(hq, .inr (1, [.ref hp, .ref h5, .ref h6, .ref aa, .ref ar, .ref ax, .int (iI ((dn : Nat) : Int))])), (hp, .inr (2, [.ref ob, .ref og, .ref ap, .ref al, .ref aq, .int (iI ((cnt : Nat) : Int))])), (ap, .inl (cI, 300, .inl (kA P))), (al, .inl (cI, 300, .inl (kA L))), (h, .inr (3, [.ref a, .int (iI ((n : Nat) : Int))])), (a, .inl (cI, M, .inl f)), (h2, .inr (3, [.ref a2, .int (iI ((n2 : Nat) : Int))])), (a2, .inl (cI, M2, .inl (upd (va_cpy f g st (P i).toNat k) ((P i).toNat + k) (f (st + k)))))] := hD
        refine W.widen (k := 0) (n := 0) (Nat.le_of_ble_eq_true rfl) (Nat.le_of_ble_eq_true rfl) ?_
        rw [show (upd (va_cpy f g st (P i).toNat k) ((P i).toNat + k) (f (st + k))) = (va_cpy f g st (P i).toNat (k + 1)) from cpy_s] at hP hD
        refine lv_iinc (v := iI ((k + 1 : Nat) : Int)) (lv' := [(7, .int (iI ((k + 1 : Nat) : Int))), (0, .ref hq), (1, .ref h), (2, .int (iI ((st : Nat) : Int))), (3, .ref h2), (5, .int (iI (((P i).toNat : Nat) : Int))), (6, .int (iI (((L i).toNat : Nat) : Int)))]) hx hb dX1_move_49 hl (k := 6) rfl (iA (by omega)) (by decide) rfl (fun ls hl => ?_)
        refine lv_goto (tgt := 25) hx hb dX1_move_52 (by decide) ?_
        exact ih25 (k + 1) _ _ _ (by omega) (by omega) hP hD hS (lv_sub hl [1, 2, 3, 4, 5, 6, 0] rfl)
  rw [show g = (va_cpy f g st (P i).toNat 0) from cpy_0.symm] at hP hD
  exact lp25 _ 0 _ _ _ (Nat.lt_succ_self _) (by omega) hP hD hS (lv_sub hl [3, 4, 5, 6, 2, 1, 0] rfl)

abbrev rm_c_Placer_changeBlockers : Room := { frames := 2, cells := 0, slots := 0, locals := 43 }
set_option maxHeartbeats 4000000 in
set_option maxRecDepth 100000 in
theorem c_Placer_changeBlockers (l : Launch) (D : va_G) (cI cZ : ClassId) (hq : Nat) (hp : Nat) (h5 : Nat) (h6 : Nat) (aa : Nat) (ar : Nat) (ax : Nat) (dn : Nat) (ob : Nat) (og : Nat) (ap : Nat) (al : Nat) (aq : Nat) (cnt : Nat) (P : Nat → Int) (L : Nat → Int) (S : Nat → Int) (nb : Nat) (ng : Nat) (B0 : Nat → Int) (q : Nat) (c0 : Int) (hW : LW P L S cnt nb ng) (hnb : nb ≤ 300) (hng : ng ≤ 300) (hq : q < cnt) : MV l yX1_changeBlockers wsX1_changeBlockers rm_c_Placer_changeBlockers D (kT cI cZ) [.ref hq, .int (iI ((q : Nat) : Int)), .int (iI (c0 : Int))] [(hq, .inr (1, [.ref hp, .ref h5, .ref h6, .ref aa, .ref ar, .ref ax, .int (iI ((dn : Nat) : Int))])), (hp, .inr (2, [.ref ob, .ref og, .ref ap, .ref al, .ref aq, .int (iI ((cnt : Nat) : Int))])), (ap, .inl (cI, 300, .inl (kA P))), (al, .inl (cI, 300, .inl (kA L))), (aq, .inl (cI, 300, .inl (kA S))), (ax, .inl (cI, 300, .inl (kA B0)))] (fun (_ : Unit) => True) (fun (u : Unit) => match u with | _ => [(hq, .inr (1, [.ref hp, .ref h5, .ref h6, .ref aa, .ref ar, .ref ax, .int (iI ((dn : Nat) : Int))])), (hp, .inr (2, [.ref ob, .ref og, .ref ap, .ref al, .ref aq, .int (iI ((cnt : Nat) : Int))])), (ap, .inl (cI, 300, .inl (kA P))), (al, .inl (cI, 300, .inl (kA L))), (aq, .inl (cI, 300, .inl (kA S))), (ax, .inl (cI, 300, .inl (kA (chB P L S q c0 cnt B0))))]) 0 0 := by
  intro sz
  refine k_of (cc := cX1_changeBlockers) (maxL := 4) (ret := none) (by decide) rfl (Nat.le_of_ble_eq_true rfl) ?_
  intro p e s m args below meth c A Q hAe hQ hx hb hr hml hts hown hlocks hnm hP hK hD hS hA ls hl
  have hl : lv_has ls 4 [(0, .ref hq), (1, .int (iI ((q : Nat) : Int))), (2, .int (iI (c0 : Int)))] := hl
  have hi_X1 : ∀ w ∈ u_ws RX1 TX1 7, w ∈ wsX1_changeBlockers := fun w h => km (ikX1 w h)
  have fl9 := hts _ (km wm133)
  have fl35 := hts _ (km wm138)
  have hcn := hW.2.2.2.2
  have hwq := hW.1 q hq
  refine lv_iconst (v := iI ((0 : Nat) : Int)) hx hb dX1_changeBlockers_0 rfl ?_
  refine lv_istore_n (lv' := [(3, .int (iI ((0 : Nat) : Int))), (0, .ref hq), (1, .int (iI ((q : Nat) : Int))), (2, .int (iI (c0 : Int)))]) hx hb dX1_changeBlockers_1 rfl hl (by decide) rfl (fun ls hl => ?_)
  have lp2 : ∀ (fu : Nat) (k : Nat) (H : Heap) (locs : List Loc) (ls : Array Slot), cnt - k < fu → (k ≤ cnt) → va_P D vwCl [(hq, .inr (1, [.ref hp, .ref h5, .ref h6, .ref aa, .ref ar, .ref ax, .int (iI ((dn : Nat) : Int))])), (hp, .inr (2, [.ref ob, .ref og, .ref ap, .ref al, .ref aq, .int (iI ((cnt : Nat) : Int))])), (ap, .inl (cI, 300, .inl (kA P))), (al, .inl (cI, 300, .inl (kA L))), (aq, .inl (cI, 300, .inl (kA S))), (ax, .inl (cI, 300, .inl (kA (chB P L S q c0 k B0))))] H → va_D A [(hq, .inr (1, [.ref hp, .ref h5, .ref h6, .ref aa, .ref ar, .ref ax, .int (iI ((dn : Nat) : Int))])), (hp, .inr (2, [.ref ob, .ref og, .ref ap, .ref al, .ref aq, .int (iI ((cnt : Nat) : Int))])), (ap, .inl (cI, 300, .inl (kA P))), (al, .inl (cI, 300, .inl (kA L))), (aq, .inl (cI, 300, .inl (kA S))), (ax, .inl (cI, 300, .inl (kA (chB P L S q c0 k B0))))] → va_S A s.heap H locs → lv_has ls 4 [(0, .ref hq), (1, .int (iI ((q : Nat) : Int))), (2, .int (iI (c0 : Int))), (3, .int (iI ((k : Nat) : Int)))] → W p l e rm_c_Placer_changeBlockers s m args below meth c H locs 0 0 Q (F0 m 2 ls []) := by
    intro fu
    induction fu with
    | zero => intro k H locs ls hfu; exact absurd hfu (Nat.not_lt_zero _)
    | succ fu ih2 =>
      intro k H locs ls hfu hk hP hD hS hl
      refine lv_iload_n hx hb dX1_changeBlockers_2 rfl (lv_at hl 3 rfl) ?_
      refine lv_aload_n hx hb dX1_changeBlockers_3 rfl (lv_at hl 0 rfl) ?_
      refine va_get (D := D) (ci := 1) (v := .ref hp) (C := RX1) (T := TX1) (N := 7) hx hb hts hi_X1 hown hK hP 0 rfl rfl 0 (by decide) fl9 (fun _ h9 => h9) rfl dX1_changeBlockers_4 ?_
      refine k_calli (wc := [(hp, .inr (2, [.ref ob, .ref og, .ref ap, .ref al, .ref aq, .int (iI ((cnt : Nat) : Int))]))]) (wr := [(hq, .inr (1, [.ref hp, .ref h5, .ref h6, .ref aa, .ref ar, .ref ax, .int (iI ((dn : Nat) : Int))])), (ap, .inl (cI, 300, .inl (kA P))), (al, .inl (cI, 300, .inl (kA L))), (aq, .inl (cI, 300, .inl (kA S))), (ax, .inl (cI, 300, .inl (kA (chB P L S q c0 k B0))))]) (wf := fun _ => [(hq, .inr (1, [.ref hp, .ref h5, .ref h6, .ref aa, .ref ar, .ref ax, .int (iI ((dn : Nat) : Int))])), (hp, .inr (2, [.ref ob, .ref og, .ref ap, .ref al, .ref aq, .int (iI ((cnt : Nat) : Int))])), (ap, .inl (cI, 300, .inl (kA P))), (al, .inl (cI, 300, .inl (kA L))), (aq, .inl (cI, 300, .inl (kA S))), (ax, .inl (cI, 300, .inl (kA (chB P L S q c0 k B0))))]) hK hP hD hS hA [1] [0, 2, 3, 4, 5] [0, 5, 1, 2, 3, 4] ⟨⟨rfl, rfl, by decide⟩, rfl, by decide, by decide⟩ (fun _ => ⟨rfl, rfl⟩) (by decide) (fun hPc hDc => va_runV (As := []) (rest := [.int (iI ((k : Nat) : Int))]) ⟨hx, hb, hml, hown, hts⟩ (c_Plan_count l D cI cZ (hp := hp) (ob := ob) (og := og) (ap := ap) (al := al) (aq := aq) (cnt := cnt)  _) (cwV 0 hts (kgV wm416 wm316 wm317 wm41 wmcX2_count) rfl rfl rfl (by decide +kernel) ⟨Nat.le_of_ble_eq_true rfl, Nat.le_of_ble_eq_true rfl⟩) (k_preV hK hPc hDc (ci := 2) (q0 := 0) rfl rfl) rfl rfl hl.1 rfl (lv_room (Nat.le_of_ble_eq_true rfl)) dX1_changeBlockers_7 ⟨Nat.le_of_ble_eq_true rfl, Nat.le_of_ble_eq_true rfl⟩) (fun r7 u H locs hw hP hD hS => ?_)
      have hP : va_P D vwCl [(hq, .inr (1, [.ref hp, .ref h5, .ref h6, .ref aa, .ref ar, .ref ax, .int (iI ((dn : Nat) : Int))])), (hp, .inr (2, [.ref ob, .ref og, .ref ap, .ref al, .ref aq, .int (iI ((cnt : Nat) : Int))])), (ap, .inl (cI, 300, .inl (kA P))), (al, .inl (cI, 300, .inl (kA L))), (aq, .inl (cI, 300, .inl (kA S))), (ax, .inl (cI, 300, .inl (kA (chB P L S q c0 k B0))))] H := hP
      have hD : va_D A [(hq, .inr (1, [.ref hp, .ref h5, .ref h6, .ref aa, .ref ar, .ref ax, .int (iI ((dn : Nat) : Int))])), (hp, .inr (2, [.ref ob, .ref og, .ref ap, .ref al, .ref aq, .int (iI ((cnt : Nat) : Int))])), (ap, .inl (cI, 300, .inl (kA P))), (al, .inl (cI, 300, .inl (kA L))), (aq, .inl (cI, 300, .inl (kA S))), (ax, .inl (cI, 300, .inl (kA (chB P L S q c0 k B0))))] := hD
      refine W.widen (k := 0) (n := 0) (Nat.le_of_ble_eq_true rfl) (Nat.le_of_ble_eq_true rfl) ?_
      have hw : r7 = iI ((cnt : Nat) : Int) := hw
      subst hw
      refine lv_icmp_ge (tgt := 53) hx hb dX1_changeBlockers_10 (by decide) (fun c10 => ?_) (fun c10 => ?_)
      · skip
        have c10 := iI_leT (a := ((cnt : Nat) : Int)) (b := ((k : Nat) : Int)) c10 (by omega)
        obtain rfl : k = cnt := by omega
        exact k_vret () hx hb hr hlocks hK hP hD hS [0, 1, 2, 3, 4, 5] (by decide) rfl rfl (trivial) hAe hQ dX1_changeBlockers_53
      · skip
        have c10 := iI_leF (a := ((cnt : Nat) : Int)) (b := ((k : Nat) : Int)) c10 (by omega)
        have hwk := hW.1 k (by omega)
        refine lv_iload_n hx hb dX1_changeBlockers_13 rfl (lv_at hl 3 rfl) ?_
        refine lv_sipush (v := iI (300 : Int)) hx hb dX1_changeBlockers_14 (by decide) ?_
        refine lv_icmp_ge (tgt := 53) hx hb dX1_changeBlockers_17 (by decide) (fun c17 => ?_) (fun c17 => ?_)
        · skip
          have c17 := iI_leT (a := (300 : Int)) (b := ((k : Nat) : Int)) c17 (by omega)
          omega
        · skip
          have c17 := iI_leF (a := (300 : Int)) (b := ((k : Nat) : Int)) c17 (by omega)
          refine lv_iload_n hx hb dX1_changeBlockers_20 rfl (lv_at hl 3 rfl) ?_
          refine lv_iload_n hx hb dX1_changeBlockers_21 rfl (lv_at hl 1 rfl) ?_
          refine lv_icmp_eq (tgt := 47) hx hb dX1_changeBlockers_22 (by decide) (fun c22 => ?_) (fun c22 => ?_)
          · skip
            have c22 := iI_eqT (a := ((k : Nat) : Int)) (b := ((q : Nat) : Int)) c22 (by omega)
            refine lv_iinc (v := iI ((k + 1 : Nat) : Int)) (lv' := [(3, .int (iI ((k + 1 : Nat) : Int))), (0, .ref hq), (1, .int (iI ((q : Nat) : Int))), (2, .int (iI (c0 : Int)))]) hx hb dX1_changeBlockers_47 hl (k := 3) rfl (iA (by omega)) (by decide) rfl (fun ls hl => ?_)
            refine lv_goto (tgt := 2) hx hb dX1_changeBlockers_50 (by decide) ?_
            have hP9 : va_P D vwCl [(hq, .inr (1, [.ref hp, .ref h5, .ref h6, .ref aa, .ref ar, .ref ax, .int (iI ((dn : Nat) : Int))])), (hp, .inr (2, [.ref ob, .ref og, .ref ap, .ref al, .ref aq, .int (iI ((cnt : Nat) : Int))])), (ap, .inl (cI, 300, .inl (kA P))), (al, .inl (cI, 300, .inl (kA L))), (aq, .inl (cI, 300, .inl (kA S))), (ax, .inl (cI, 300, .inl (kA (chB P L S q c0 (k + 1) B0))))] H := by
              have hP := hP
              rw [chB_n (by omega)]
              exact hP
            have hD9 : va_D A [(hq, .inr (1, [.ref hp, .ref h5, .ref h6, .ref aa, .ref ar, .ref ax, .int (iI ((dn : Nat) : Int))])), (hp, .inr (2, [.ref ob, .ref og, .ref ap, .ref al, .ref aq, .int (iI ((cnt : Nat) : Int))])), (ap, .inl (cI, 300, .inl (kA P))), (al, .inl (cI, 300, .inl (kA L))), (aq, .inl (cI, 300, .inl (kA S))), (ax, .inl (cI, 300, .inl (kA (chB P L S q c0 (k + 1) B0))))] := by
              have hD := hD
              rw [chB_n (by omega)]
              exact hD
            exact ih2 (k + 1) _ _ _ (by omega) (by omega) hP9 hD9 hS (lv_sub hl [1, 2, 3, 0] rfl)
          · skip
            have c22 := iI_eqF (a := ((k : Nat) : Int)) (b := ((q : Nat) : Int)) c22 (by omega)
            refine lv_aload_n hx hb dX1_changeBlockers_25 rfl (lv_at hl 0 rfl) ?_
            refine va_get (D := D) (ci := 1) (v := .ref hp) (C := RX1) (T := TX1) (N := 7) hx hb hts hi_X1 hown hK hP 0 rfl rfl 0 (by decide) fl9 (fun _ h9 => h9) rfl dX1_changeBlockers_26 ?_
            refine lv_iload_n hx hb dX1_changeBlockers_29 rfl (lv_at hl 3 rfl) ?_
            refine lv_iload_n hx hb dX1_changeBlockers_30 rfl (lv_at hl 1 rfl) ?_
            refine k_calli (wc := [(hp, .inr (2, [.ref ob, .ref og, .ref ap, .ref al, .ref aq, .int (iI ((cnt : Nat) : Int))])), (ap, .inl (cI, 300, .inl (kA P))), (al, .inl (cI, 300, .inl (kA L))), (aq, .inl (cI, 300, .inl (kA S)))]) (wr := [(hq, .inr (1, [.ref hp, .ref h5, .ref h6, .ref aa, .ref ar, .ref ax, .int (iI ((dn : Nat) : Int))])), (ax, .inl (cI, 300, .inl (kA (chB P L S q c0 k B0))))]) (wf := fun _ => [(hq, .inr (1, [.ref hp, .ref h5, .ref h6, .ref aa, .ref ar, .ref ax, .int (iI ((dn : Nat) : Int))])), (hp, .inr (2, [.ref ob, .ref og, .ref ap, .ref al, .ref aq, .int (iI ((cnt : Nat) : Int))])), (ap, .inl (cI, 300, .inl (kA P))), (al, .inl (cI, 300, .inl (kA L))), (aq, .inl (cI, 300, .inl (kA S))), (ax, .inl (cI, 300, .inl (kA (chB P L S q c0 k B0))))]) hK hP hD hS hA [1, 2, 3, 4] [0, 5] [0, 2, 3, 4, 5, 1] ⟨⟨rfl, rfl, by decide⟩, rfl, by decide, by decide⟩ (fun _ => ⟨rfl, rfl⟩) (by decide) (fun hPc hDc => va_runV (As := [.int (iI ((k : Nat) : Int)), .int (iI ((q : Nat) : Int))]) (rest := []) ⟨hx, hb, hml, hown, hts⟩ (c_Plan_wwt l D cI cZ (hp := hp) (ob := ob) (og := og) (ap := ap) (al := al) (aq := aq) (cnt := cnt) (P := P) (L := L) (S := S) (i := k) (k := q) (hc := by omega) (hi := by omega) (hk := by omega) (hPi := by omega) (hLi := by omega) (hLk := by omega) (hSk := by omega) _) (cwV 2 hts (kgV wm422 wm423 wm424 wm41 wmcX2_writesWhereTakes) rfl rfl rfl (by decide +kernel) ⟨Nat.le_of_ble_eq_true rfl, Nat.le_of_ble_eq_true rfl⟩) (k_preV hK hPc hDc (ci := 2) (q0 := 0) rfl rfl) rfl rfl hl.1 rfl (lv_room (Nat.le_of_ble_eq_true rfl)) dX1_changeBlockers_31 ⟨Nat.le_of_ble_eq_true rfl, Nat.le_of_ble_eq_true rfl⟩) (fun r31 u H locs hw hP hD hS => ?_)
            have hP : va_P D vwCl [(hq, .inr (1, [.ref hp, .ref h5, .ref h6, .ref aa, .ref ar, .ref ax, .int (iI ((dn : Nat) : Int))])), (hp, .inr (2, [.ref ob, .ref og, .ref ap, .ref al, .ref aq, .int (iI ((cnt : Nat) : Int))])), (ap, .inl (cI, 300, .inl (kA P))), (al, .inl (cI, 300, .inl (kA L))), (aq, .inl (cI, 300, .inl (kA S))), (ax, .inl (cI, 300, .inl (kA (chB P L S q c0 k B0))))] H := hP
            have hD : va_D A [(hq, .inr (1, [.ref hp, .ref h5, .ref h6, .ref aa, .ref ar, .ref ax, .int (iI ((dn : Nat) : Int))])), (hp, .inr (2, [.ref ob, .ref og, .ref ap, .ref al, .ref aq, .int (iI ((cnt : Nat) : Int))])), (ap, .inl (cI, 300, .inl (kA P))), (al, .inl (cI, 300, .inl (kA L))), (aq, .inl (cI, 300, .inl (kA S))), (ax, .inl (cI, 300, .inl (kA (chB P L S q c0 k B0))))] := hD
            refine W.widen (k := 0) (n := 0) (Nat.le_of_ble_eq_true rfl) (Nat.le_of_ble_eq_true rfl) ?_
            have hw : r31 = kb (decide (P k < S q + L q ∧ S q < P k + L k)) := hw
            subst hw
            refine lv_if_eq (tgt := 47) hx hb dX1_changeBlockers_34 (by decide) (fun c34 => ?_) (fun c34 => ?_)
            · skip
              have c34 : ¬ (P k < S q + L q ∧ S q < P k + L k) := of_decide_eq_false (kb_T c34)
              refine lv_iinc (v := iI ((k + 1 : Nat) : Int)) (lv' := [(3, .int (iI ((k + 1 : Nat) : Int))), (0, .ref hq), (1, .int (iI ((q : Nat) : Int))), (2, .int (iI (c0 : Int)))]) hx hb dX1_changeBlockers_47 hl (k := 3) rfl (iA (by omega)) (by decide) rfl (fun ls hl => ?_)
              refine lv_goto (tgt := 2) hx hb dX1_changeBlockers_50 (by decide) ?_
              have hP9 : va_P D vwCl [(hq, .inr (1, [.ref hp, .ref h5, .ref h6, .ref aa, .ref ar, .ref ax, .int (iI ((dn : Nat) : Int))])), (hp, .inr (2, [.ref ob, .ref og, .ref ap, .ref al, .ref aq, .int (iI ((cnt : Nat) : Int))])), (ap, .inl (cI, 300, .inl (kA P))), (al, .inl (cI, 300, .inl (kA L))), (aq, .inl (cI, 300, .inl (kA S))), (ax, .inl (cI, 300, .inl (kA (chB P L S q c0 (k + 1) B0))))] H := by
                have hP := hP
                rw [chB_n (by omega)]
                exact hP
              have hD9 : va_D A [(hq, .inr (1, [.ref hp, .ref h5, .ref h6, .ref aa, .ref ar, .ref ax, .int (iI ((dn : Nat) : Int))])), (hp, .inr (2, [.ref ob, .ref og, .ref ap, .ref al, .ref aq, .int (iI ((cnt : Nat) : Int))])), (ap, .inl (cI, 300, .inl (kA P))), (al, .inl (cI, 300, .inl (kA L))), (aq, .inl (cI, 300, .inl (kA S))), (ax, .inl (cI, 300, .inl (kA (chB P L S q c0 (k + 1) B0))))] := by
                have hD := hD
                rw [chB_n (by omega)]
                exact hD
              exact ih2 (k + 1) _ _ _ (by omega) (by omega) hP9 hD9 hS (lv_sub hl [1, 2, 3, 0] rfl)
            · skip
              have c34 : P k < S q + L q ∧ S q < P k + L k := of_decide_eq_true (kb_F c34)
              refine lv_aload_n hx hb dX1_changeBlockers_37 rfl (lv_at hl 0 rfl) ?_
              refine va_get (D := D) (ci := 1) (v := .ref ax) (C := RX1) (T := TX1) (N := 7) hx hb hts hi_X1 hown hK hP 0 rfl rfl 5 (by decide) fl35 (fun _ h9 => h9) rfl dX1_changeBlockers_38 ?_
              refine lv_iload_n hx hb dX1_changeBlockers_41 rfl (lv_at hl 3 rfl) ?_
              refine lv_dup2_11 hx hb dX1_changeBlockers_42 rfl rfl ?_
              refine k_iald hx hb hK hP 5 0 rfl rfl k (by omega) dX1_changeBlockers_43 ?_
              refine kn_i (y := iI (B0 k : Int)) (show kA (chB P L S q c0 k B0) k = iI (B0 k) by unfold kA; rw [chB_k]) ?_
              refine lv_iload_n hx hb dX1_changeBlockers_44 rfl (lv_at hl 2 rfl) ?_
              refine lv_iadd hx hb dX1_changeBlockers_45 ?_
              refine kn_i (iA (c := (B0 k + c0 : Int)) (by omega)) ?_
              refine k_iast hx hb hK hP hD hS 5 0 rfl rfl k (by omega) dX1_changeBlockers_46 (fun H locs hP hD hS => ?_)
              have hP : va_P D vwCl [(hq, .inr (1, [.ref hp, .ref h5, .ref h6, .ref aa, .ref ar, .ref ax, .int (iI ((dn : Nat) : Int))])), (hp, .inr (2, [.ref ob, .ref og, .ref ap, .ref al, .ref aq, .int (iI ((cnt : Nat) : Int))])), (ap, .inl (cI, 300, .inl (kA P))), (al, .inl (cI, 300, .inl (kA L))), (aq, .inl (cI, 300, .inl (kA S))), (ax, .inl (cI, 300, .inl (upd (kA (chB P L S q c0 k B0)) k (iI (B0 k + c0 : Int)))))] H := hP
              have hD : va_D A [(hq, .inr (1, [.ref hp, .ref h5, .ref h6, .ref aa, .ref ar, .ref ax, .int (iI ((dn : Nat) : Int))])), (hp, .inr (2, [.ref ob, .ref og, .ref ap, .ref al, .ref aq, .int (iI ((cnt : Nat) : Int))])), (ap, .inl (cI, 300, .inl (kA P))), (al, .inl (cI, 300, .inl (kA L))), (aq, .inl (cI, 300, .inl (kA S))), (ax, .inl (cI, 300, .inl (upd (kA (chB P L S q c0 k B0)) k (iI (B0 k + c0 : Int)))))] := hD
              rw [show (upd (kA (chB P L S q c0 k B0)) k (iI (B0 k + c0 : Int))) = (kA (chB P L S q c0 (k + 1) B0)) from chB_y (by omega) c34] at hP hD
              refine lv_iinc (v := iI ((k + 1 : Nat) : Int)) (lv' := [(3, .int (iI ((k + 1 : Nat) : Int))), (0, .ref hq), (1, .int (iI ((q : Nat) : Int))), (2, .int (iI (c0 : Int)))]) hx hb dX1_changeBlockers_47 hl (k := 3) rfl (iA (by omega)) (by decide) rfl (fun ls hl => ?_)
              refine lv_goto (tgt := 2) hx hb dX1_changeBlockers_50 (by decide) ?_
              exact ih2 (k + 1) _ _ _ (by omega) (by omega) hP hD hS (lv_sub hl [1, 2, 3, 0] rfl)
  rw [show (kA B0) = (kA (chB P L S q c0 0 B0)) from by rw [chB_0]] at hP hD
  exact lp2 _ 0 _ _ _ (Nat.lt_succ_self _) (by omega) hP hD hS (lv_sub hl [1, 2, 3, 0] rfl)

abbrev rm_c_Placer_countBlockers : Room := { frames := 3, cells := 0, slots := 0, locals := 66 }
set_option maxHeartbeats 4000000 in
set_option maxRecDepth 100000 in
theorem c_Placer_countBlockers (l : Launch) (D : va_G) (cI cZ : ClassId) (hq : Nat) (hp : Nat) (h5 : Nat) (h6 : Nat) (aa : Nat) (ar : Nat) (ax : Nat) (dn : Nat) (ob : Nat) (og : Nat) (ap : Nat) (al : Nat) (aq : Nat) (cnt : Nat) (P : Nat → Int) (L : Nat → Int) (S : Nat → Int) (nb : Nat) (ng : Nat) (B0 : Nat → Int) (hW : LW P L S cnt nb ng) (hnb : nb ≤ 300) (hng : ng ≤ 300) : MV l yX1_countBlockers wsX1_countBlockers rm_c_Placer_countBlockers D (kT cI cZ) [.ref hq] [(hq, .inr (1, [.ref hp, .ref h5, .ref h6, .ref aa, .ref ar, .ref ax, .int (iI ((dn : Nat) : Int))])), (hp, .inr (2, [.ref ob, .ref og, .ref ap, .ref al, .ref aq, .int (iI ((cnt : Nat) : Int))])), (ap, .inl (cI, 300, .inl (kA P))), (al, .inl (cI, 300, .inl (kA L))), (aq, .inl (cI, 300, .inl (kA S))), (ax, .inl (cI, 300, .inl (kA B0)))] (fun (_ : Unit) => True) (fun (u : Unit) => match u with | _ => [(hq, .inr (1, [.ref hp, .ref h5, .ref h6, .ref aa, .ref ar, .ref ax, .int (iI ((dn : Nat) : Int))])), (hp, .inr (2, [.ref ob, .ref og, .ref ap, .ref al, .ref aq, .int (iI ((cnt : Nat) : Int))])), (ap, .inl (cI, 300, .inl (kA P))), (al, .inl (cI, 300, .inl (kA L))), (aq, .inl (cI, 300, .inl (kA S))), (ax, .inl (cI, 300, .inl (kA (cbF P L S cnt B0 cnt))))]) 0 0 := by
  intro sz
  refine k_of (cc := cX1_countBlockers) (maxL := 2) (ret := none) (by decide) rfl (Nat.le_of_ble_eq_true rfl) ?_
  intro p e s m args below meth c A Q hAe hQ hx hb hr hml hts hown hlocks hnm hP hK hD hS hA ls hl
  have hl : lv_has ls 2 [(0, .ref hq)] := hl
  have hi_X1 : ∀ w ∈ u_ws RX1 TX1 7, w ∈ wsX1_countBlockers := fun w h => km (ikX1 w h)
  have fl9 := hts _ (km wm133)
  have hcn := hW.2.2.2.2
  refine lv_iconst (v := iI ((0 : Nat) : Int)) hx hb dX1_countBlockers_0 rfl ?_
  refine lv_istore_n (lv' := [(1, .int (iI ((0 : Nat) : Int))), (0, .ref hq)]) hx hb dX1_countBlockers_1 rfl hl (by decide) rfl (fun ls hl => ?_)
  have lp2 : ∀ (fu : Nat) (k : Nat) (H : Heap) (locs : List Loc) (ls : Array Slot), cnt - k < fu → (k ≤ cnt) → va_P D vwCl [(hq, .inr (1, [.ref hp, .ref h5, .ref h6, .ref aa, .ref ar, .ref ax, .int (iI ((dn : Nat) : Int))])), (hp, .inr (2, [.ref ob, .ref og, .ref ap, .ref al, .ref aq, .int (iI ((cnt : Nat) : Int))])), (ap, .inl (cI, 300, .inl (kA P))), (al, .inl (cI, 300, .inl (kA L))), (aq, .inl (cI, 300, .inl (kA S))), (ax, .inl (cI, 300, .inl (kA (cbF P L S cnt B0 k))))] H → va_D A [(hq, .inr (1, [.ref hp, .ref h5, .ref h6, .ref aa, .ref ar, .ref ax, .int (iI ((dn : Nat) : Int))])), (hp, .inr (2, [.ref ob, .ref og, .ref ap, .ref al, .ref aq, .int (iI ((cnt : Nat) : Int))])), (ap, .inl (cI, 300, .inl (kA P))), (al, .inl (cI, 300, .inl (kA L))), (aq, .inl (cI, 300, .inl (kA S))), (ax, .inl (cI, 300, .inl (kA (cbF P L S cnt B0 k))))] → va_S A s.heap H locs → lv_has ls 2 [(0, .ref hq), (1, .int (iI ((k : Nat) : Int)))] → W p l e rm_c_Placer_countBlockers s m args below meth c H locs 0 0 Q (F0 m 2 ls []) := by
    intro fu
    induction fu with
    | zero => intro k H locs ls hfu; exact absurd hfu (Nat.not_lt_zero _)
    | succ fu ih2 =>
      intro k H locs ls hfu hk hP hD hS hl
      refine lv_iload_n hx hb dX1_countBlockers_2 rfl (lv_at hl 1 rfl) ?_
      refine lv_aload_n hx hb dX1_countBlockers_3 rfl (lv_at hl 0 rfl) ?_
      refine va_get (D := D) (ci := 1) (v := .ref hp) (C := RX1) (T := TX1) (N := 7) hx hb hts hi_X1 hown hK hP 0 rfl rfl 0 (by decide) fl9 (fun _ h9 => h9) rfl dX1_countBlockers_4 ?_
      refine k_calli (wc := [(hp, .inr (2, [.ref ob, .ref og, .ref ap, .ref al, .ref aq, .int (iI ((cnt : Nat) : Int))]))]) (wr := [(hq, .inr (1, [.ref hp, .ref h5, .ref h6, .ref aa, .ref ar, .ref ax, .int (iI ((dn : Nat) : Int))])), (ap, .inl (cI, 300, .inl (kA P))), (al, .inl (cI, 300, .inl (kA L))), (aq, .inl (cI, 300, .inl (kA S))), (ax, .inl (cI, 300, .inl (kA (cbF P L S cnt B0 k))))]) (wf := fun _ => [(hq, .inr (1, [.ref hp, .ref h5, .ref h6, .ref aa, .ref ar, .ref ax, .int (iI ((dn : Nat) : Int))])), (hp, .inr (2, [.ref ob, .ref og, .ref ap, .ref al, .ref aq, .int (iI ((cnt : Nat) : Int))])), (ap, .inl (cI, 300, .inl (kA P))), (al, .inl (cI, 300, .inl (kA L))), (aq, .inl (cI, 300, .inl (kA S))), (ax, .inl (cI, 300, .inl (kA (cbF P L S cnt B0 k))))]) hK hP hD hS hA [1] [0, 2, 3, 4, 5] [0, 5, 1, 2, 3, 4] ⟨⟨rfl, rfl, by decide⟩, rfl, by decide, by decide⟩ (fun _ => ⟨rfl, rfl⟩) (by decide) (fun hPc hDc => va_runV (As := []) (rest := [.int (iI ((k : Nat) : Int))]) ⟨hx, hb, hml, hown, hts⟩ (c_Plan_count l D cI cZ (hp := hp) (ob := ob) (og := og) (ap := ap) (al := al) (aq := aq) (cnt := cnt)  _) (cwV 0 hts (kgV wm416 wm316 wm317 wm41 wmcX2_count) rfl rfl rfl (by decide +kernel) ⟨Nat.le_of_ble_eq_true rfl, Nat.le_of_ble_eq_true rfl⟩) (k_preV hK hPc hDc (ci := 2) (q0 := 0) rfl rfl) rfl rfl hl.1 rfl (lv_room (Nat.le_of_ble_eq_true rfl)) dX1_countBlockers_7 ⟨Nat.le_of_ble_eq_true rfl, Nat.le_of_ble_eq_true rfl⟩) (fun r7 u H locs hw hP hD hS => ?_)
      have hP : va_P D vwCl [(hq, .inr (1, [.ref hp, .ref h5, .ref h6, .ref aa, .ref ar, .ref ax, .int (iI ((dn : Nat) : Int))])), (hp, .inr (2, [.ref ob, .ref og, .ref ap, .ref al, .ref aq, .int (iI ((cnt : Nat) : Int))])), (ap, .inl (cI, 300, .inl (kA P))), (al, .inl (cI, 300, .inl (kA L))), (aq, .inl (cI, 300, .inl (kA S))), (ax, .inl (cI, 300, .inl (kA (cbF P L S cnt B0 k))))] H := hP
      have hD : va_D A [(hq, .inr (1, [.ref hp, .ref h5, .ref h6, .ref aa, .ref ar, .ref ax, .int (iI ((dn : Nat) : Int))])), (hp, .inr (2, [.ref ob, .ref og, .ref ap, .ref al, .ref aq, .int (iI ((cnt : Nat) : Int))])), (ap, .inl (cI, 300, .inl (kA P))), (al, .inl (cI, 300, .inl (kA L))), (aq, .inl (cI, 300, .inl (kA S))), (ax, .inl (cI, 300, .inl (kA (cbF P L S cnt B0 k))))] := hD
      refine W.widen (k := 0) (n := 0) (Nat.le_of_ble_eq_true rfl) (Nat.le_of_ble_eq_true rfl) ?_
      have hw : r7 = iI ((cnt : Nat) : Int) := hw
      subst hw
      refine lv_icmp_ge (tgt := 36) hx hb dX1_countBlockers_10 (by decide) (fun c10 => ?_) (fun c10 => ?_)
      · skip
        have c10 := iI_leT (a := ((cnt : Nat) : Int)) (b := ((k : Nat) : Int)) c10 (by omega)
        obtain rfl : k = cnt := by omega
        exact k_vret () hx hb hr hlocks hK hP hD hS [0, 1, 2, 3, 4, 5] (by decide) rfl rfl (trivial) hAe hQ dX1_countBlockers_36
      · skip
        have c10 := iI_leF (a := ((cnt : Nat) : Int)) (b := ((k : Nat) : Int)) c10 (by omega)
        refine lv_aload_n hx hb dX1_countBlockers_13 rfl (lv_at hl 0 rfl) ?_
        refine va_get (D := D) (ci := 1) (v := .ref hp) (C := RX1) (T := TX1) (N := 7) hx hb hts hi_X1 hown hK hP 0 rfl rfl 0 (by decide) fl9 (fun _ h9 => h9) rfl dX1_countBlockers_14 ?_
        refine lv_iload_n hx hb dX1_countBlockers_17 rfl (lv_at hl 1 rfl) ?_
        refine k_calli (wc := [(hp, .inr (2, [.ref ob, .ref og, .ref ap, .ref al, .ref aq, .int (iI ((cnt : Nat) : Int))])), (aq, .inl (cI, 300, .inl (kA S)))]) (wr := [(hq, .inr (1, [.ref hp, .ref h5, .ref h6, .ref aa, .ref ar, .ref ax, .int (iI ((dn : Nat) : Int))])), (ap, .inl (cI, 300, .inl (kA P))), (al, .inl (cI, 300, .inl (kA L))), (ax, .inl (cI, 300, .inl (kA (cbF P L S cnt B0 k))))]) (wf := fun _ => [(hq, .inr (1, [.ref hp, .ref h5, .ref h6, .ref aa, .ref ar, .ref ax, .int (iI ((dn : Nat) : Int))])), (hp, .inr (2, [.ref ob, .ref og, .ref ap, .ref al, .ref aq, .int (iI ((cnt : Nat) : Int))])), (ap, .inl (cI, 300, .inl (kA P))), (al, .inl (cI, 300, .inl (kA L))), (aq, .inl (cI, 300, .inl (kA S))), (ax, .inl (cI, 300, .inl (kA (cbF P L S cnt B0 k))))]) hK hP hD hS hA [1, 4] [0, 2, 3, 5] [0, 4, 1, 2, 5, 3] ⟨⟨rfl, rfl, by decide⟩, rfl, by decide, by decide⟩ (fun _ => ⟨rfl, rfl⟩) (by decide) (fun hPc hDc => va_runV (As := [.int (iI ((k : Nat) : Int))]) (rest := []) ⟨hx, hb, hml, hown, hts⟩ (c_Plan_isCopyk l D cI cZ (hp := hp) (ob := ob) (og := og) (ap := ap) (al := al) (aq := aq) (cnt := cnt) (F := S) (k := k) (hc := by omega) (hk := by omega) (hF := fun j hj => by have := hW.1 j hj; omega) _) (cwV 1 hts (kgV wm417 wm261 wm262 wm41 wmcX2_isCopy) rfl rfl rfl (by decide +kernel) ⟨Nat.le_of_ble_eq_true rfl, Nat.le_of_ble_eq_true rfl⟩) (k_preV hK hPc hDc (ci := 2) (q0 := 0) rfl rfl) rfl rfl hl.1 rfl (lv_room (Nat.le_of_ble_eq_true rfl)) dX1_countBlockers_18 ⟨Nat.le_of_ble_eq_true rfl, Nat.le_of_ble_eq_true rfl⟩) (fun r18 u H locs hw hP hD hS => ?_)
        have hP : va_P D vwCl [(hq, .inr (1, [.ref hp, .ref h5, .ref h6, .ref aa, .ref ar, .ref ax, .int (iI ((dn : Nat) : Int))])), (hp, .inr (2, [.ref ob, .ref og, .ref ap, .ref al, .ref aq, .int (iI ((cnt : Nat) : Int))])), (ap, .inl (cI, 300, .inl (kA P))), (al, .inl (cI, 300, .inl (kA L))), (aq, .inl (cI, 300, .inl (kA S))), (ax, .inl (cI, 300, .inl (kA (cbF P L S cnt B0 k))))] H := hP
        have hD : va_D A [(hq, .inr (1, [.ref hp, .ref h5, .ref h6, .ref aa, .ref ar, .ref ax, .int (iI ((dn : Nat) : Int))])), (hp, .inr (2, [.ref ob, .ref og, .ref ap, .ref al, .ref aq, .int (iI ((cnt : Nat) : Int))])), (ap, .inl (cI, 300, .inl (kA P))), (al, .inl (cI, 300, .inl (kA L))), (aq, .inl (cI, 300, .inl (kA S))), (ax, .inl (cI, 300, .inl (kA (cbF P L S cnt B0 k))))] := hD
        refine W.widen (k := 0) (n := 0) (Nat.le_of_ble_eq_true rfl) (Nat.le_of_ble_eq_true rfl) ?_
        have hw : r18 = kb (decide (¬ S k = -1)) := hw
        subst hw
        refine lv_if_eq (tgt := 30) hx hb dX1_countBlockers_21 (by decide) (fun c21 => ?_) (fun c21 => ?_)
        · skip
          have c21 : ¬ (¬ S k = -1) := of_decide_eq_false (kb_T c21)
          refine lv_iinc (v := iI ((k + 1 : Nat) : Int)) (lv' := [(1, .int (iI ((k + 1 : Nat) : Int))), (0, .ref hq)]) hx hb dX1_countBlockers_30 hl (k := 1) rfl (iA (by omega)) (by decide) rfl (fun ls hl => ?_)
          refine lv_goto (tgt := 2) hx hb dX1_countBlockers_33 (by decide) ?_
          have hP9 : va_P D vwCl [(hq, .inr (1, [.ref hp, .ref h5, .ref h6, .ref aa, .ref ar, .ref ax, .int (iI ((dn : Nat) : Int))])), (hp, .inr (2, [.ref ob, .ref og, .ref ap, .ref al, .ref aq, .int (iI ((cnt : Nat) : Int))])), (ap, .inl (cI, 300, .inl (kA P))), (al, .inl (cI, 300, .inl (kA L))), (aq, .inl (cI, 300, .inl (kA S))), (ax, .inl (cI, 300, .inl (kA (cbF P L S cnt B0 (k + 1)))))] H := by
            have hP := hP
            rw [cbF, if_pos (by omega)]
            exact hP
          have hD9 : va_D A [(hq, .inr (1, [.ref hp, .ref h5, .ref h6, .ref aa, .ref ar, .ref ax, .int (iI ((dn : Nat) : Int))])), (hp, .inr (2, [.ref ob, .ref og, .ref ap, .ref al, .ref aq, .int (iI ((cnt : Nat) : Int))])), (ap, .inl (cI, 300, .inl (kA P))), (al, .inl (cI, 300, .inl (kA L))), (aq, .inl (cI, 300, .inl (kA S))), (ax, .inl (cI, 300, .inl (kA (cbF P L S cnt B0 (k + 1)))))] := by
            have hD := hD
            rw [cbF, if_pos (by omega)]
            exact hD
          exact ih2 (k + 1) _ _ _ (by omega) (by omega) hP9 hD9 hS (lv_sub hl [1, 0] rfl)
        · skip
          have c21 : ¬ S k = -1 := of_decide_eq_true (kb_F c21)
          refine lv_aload_n hx hb dX1_countBlockers_24 rfl (lv_at hl 0 rfl) ?_
          refine lv_iload_n hx hb dX1_countBlockers_25 rfl (lv_at hl 1 rfl) ?_
          refine lv_iconst (v := iI (1 : Int)) hx hb dX1_countBlockers_26 rfl ?_
          refine k_callv (wc := [(hq, .inr (1, [.ref hp, .ref h5, .ref h6, .ref aa, .ref ar, .ref ax, .int (iI ((dn : Nat) : Int))])), (hp, .inr (2, [.ref ob, .ref og, .ref ap, .ref al, .ref aq, .int (iI ((cnt : Nat) : Int))])), (ap, .inl (cI, 300, .inl (kA P))), (al, .inl (cI, 300, .inl (kA L))), (aq, .inl (cI, 300, .inl (kA S))), (ax, .inl (cI, 300, .inl (kA (cbF P L S cnt B0 k))))]) (wr := []) (wf := fun _ => [(hq, .inr (1, [.ref hp, .ref h5, .ref h6, .ref aa, .ref ar, .ref ax, .int (iI ((dn : Nat) : Int))])), (hp, .inr (2, [.ref ob, .ref og, .ref ap, .ref al, .ref aq, .int (iI ((cnt : Nat) : Int))])), (ap, .inl (cI, 300, .inl (kA P))), (al, .inl (cI, 300, .inl (kA L))), (aq, .inl (cI, 300, .inl (kA S))), (ax, .inl (cI, 300, .inl (kA (chB P L S k 1 cnt (cbF P L S cnt B0 k)))))]) hK hP hD hS hA [0, 1, 2, 3, 4, 5] [] [0, 1, 2, 3, 4, 5] ⟨⟨rfl, rfl, by decide⟩, rfl, by decide, by decide⟩ (fun _ => ⟨rfl, rfl⟩) (by decide) (fun hPc hDc => va_runV (As := [.int (iI ((k : Nat) : Int)), .int (iI (1 : Int))]) (rest := []) ⟨hx, hb, hml, hown, hts⟩ (c_Placer_changeBlockers l D cI cZ (hq := hq) (hp := hp) (h5 := h5) (h6 := h6) (aa := aa) (ar := ar) (ax := ax) (dn := dn) (ob := ob) (og := og) (ap := ap) (al := al) (aq := aq) (cnt := cnt) (P := P) (L := L) (S := S) (nb := nb) (ng := ng) (B0 := (cbF P L S cnt B0 k)) (q := k) (c0 := 1) (hW := hW) (hnb := hnb) (hng := hng) (hq := by omega) _) (cwV 2 hts (kgV wm418 wm420 wm14 wm43 wmcX1_changeBlockers) rfl rfl rfl (by decide +kernel) ⟨Nat.le_of_ble_eq_true rfl, Nat.le_of_ble_eq_true rfl⟩) (k_preV hK hPc hDc (ci := 1) (q0 := 0) rfl rfl) rfl rfl hl.1 rfl (lv_room (Nat.le_of_ble_eq_true rfl)) dX1_countBlockers_27 ⟨Nat.le_of_ble_eq_true rfl, Nat.le_of_ble_eq_true rfl⟩) (fun u H locs hw hP hD hS => ?_)
          have hP : va_P D vwCl [(hq, .inr (1, [.ref hp, .ref h5, .ref h6, .ref aa, .ref ar, .ref ax, .int (iI ((dn : Nat) : Int))])), (hp, .inr (2, [.ref ob, .ref og, .ref ap, .ref al, .ref aq, .int (iI ((cnt : Nat) : Int))])), (ap, .inl (cI, 300, .inl (kA P))), (al, .inl (cI, 300, .inl (kA L))), (aq, .inl (cI, 300, .inl (kA S))), (ax, .inl (cI, 300, .inl (kA (chB P L S k 1 cnt (cbF P L S cnt B0 k)))))] H := hP
          have hD : va_D A [(hq, .inr (1, [.ref hp, .ref h5, .ref h6, .ref aa, .ref ar, .ref ax, .int (iI ((dn : Nat) : Int))])), (hp, .inr (2, [.ref ob, .ref og, .ref ap, .ref al, .ref aq, .int (iI ((cnt : Nat) : Int))])), (ap, .inl (cI, 300, .inl (kA P))), (al, .inl (cI, 300, .inl (kA L))), (aq, .inl (cI, 300, .inl (kA S))), (ax, .inl (cI, 300, .inl (kA (chB P L S k 1 cnt (cbF P L S cnt B0 k)))))] := hD
          refine W.widen (k := 0) (n := 0) (Nat.le_of_ble_eq_true rfl) (Nat.le_of_ble_eq_true rfl) ?_
          refine lv_iinc (v := iI ((k + 1 : Nat) : Int)) (lv' := [(1, .int (iI ((k + 1 : Nat) : Int))), (0, .ref hq)]) hx hb dX1_countBlockers_30 hl (k := 1) rfl (iA (by omega)) (by decide) rfl (fun ls hl => ?_)
          refine lv_goto (tgt := 2) hx hb dX1_countBlockers_33 (by decide) ?_
          have hP9 : va_P D vwCl [(hq, .inr (1, [.ref hp, .ref h5, .ref h6, .ref aa, .ref ar, .ref ax, .int (iI ((dn : Nat) : Int))])), (hp, .inr (2, [.ref ob, .ref og, .ref ap, .ref al, .ref aq, .int (iI ((cnt : Nat) : Int))])), (ap, .inl (cI, 300, .inl (kA P))), (al, .inl (cI, 300, .inl (kA L))), (aq, .inl (cI, 300, .inl (kA S))), (ax, .inl (cI, 300, .inl (kA (cbF P L S cnt B0 (k + 1)))))] H := by
            have hP := hP
            rw [cbF, if_neg c21]
            exact hP
          have hD9 : va_D A [(hq, .inr (1, [.ref hp, .ref h5, .ref h6, .ref aa, .ref ar, .ref ax, .int (iI ((dn : Nat) : Int))])), (hp, .inr (2, [.ref ob, .ref og, .ref ap, .ref al, .ref aq, .int (iI ((cnt : Nat) : Int))])), (ap, .inl (cI, 300, .inl (kA P))), (al, .inl (cI, 300, .inl (kA L))), (aq, .inl (cI, 300, .inl (kA S))), (ax, .inl (cI, 300, .inl (kA (cbF P L S cnt B0 (k + 1)))))] := by
            have hD := hD
            rw [cbF, if_neg c21]
            exact hD
          exact ih2 (k + 1) _ _ _ (by omega) (by omega) hP9 hD9 hS (lv_sub hl [1, 0] rfl)
  exact lp2 _ 0 _ _ _ (Nat.lt_succ_self _) (by omega) hP hD hS (lv_sub hl [1, 0] rfl)

abbrev rm_c_Placer_nextFree : Room := { frames := 1, cells := 0, slots := 0, locals := 20 }
set_option maxHeartbeats 4000000 in
set_option maxRecDepth 100000 in
theorem c_Placer_nextFree (l : Launch) (D : va_G) (cI cZ : ClassId) (hq : Nat) (hp : Nat) (h5 : Nat) (h6 : Nat) (aa : Nat) (ar : Nat) (ax : Nat) (dn : Nat) (ob : Nat) (og : Nat) (ap : Nat) (al : Nat) (aq : Nat) (cnt : Nat) (T0 : Nat → Int) (B0 : Nat → Int) (hc : cnt ≤ 300) (hTr : ∀ i, i < cnt → -1 ≤ T0 i ∧ T0 i ≤ 1000) (hBr : ∀ i, i < cnt → -2000 ≤ B0 i ∧ B0 i ≤ 2000) : MI l yX1_nextFree wsX1_nextFree rm_c_Placer_nextFree D (kT cI cZ) [.ref hq] [(hq, .inr (1, [.ref hp, .ref h5, .ref h6, .ref aa, .ref ar, .ref ax, .int (iI ((dn : Nat) : Int))])), (hp, .inr (2, [.ref ob, .ref og, .ref ap, .ref al, .ref aq, .int (iI ((cnt : Nat) : Int))])), (ar, .inl (cI, 300, .inl (kA T0))), (ax, .inl (cI, 300, .inl (kA B0)))] (fun (r : Int32) (_ : Unit) => r = iI (nfF T0 B0 cnt 0 : Int)) (fun (u : Unit) => match u with | _ => [(hq, .inr (1, [.ref hp, .ref h5, .ref h6, .ref aa, .ref ar, .ref ax, .int (iI ((dn : Nat) : Int))])), (hp, .inr (2, [.ref ob, .ref og, .ref ap, .ref al, .ref aq, .int (iI ((cnt : Nat) : Int))])), (ar, .inl (cI, 300, .inl (kA T0))), (ax, .inl (cI, 300, .inl (kA B0)))]) 0 0 := by
  intro sz
  refine k_of (cc := cX1_nextFree) (maxL := 2) (ret := (some .int)) (by decide) rfl (Nat.le_of_ble_eq_true rfl) ?_
  intro p e s m args below meth c A Q hAe hQ hx hb hr hml hts hown hlocks hnm hP hK hD hS hA ls hl
  have hl : lv_has ls 2 [(0, .ref hq)] := hl
  have hi_X1 : ∀ w ∈ u_ws RX1 TX1 7, w ∈ wsX1_nextFree := fun w h => km (ikX1 w h)
  have fl9 := hts _ (km wm133)
  have fl31 := hts _ (km wm137)
  have fl35 := hts _ (km wm138)
  refine lv_iconst (v := iI ((0 : Nat) : Int)) hx hb dX1_nextFree_0 rfl ?_
  refine lv_istore_n (lv' := [(1, .int (iI ((0 : Nat) : Int))), (0, .ref hq)]) hx hb dX1_nextFree_1 rfl hl (by decide) rfl (fun ls hl => ?_)
  have lp2 : ∀ (fu : Nat) (k : Nat) (H : Heap) (locs : List Loc) (ls : Array Slot), cnt - k < fu → (k ≤ cnt) → (nfF T0 B0 (cnt - k) k = nfF T0 B0 cnt 0) → va_P D vwCl [(hq, .inr (1, [.ref hp, .ref h5, .ref h6, .ref aa, .ref ar, .ref ax, .int (iI ((dn : Nat) : Int))])), (hp, .inr (2, [.ref ob, .ref og, .ref ap, .ref al, .ref aq, .int (iI ((cnt : Nat) : Int))])), (ar, .inl (cI, 300, .inl (kA T0))), (ax, .inl (cI, 300, .inl (kA B0)))] H → va_D A [(hq, .inr (1, [.ref hp, .ref h5, .ref h6, .ref aa, .ref ar, .ref ax, .int (iI ((dn : Nat) : Int))])), (hp, .inr (2, [.ref ob, .ref og, .ref ap, .ref al, .ref aq, .int (iI ((cnt : Nat) : Int))])), (ar, .inl (cI, 300, .inl (kA T0))), (ax, .inl (cI, 300, .inl (kA B0)))] → va_S A s.heap H locs → lv_has ls 2 [(0, .ref hq), (1, .int (iI ((k : Nat) : Int)))] → W p l e rm_c_Placer_nextFree s m args below meth c H locs 0 0 Q (F0 m 2 ls []) := by
    intro fu
    induction fu with
    | zero => intro k H locs ls hfu; exact absurd hfu (Nat.not_lt_zero _)
    | succ fu ih2 =>
      intro k H locs ls hfu hk hR hP hD hS hl
      refine lv_iload_n hx hb dX1_nextFree_2 rfl (lv_at hl 1 rfl) ?_
      refine lv_aload_n hx hb dX1_nextFree_3 rfl (lv_at hl 0 rfl) ?_
      refine va_get (D := D) (ci := 1) (v := .ref hp) (C := RX1) (T := TX1) (N := 7) hx hb hts hi_X1 hown hK hP 0 rfl rfl 0 (by decide) fl9 (fun _ h9 => h9) rfl dX1_nextFree_4 ?_
      refine k_calli (wc := [(hp, .inr (2, [.ref ob, .ref og, .ref ap, .ref al, .ref aq, .int (iI ((cnt : Nat) : Int))]))]) (wr := [(hq, .inr (1, [.ref hp, .ref h5, .ref h6, .ref aa, .ref ar, .ref ax, .int (iI ((dn : Nat) : Int))])), (ar, .inl (cI, 300, .inl (kA T0))), (ax, .inl (cI, 300, .inl (kA B0)))]) (wf := fun _ => [(hq, .inr (1, [.ref hp, .ref h5, .ref h6, .ref aa, .ref ar, .ref ax, .int (iI ((dn : Nat) : Int))])), (hp, .inr (2, [.ref ob, .ref og, .ref ap, .ref al, .ref aq, .int (iI ((cnt : Nat) : Int))])), (ar, .inl (cI, 300, .inl (kA T0))), (ax, .inl (cI, 300, .inl (kA B0)))]) hK hP hD hS hA [1] [0, 2, 3] [0, 3, 1, 2] ⟨⟨rfl, rfl, by decide⟩, rfl, by decide, by decide⟩ (fun _ => ⟨rfl, rfl⟩) (by decide) (fun hPc hDc => va_runV (As := []) (rest := [.int (iI ((k : Nat) : Int))]) ⟨hx, hb, hml, hown, hts⟩ (c_Plan_count l D cI cZ (hp := hp) (ob := ob) (og := og) (ap := ap) (al := al) (aq := aq) (cnt := cnt)  _) (cwV 0 hts (kgV wm416 wm316 wm317 wm41 wmcX2_count) rfl rfl rfl (by decide +kernel) ⟨Nat.le_of_ble_eq_true rfl, Nat.le_of_ble_eq_true rfl⟩) (k_preV hK hPc hDc (ci := 2) (q0 := 0) rfl rfl) rfl rfl hl.1 rfl (lv_room (Nat.le_of_ble_eq_true rfl)) dX1_nextFree_7 ⟨Nat.le_of_ble_eq_true rfl, Nat.le_of_ble_eq_true rfl⟩) (fun r7 u H locs hw hP hD hS => ?_)
      have hP : va_P D vwCl [(hq, .inr (1, [.ref hp, .ref h5, .ref h6, .ref aa, .ref ar, .ref ax, .int (iI ((dn : Nat) : Int))])), (hp, .inr (2, [.ref ob, .ref og, .ref ap, .ref al, .ref aq, .int (iI ((cnt : Nat) : Int))])), (ar, .inl (cI, 300, .inl (kA T0))), (ax, .inl (cI, 300, .inl (kA B0)))] H := hP
      have hD : va_D A [(hq, .inr (1, [.ref hp, .ref h5, .ref h6, .ref aa, .ref ar, .ref ax, .int (iI ((dn : Nat) : Int))])), (hp, .inr (2, [.ref ob, .ref og, .ref ap, .ref al, .ref aq, .int (iI ((cnt : Nat) : Int))])), (ar, .inl (cI, 300, .inl (kA T0))), (ax, .inl (cI, 300, .inl (kA B0)))] := hD
      refine W.widen (k := 0) (n := 0) (Nat.le_of_ble_eq_true rfl) (Nat.le_of_ble_eq_true rfl) ?_
      have hw : r7 = iI ((cnt : Nat) : Int) := hw
      subst hw
      refine lv_icmp_ge (tgt := 47) hx hb dX1_nextFree_10 (by decide) (fun c10 => ?_) (fun c10 => ?_)
      · skip
        have c10 := iI_leT (a := ((cnt : Nat) : Int)) (b := ((k : Nat) : Int)) c10 (by omega)
        refine lv_iconst (v := iI (-1 : Int)) hx hb dX1_nextFree_47 rfl ?_
        exact k_iret () hx hb hr hlocks hK hP hD hS [0, 1, 2, 3] (by decide) rfl rfl (by rw [← hR, show cnt - k = 0 by omega]; rfl) hAe hQ dX1_nextFree_48
      · skip
        have c10 := iI_leF (a := ((cnt : Nat) : Int)) (b := ((k : Nat) : Int)) c10 (by omega)
        have hT1 := hTr k (by omega)
        have hB1 := hBr k (by omega)
        refine lv_iload_n hx hb dX1_nextFree_13 rfl (lv_at hl 1 rfl) ?_
        refine lv_sipush (v := iI (300 : Int)) hx hb dX1_nextFree_14 (by decide) ?_
        refine lv_icmp_ge (tgt := 47) hx hb dX1_nextFree_17 (by decide) (fun c17 => ?_) (fun c17 => ?_)
        · skip
          have c17 := iI_leT (a := (300 : Int)) (b := ((k : Nat) : Int)) c17 (by omega)
          omega
        · skip
          have c17 := iI_leF (a := (300 : Int)) (b := ((k : Nat) : Int)) c17 (by omega)
          refine lv_aload_n hx hb dX1_nextFree_20 rfl (lv_at hl 0 rfl) ?_
          refine va_get (D := D) (ci := 1) (v := .ref ar) (C := RX1) (T := TX1) (N := 7) hx hb hts hi_X1 hown hK hP 0 rfl rfl 4 (by decide) fl31 (fun _ h9 => h9) rfl dX1_nextFree_21 ?_
          refine lv_iload_n hx hb dX1_nextFree_24 rfl (lv_at hl 1 rfl) ?_
          refine k_iald hx hb hK hP 2 0 rfl rfl k (by omega) dX1_nextFree_25 ?_
          refine kn_i (y := iI (T0 k : Int)) (rfl) ?_
          refine lv_iconst (v := iI (-1 : Int)) hx hb dX1_nextFree_26 rfl ?_
          refine lv_icmp_ne (tgt := 41) hx hb dX1_nextFree_27 (by decide) (fun c27 => ?_) (fun c27 => ?_)
          · skip
            have c27 := iI_eqF (a := (T0 k : Int)) (b := (-1 : Int)) c27 (by omega)
            refine lv_iinc (v := iI ((k + 1 : Nat) : Int)) (lv' := [(1, .int (iI ((k + 1 : Nat) : Int))), (0, .ref hq)]) hx hb dX1_nextFree_41 hl (k := 1) rfl (iA (by omega)) (by decide) rfl (fun ls hl => ?_)
            refine lv_goto (tgt := 2) hx hb dX1_nextFree_44 (by decide) ?_
            exact ih2 (k + 1) _ _ _ (by omega) (by omega) (by rw [← nfF_n (by omega) (by omega)]; exact hR) hP hD hS (lv_sub hl [1, 0] rfl)
          · skip
            have c27 := iI_eqT (a := (T0 k : Int)) (b := (-1 : Int)) c27 (by omega)
            refine lv_aload_n hx hb dX1_nextFree_30 rfl (lv_at hl 0 rfl) ?_
            refine va_get (D := D) (ci := 1) (v := .ref ax) (C := RX1) (T := TX1) (N := 7) hx hb hts hi_X1 hown hK hP 0 rfl rfl 5 (by decide) fl35 (fun _ h9 => h9) rfl dX1_nextFree_31 ?_
            refine lv_iload_n hx hb dX1_nextFree_34 rfl (lv_at hl 1 rfl) ?_
            refine k_iald hx hb hK hP 3 0 rfl rfl k (by omega) dX1_nextFree_35 ?_
            refine kn_i (y := iI (B0 k : Int)) (rfl) ?_
            refine lv_if_ne (tgt := 41) hx hb dX1_nextFree_36 (by decide) (fun c36 => ?_) (fun c36 => ?_)
            · skip
              have c36 := iI_eqF (a := (B0 k : Int)) (b := (0 : Int)) c36 (by omega)
              refine lv_iinc (v := iI ((k + 1 : Nat) : Int)) (lv' := [(1, .int (iI ((k + 1 : Nat) : Int))), (0, .ref hq)]) hx hb dX1_nextFree_41 hl (k := 1) rfl (iA (by omega)) (by decide) rfl (fun ls hl => ?_)
              refine lv_goto (tgt := 2) hx hb dX1_nextFree_44 (by decide) ?_
              exact ih2 (k + 1) _ _ _ (by omega) (by omega) (by rw [← nfF_n (by omega) (by omega)]; exact hR) hP hD hS (lv_sub hl [1, 0] rfl)
            · skip
              have c36 := iI_eqT (a := (B0 k : Int)) (b := (0 : Int)) c36 (by omega)
              refine lv_iload_n hx hb dX1_nextFree_39 rfl (lv_at hl 1 rfl) ?_
              exact k_iret () hx hb hr hlocks hK hP hD hS [0, 1, 2, 3] (by decide) rfl rfl (by rw [← hR, nfF_y (by omega) (by omega)]) hAe hQ dX1_nextFree_40
  exact lp2 _ 0 _ _ _ (Nat.lt_succ_self _) (by omega) (by rfl) hP hD hS (lv_sub hl [1, 0] rfl)

abbrev rm_c_Placer_wantsMemory : Room := { frames := 3, cells := 0, slots := 0, locals := 63 }
set_option maxHeartbeats 4000000 in
set_option maxRecDepth 100000 in
theorem c_Placer_wantsMemory (l : Launch) (D : va_G) (cI cZ : ClassId) (hq : Nat) (hp : Nat) (h5 : Nat) (h6 : Nat) (aa : Nat) (ar : Nat) (ax : Nat) (dn : Nat) (ob : Nat) (og : Nat) (ap : Nat) (al : Nat) (aq : Nat) (cnt : Nat) (S : Nat → Int) (A0 : Nat → Int) (T0 : Nat → Int) (k : Nat) (hc : cnt ≤ 300) (hA0 : ∀ i, i < 300 → A0 i = 0 ∨ A0 i = 1) (hk : k < cnt) (hF : ∀ i, i < cnt → -1 ≤ S i ∧ S i ≤ 300) (hTr : ∀ i, i < cnt → -1 ≤ T0 i ∧ T0 i ≤ 1000) : MI l yX1_wantsMemory wsX1_wantsMemory rm_c_Placer_wantsMemory D (kT cI cZ) [.ref hq, .int (iI ((k : Nat) : Int))] [(hq, .inr (1, [.ref hp, .ref h5, .ref h6, .ref aa, .ref ar, .ref ax, .int (iI ((dn : Nat) : Int))])), (hp, .inr (2, [.ref ob, .ref og, .ref ap, .ref al, .ref aq, .int (iI ((cnt : Nat) : Int))])), (aq, .inl (cI, 300, .inl (kA S))), (aa, .inl (cZ, 300, .inl (kA A0))), (ar, .inl (cI, 300, .inl (kA T0)))] (fun (r : Int32) (_ : Unit) => r = kb (decide ((¬ S k = -1 ∧ T0 k = -1 ∧ A0 k = 0)))) (fun (u : Unit) => match u with | _ => [(hq, .inr (1, [.ref hp, .ref h5, .ref h6, .ref aa, .ref ar, .ref ax, .int (iI ((dn : Nat) : Int))])), (hp, .inr (2, [.ref ob, .ref og, .ref ap, .ref al, .ref aq, .int (iI ((cnt : Nat) : Int))])), (aq, .inl (cI, 300, .inl (kA S))), (aa, .inl (cZ, 300, .inl (kA A0))), (ar, .inl (cI, 300, .inl (kA T0)))]) 0 0 := by
  intro sz
  refine k_of (cc := cX1_wantsMemory) (maxL := 2) (ret := (some .boolean)) (by decide) rfl (Nat.le_of_ble_eq_true rfl) ?_
  intro p e s m args below meth c A Q hAe hQ hx hb hr hml hts hown hlocks hnm hP hK hD hS hA ls hl
  have hl : lv_has ls 2 [(0, .ref hq), (1, .int (iI ((k : Nat) : Int)))] := hl
  have hi_X1 : ∀ w ∈ u_ws RX1 TX1 7, w ∈ wsX1_wantsMemory := fun w h => km (ikX1 w h)
  have fl9 := hts _ (km wm133)
  have hT1 := hTr k hk
  have e1 : rZ T0 300 ((k : Nat) : Int) = T0 k := rZ_in (by omega)
  refine lv_aload_n hx hb dX1_wantsMemory_0 rfl (lv_at hl 0 rfl) ?_
  refine va_get (D := D) (ci := 1) (v := .ref hp) (C := RX1) (T := TX1) (N := 7) hx hb hts hi_X1 hown hK hP 0 rfl rfl 0 (by decide) fl9 (fun _ h9 => h9) rfl dX1_wantsMemory_1 ?_
  refine lv_iload_n hx hb dX1_wantsMemory_4 rfl (lv_at hl 1 rfl) ?_
  refine k_calli (wc := [(hp, .inr (2, [.ref ob, .ref og, .ref ap, .ref al, .ref aq, .int (iI ((cnt : Nat) : Int))])), (aq, .inl (cI, 300, .inl (kA S)))]) (wr := [(hq, .inr (1, [.ref hp, .ref h5, .ref h6, .ref aa, .ref ar, .ref ax, .int (iI ((dn : Nat) : Int))])), (aa, .inl (cZ, 300, .inl (kA A0))), (ar, .inl (cI, 300, .inl (kA T0)))]) (wf := fun _ => [(hq, .inr (1, [.ref hp, .ref h5, .ref h6, .ref aa, .ref ar, .ref ax, .int (iI ((dn : Nat) : Int))])), (hp, .inr (2, [.ref ob, .ref og, .ref ap, .ref al, .ref aq, .int (iI ((cnt : Nat) : Int))])), (aq, .inl (cI, 300, .inl (kA S))), (aa, .inl (cZ, 300, .inl (kA A0))), (ar, .inl (cI, 300, .inl (kA T0)))]) hK hP hD hS hA [1, 2] [0, 3, 4] [0, 3, 4, 1, 2] ⟨⟨rfl, rfl, by decide⟩, rfl, by decide, by decide⟩ (fun _ => ⟨rfl, rfl⟩) (by decide) (fun hPc hDc => va_runV (As := [.int (iI ((k : Nat) : Int))]) (rest := []) ⟨hx, hb, hml, hown, hts⟩ (c_Plan_isCopyk l D cI cZ (hp := hp) (ob := ob) (og := og) (ap := ap) (al := al) (aq := aq) (cnt := cnt) (F := S) (k := k) (hc := by omega) (hk := by omega) (hF := hF) _) (cwV 1 hts (kgV wm417 wm261 wm262 wm41 wmcX2_isCopy) rfl rfl rfl (by decide +kernel) ⟨Nat.le_of_ble_eq_true rfl, Nat.le_of_ble_eq_true rfl⟩) (k_preV hK hPc hDc (ci := 2) (q0 := 0) rfl rfl) rfl rfl hl.1 rfl (lv_room (Nat.le_of_ble_eq_true rfl)) dX1_wantsMemory_5 ⟨Nat.le_of_ble_eq_true rfl, Nat.le_of_ble_eq_true rfl⟩) (fun r5 u H locs hw hP hD hS => ?_)
  have hP : va_P D vwCl [(hq, .inr (1, [.ref hp, .ref h5, .ref h6, .ref aa, .ref ar, .ref ax, .int (iI ((dn : Nat) : Int))])), (hp, .inr (2, [.ref ob, .ref og, .ref ap, .ref al, .ref aq, .int (iI ((cnt : Nat) : Int))])), (aq, .inl (cI, 300, .inl (kA S))), (aa, .inl (cZ, 300, .inl (kA A0))), (ar, .inl (cI, 300, .inl (kA T0)))] H := hP
  have hD : va_D A [(hq, .inr (1, [.ref hp, .ref h5, .ref h6, .ref aa, .ref ar, .ref ax, .int (iI ((dn : Nat) : Int))])), (hp, .inr (2, [.ref ob, .ref og, .ref ap, .ref al, .ref aq, .int (iI ((cnt : Nat) : Int))])), (aq, .inl (cI, 300, .inl (kA S))), (aa, .inl (cZ, 300, .inl (kA A0))), (ar, .inl (cI, 300, .inl (kA T0)))] := hD
  refine W.widen (k := 0) (n := 0) (Nat.le_of_ble_eq_true rfl) (Nat.le_of_ble_eq_true rfl) ?_
  have hw : r5 = kb (decide (¬ S k = -1)) := hw
  subst hw
  refine lv_if_eq (tgt := 32) hx hb dX1_wantsMemory_8 (by decide) (fun c8 => ?_) (fun c8 => ?_)
  · skip
    have c8 : ¬ (¬ S k = -1) := of_decide_eq_false (kb_T c8)
    refine lv_iconst (v := iI (0 : Int)) hx hb dX1_wantsMemory_32 rfl ?_
    exact k_zret () hx hb hr (by decide) hlocks hK hP hD hS [0, 1, 2, 3, 4] (by decide) rfl rfl (by first | exact kb1 (by omega) | exact kb0 (by omega)) hAe hQ dX1_wantsMemory_33
  · skip
    have c8 : ¬ S k = -1 := of_decide_eq_true (kb_F c8)
    refine lv_aload_n hx hb dX1_wantsMemory_11 rfl (lv_at hl 0 rfl) ?_
    refine lv_iload_n hx hb dX1_wantsMemory_12 rfl (lv_at hl 1 rfl) ?_
    refine k_calli (wc := [(hq, .inr (1, [.ref hp, .ref h5, .ref h6, .ref aa, .ref ar, .ref ax, .int (iI ((dn : Nat) : Int))])), (ar, .inl (cI, 300, .inl (kA T0)))]) (wr := [(hp, .inr (2, [.ref ob, .ref og, .ref ap, .ref al, .ref aq, .int (iI ((cnt : Nat) : Int))])), (aq, .inl (cI, 300, .inl (kA S))), (aa, .inl (cZ, 300, .inl (kA A0)))]) (wf := fun _ => [(hq, .inr (1, [.ref hp, .ref h5, .ref h6, .ref aa, .ref ar, .ref ax, .int (iI ((dn : Nat) : Int))])), (hp, .inr (2, [.ref ob, .ref og, .ref ap, .ref al, .ref aq, .int (iI ((cnt : Nat) : Int))])), (aq, .inl (cI, 300, .inl (kA S))), (aa, .inl (cZ, 300, .inl (kA A0))), (ar, .inl (cI, 300, .inl (kA T0)))]) hK hP hD hS hA [0, 4] [1, 2, 3] [3, 0, 1, 2, 4] ⟨⟨rfl, rfl, by decide⟩, rfl, by decide, by decide⟩ (fun _ => ⟨rfl, rfl⟩) (by decide) (fun hPc hDc => va_runV (As := [.int (iI ((k : Nat) : Int))]) (rest := []) ⟨hx, hb, hml, hown, hts⟩ (c_Placer_turnOf l D cI cZ (hq := hq) (hp := hp) (h5 := h5) (h6 := h6) (aa := aa) (ar := ar) (ax := ax) (dn := dn) (T0 := T0) (z := ((k : Nat) : Int)) (hz := by omega) _) (cwV 1 hts (kgV wm438 wm333 wm334 wm43 wmcX1_turnOf) rfl rfl rfl (by decide +kernel) ⟨Nat.le_of_ble_eq_true rfl, Nat.le_of_ble_eq_true rfl⟩) (k_preV hK hPc hDc (ci := 1) (q0 := 0) rfl rfl) rfl rfl hl.1 rfl (lv_room (Nat.le_of_ble_eq_true rfl)) dX1_wantsMemory_13 ⟨Nat.le_of_ble_eq_true rfl, Nat.le_of_ble_eq_true rfl⟩) (fun r13 u H locs hw hP hD hS => ?_)
    have hP : va_P D vwCl [(hq, .inr (1, [.ref hp, .ref h5, .ref h6, .ref aa, .ref ar, .ref ax, .int (iI ((dn : Nat) : Int))])), (hp, .inr (2, [.ref ob, .ref og, .ref ap, .ref al, .ref aq, .int (iI ((cnt : Nat) : Int))])), (aq, .inl (cI, 300, .inl (kA S))), (aa, .inl (cZ, 300, .inl (kA A0))), (ar, .inl (cI, 300, .inl (kA T0)))] H := hP
    have hD : va_D A [(hq, .inr (1, [.ref hp, .ref h5, .ref h6, .ref aa, .ref ar, .ref ax, .int (iI ((dn : Nat) : Int))])), (hp, .inr (2, [.ref ob, .ref og, .ref ap, .ref al, .ref aq, .int (iI ((cnt : Nat) : Int))])), (aq, .inl (cI, 300, .inl (kA S))), (aa, .inl (cZ, 300, .inl (kA A0))), (ar, .inl (cI, 300, .inl (kA T0)))] := hD
    refine W.widen (k := 0) (n := 0) (Nat.le_of_ble_eq_true rfl) (Nat.le_of_ble_eq_true rfl) ?_
    have hw : r13 = iI (rZ T0 300 ((k : Nat) : Int) : Int) := hw
    subst hw
    refine lv_iconst (v := iI (-1 : Int)) hx hb dX1_wantsMemory_16 rfl ?_
    refine lv_icmp_ne (tgt := 32) hx hb dX1_wantsMemory_17 (by decide) (fun c17 => ?_) (fun c17 => ?_)
    · skip
      have c17 := iI_eqF (a := (rZ T0 300 ((k : Nat) : Int) : Int)) (b := (-1 : Int)) c17 (by omega)
      refine lv_iconst (v := iI (0 : Int)) hx hb dX1_wantsMemory_32 rfl ?_
      exact k_zret () hx hb hr (by decide) hlocks hK hP hD hS [0, 1, 2, 3, 4] (by decide) rfl rfl (by first | exact kb1 (by omega) | exact kb0 (by omega)) hAe hQ dX1_wantsMemory_33
    · skip
      have c17 := iI_eqT (a := (rZ T0 300 ((k : Nat) : Int) : Int)) (b := (-1 : Int)) c17 (by omega)
      refine lv_aload_n hx hb dX1_wantsMemory_20 rfl (lv_at hl 0 rfl) ?_
      refine lv_iload_n hx hb dX1_wantsMemory_21 rfl (lv_at hl 1 rfl) ?_
      refine k_calli (wc := [(hq, .inr (1, [.ref hp, .ref h5, .ref h6, .ref aa, .ref ar, .ref ax, .int (iI ((dn : Nat) : Int))])), (aa, .inl (cZ, 300, .inl (kA A0)))]) (wr := [(hp, .inr (2, [.ref ob, .ref og, .ref ap, .ref al, .ref aq, .int (iI ((cnt : Nat) : Int))])), (aq, .inl (cI, 300, .inl (kA S))), (ar, .inl (cI, 300, .inl (kA T0)))]) (wf := fun _ => [(hq, .inr (1, [.ref hp, .ref h5, .ref h6, .ref aa, .ref ar, .ref ax, .int (iI ((dn : Nat) : Int))])), (hp, .inr (2, [.ref ob, .ref og, .ref ap, .ref al, .ref aq, .int (iI ((cnt : Nat) : Int))])), (aq, .inl (cI, 300, .inl (kA S))), (aa, .inl (cZ, 300, .inl (kA A0))), (ar, .inl (cI, 300, .inl (kA T0)))]) hK hP hD hS hA [0, 3] [1, 2, 4] [3, 0, 1, 4, 2] ⟨⟨rfl, rfl, by decide⟩, rfl, by decide, by decide⟩ (fun _ => ⟨rfl, rfl⟩) (by decide) (fun hPc hDc => va_runV (As := [.int (iI ((k : Nat) : Int))]) (rest := []) ⟨hx, hb, hml, hown, hts⟩ (c_Placer_wasPutAside l D cI cZ (hq := hq) (hp := hp) (h5 := h5) (h6 := h6) (aa := aa) (ar := ar) (ax := ax) (dn := dn) (A0 := A0) (z := ((k : Nat) : Int)) (hz := by omega) (hA0 := by omega) _) (cwV 1 hts (kgV wm439 wm329 wm330 wm43 wmcX1_wasPutAside) rfl rfl rfl (by decide +kernel) ⟨Nat.le_of_ble_eq_true rfl, Nat.le_of_ble_eq_true rfl⟩) (k_preV hK hPc hDc (ci := 1) (q0 := 0) rfl rfl) rfl rfl hl.1 rfl (lv_room (Nat.le_of_ble_eq_true rfl)) dX1_wantsMemory_22 ⟨Nat.le_of_ble_eq_true rfl, Nat.le_of_ble_eq_true rfl⟩) (fun r22 u H locs hw hP hD hS => ?_)
      have hP : va_P D vwCl [(hq, .inr (1, [.ref hp, .ref h5, .ref h6, .ref aa, .ref ar, .ref ax, .int (iI ((dn : Nat) : Int))])), (hp, .inr (2, [.ref ob, .ref og, .ref ap, .ref al, .ref aq, .int (iI ((cnt : Nat) : Int))])), (aq, .inl (cI, 300, .inl (kA S))), (aa, .inl (cZ, 300, .inl (kA A0))), (ar, .inl (cI, 300, .inl (kA T0)))] H := hP
      have hD : va_D A [(hq, .inr (1, [.ref hp, .ref h5, .ref h6, .ref aa, .ref ar, .ref ax, .int (iI ((dn : Nat) : Int))])), (hp, .inr (2, [.ref ob, .ref og, .ref ap, .ref al, .ref aq, .int (iI ((cnt : Nat) : Int))])), (aq, .inl (cI, 300, .inl (kA S))), (aa, .inl (cZ, 300, .inl (kA A0))), (ar, .inl (cI, 300, .inl (kA T0)))] := hD
      refine W.widen (k := 0) (n := 0) (Nat.le_of_ble_eq_true rfl) (Nat.le_of_ble_eq_true rfl) ?_
      have hw : r22 = kb (decide ((0 ≤ ((k : Nat) : Int) ∧ ((k : Nat) : Int) < 300) ∧ ¬ A0 ((k : Nat) : Int).toNat = 0)) := hw
      subst hw
      refine lv_if_ne (tgt := 32) hx hb dX1_wantsMemory_25 (by decide) (fun c25 => ?_) (fun c25 => ?_)
      · skip
        have c25 : (0 ≤ ((k : Nat) : Int) ∧ ((k : Nat) : Int) < 300) ∧ ¬ A0 ((k : Nat) : Int).toNat = 0 := of_decide_eq_true (kb_F c25)
        have e2 : ((k : Nat) : Int).toNat = k := rfl
        rw [e2] at c25
        refine lv_iconst (v := iI (0 : Int)) hx hb dX1_wantsMemory_32 rfl ?_
        exact k_zret () hx hb hr (by decide) hlocks hK hP hD hS [0, 1, 2, 3, 4] (by decide) rfl rfl (by first | exact kb1 (by omega) | exact kb0 (by omega)) hAe hQ dX1_wantsMemory_33
      · skip
        have c25 : ¬ ((0 ≤ ((k : Nat) : Int) ∧ ((k : Nat) : Int) < 300) ∧ ¬ A0 ((k : Nat) : Int).toNat = 0) := of_decide_eq_false (kb_T c25)
        have e2 : ((k : Nat) : Int).toNat = k := rfl
        rw [e2] at c25
        refine lv_iconst (v := iI (1 : Int)) hx hb dX1_wantsMemory_28 rfl ?_
        refine lv_goto (tgt := 33) hx hb dX1_wantsMemory_29 (by decide) ?_
        exact k_zret () hx hb hr (by decide) hlocks hK hP hD hS [0, 1, 2, 3, 4] (by decide) rfl rfl (by first | exact kb1 (by omega) | exact kb0 (by omega)) hAe hQ dX1_wantsMemory_33
end
