-- ===== PART A: goes FIRST, ahead of the names: the tables' words, and 'selects' of the private methods out of them =====
/-- a private method of a class that the tables say can be made, by its rows of tables_1 -/
def lw_okq (q : MethodName × Nat) : Prop := (q.1.cls ≠ "java/lang/invoke/MethodHandle" ∧ q.1.cls ≠ "java/lang/invoke/VarHandle") ∧ Cond.instantiable q.1.cls q.2 ∈ tables_1 ∧ Cond.privateMethod q.1 ∈ tables_1 ∧ Cond.instanceMethod q.1 ∈ tables_1
theorem lw_p0 : lw_okq (⟨"RoundedNumbers", "outOfRange", "()I"⟩, 8) := ⟨⟨by decide +kernel, by decide +kernel⟩, List.mem_of_getElem? (i := 8) (by decide +kernel), List.mem_of_getElem? (i := 94) (by decide +kernel), List.mem_of_getElem? (i := 95) (by decide +kernel)⟩
theorem lw_p1 : lw_okq (⟨"RoundedNumbers", "store", "(IJI)V"⟩, 8) := ⟨⟨by decide +kernel, by decide +kernel⟩, List.mem_of_getElem? (i := 8) (by decide +kernel), List.mem_of_getElem? (i := 98) (by decide +kernel), List.mem_of_getElem? (i := 99) (by decide +kernel)⟩
theorem lw_p2 : lw_okq (⟨"RoundedNumbers", "mayTake", "(IIIZ)Z"⟩, 8) := ⟨⟨by decide +kernel, by decide +kernel⟩, List.mem_of_getElem? (i := 8) (by decide +kernel), List.mem_of_getElem? (i := 106) (by decide +kernel), List.mem_of_getElem? (i := 107) (by decide +kernel)⟩
theorem lw_p3 : lw_okq (⟨"RoundedNumbers", "isNarrow", "(I)Z"⟩, 8) := ⟨⟨by decide +kernel, by decide +kernel⟩, List.mem_of_getElem? (i := 8) (by decide +kernel), List.mem_of_getElem? (i := 110) (by decide +kernel), List.mem_of_getElem? (i := 111) (by decide +kernel)⟩
theorem lw_p4 : lw_okq (⟨"RoundedNumbers$Exact", "lift", "()V"⟩, 5) := ⟨⟨by decide +kernel, by decide +kernel⟩, List.mem_of_getElem? (i := 16) (by decide +kernel), List.mem_of_getElem? (i := 130) (by decide +kernel), List.mem_of_getElem? (i := 131) (by decide +kernel)⟩
theorem lw_p5 : lw_okq (⟨"RoundedNumbers$Exact", "length", "()I"⟩, 5) := ⟨⟨by decide +kernel, by decide +kernel⟩, List.mem_of_getElem? (i := 16) (by decide +kernel), List.mem_of_getElem? (i := 134) (by decide +kernel), List.mem_of_getElem? (i := 135) (by decide +kernel)⟩
theorem lw_p6 : lw_okq (⟨"RoundedNumbers$Exact", "shiftDown", "(I)V"⟩, 5) := ⟨⟨by decide +kernel, by decide +kernel⟩, List.mem_of_getElem? (i := 16) (by decide +kernel), List.mem_of_getElem? (i := 139) (by decide +kernel), List.mem_of_getElem? (i := 140) (by decide +kernel)⟩
theorem lw_p7 : lw_okq (⟨"RoundedNumbers$Exact", "shiftUp", "(I)V"⟩, 5) := ⟨⟨by decide +kernel, by decide +kernel⟩, List.mem_of_getElem? (i := 16) (by decide +kernel), List.mem_of_getElem? (i := 143) (by decide +kernel), List.mem_of_getElem? (i := 144) (by decide +kernel)⟩
theorem lw_p8 : lw_okq (⟨"RoundedNumbers$Exact", "takeLesser", "(LRoundedNumbers$Exact;)V"⟩, 5) := ⟨⟨by decide +kernel, by decide +kernel⟩, List.mem_of_getElem? (i := 16) (by decide +kernel), List.mem_of_getElem? (i := 154) (by decide +kernel), List.mem_of_getElem? (i := 155) (by decide +kernel)⟩
theorem lw_p9 : lw_okq (⟨"RoundedNumbers", "finish", "(ILRoundedNumbers$Exact;Z)I"⟩, 8) := ⟨⟨by decide +kernel, by decide +kernel⟩, List.mem_of_getElem? (i := 8) (by decide +kernel), List.mem_of_getElem? (i := 158) (by decide +kernel), List.mem_of_getElem? (i := 159) (by decide +kernel)⟩
theorem lw_p10 : lw_okq (⟨"RoundedNumbers", "put", "(IJII)I"⟩, 8) := ⟨⟨by decide +kernel, by decide +kernel⟩, List.mem_of_getElem? (i := 8) (by decide +kernel), List.mem_of_getElem? (i := 167) (by decide +kernel), List.mem_of_getElem? (i := 168) (by decide +kernel)⟩
theorem lw_p11 : lw_okq (⟨"RoundedNumbers", "productPlus", "(IIIIZ)I"⟩, 8) := ⟨⟨by decide +kernel, by decide +kernel⟩, List.mem_of_getElem? (i := 8) (by decide +kernel), List.mem_of_getElem? (i := 196) (by decide +kernel), List.mem_of_getElem? (i := 197) (by decide +kernel)⟩
theorem lw_p12 : lw_okq (⟨"RoundedNumbers", "isFarGreater", "(II)Z"⟩, 8) := ⟨⟨by decide +kernel, by decide +kernel⟩, List.mem_of_getElem? (i := 8) (by decide +kernel), List.mem_of_getElem? (i := 217) (by decide +kernel), List.mem_of_getElem? (i := 218) (by decide +kernel)⟩
theorem lw_p13 : lw_okq (⟨"RoundedNumbers", "topOf", "(I)I"⟩, 8) := ⟨⟨by decide +kernel, by decide +kernel⟩, List.mem_of_getElem? (i := 8) (by decide +kernel), List.mem_of_getElem? (i := 246) (by decide +kernel), List.mem_of_getElem? (i := 247) (by decide +kernel)⟩
theorem lw_p14 : lw_okq (⟨"RoundedNumbers", "cubeOrder", "(JII)I"⟩, 8) := ⟨⟨by decide +kernel, by decide +kernel⟩, List.mem_of_getElem? (i := 8) (by decide +kernel), List.mem_of_getElem? (i := 256) (by decide +kernel), List.mem_of_getElem? (i := 257) (by decide +kernel)⟩
theorem lw_p15 : lw_okq (⟨"RoundedNumbers", "narrowRegisters", "()I"⟩, 8) := ⟨⟨by decide +kernel, by decide +kernel⟩, List.mem_of_getElem? (i := 8) (by decide +kernel), List.mem_of_getElem? (i := 305) (by decide +kernel), List.mem_of_getElem? (i := 306) (by decide +kernel)⟩
def lw_privs_1 : List (MethodName × Nat) := [(⟨"RoundedNumbers", "outOfRange", "()I"⟩, 8), (⟨"RoundedNumbers", "store", "(IJI)V"⟩, 8), (⟨"RoundedNumbers", "mayTake", "(IIIZ)Z"⟩, 8), (⟨"RoundedNumbers", "isNarrow", "(I)Z"⟩, 8), (⟨"RoundedNumbers$Exact", "lift", "()V"⟩, 5), (⟨"RoundedNumbers$Exact", "length", "()I"⟩, 5), (⟨"RoundedNumbers$Exact", "shiftDown", "(I)V"⟩, 5), (⟨"RoundedNumbers$Exact", "shiftUp", "(I)V"⟩, 5), (⟨"RoundedNumbers$Exact", "takeLesser", "(LRoundedNumbers$Exact;)V"⟩, 5), (⟨"RoundedNumbers", "finish", "(ILRoundedNumbers$Exact;Z)I"⟩, 8), (⟨"RoundedNumbers", "put", "(IJII)I"⟩, 8), (⟨"RoundedNumbers", "productPlus", "(IIIIZ)I"⟩, 8), (⟨"RoundedNumbers", "isFarGreater", "(II)Z"⟩, 8), (⟨"RoundedNumbers", "topOf", "(I)I"⟩, 8), (⟨"RoundedNumbers", "cubeOrder", "(JII)I"⟩, 8), (⟨"RoundedNumbers", "narrowRegisters", "()I"⟩, 8)]
theorem lw_r1 : ∀ q ∈ lw_privs_1, lw_okq q := List.forall_mem_cons.mpr ⟨lw_p0, List.forall_mem_cons.mpr ⟨lw_p1, List.forall_mem_cons.mpr ⟨lw_p2, List.forall_mem_cons.mpr ⟨lw_p3, List.forall_mem_cons.mpr ⟨lw_p4, List.forall_mem_cons.mpr ⟨lw_p5, List.forall_mem_cons.mpr ⟨lw_p6, List.forall_mem_cons.mpr ⟨lw_p7, List.forall_mem_cons.mpr ⟨lw_p8, List.forall_mem_cons.mpr ⟨lw_p9, List.forall_mem_cons.mpr ⟨lw_p10, List.forall_mem_cons.mpr ⟨lw_p11, List.forall_mem_cons.mpr ⟨lw_p12, List.forall_mem_cons.mpr ⟨lw_p13, List.forall_mem_cons.mpr ⟨lw_p14, List.forall_mem_cons.mpr ⟨lw_p15, fun _ h => absurd h List.not_mem_nil⟩⟩⟩⟩⟩⟩⟩⟩⟩⟩⟩⟩⟩⟩⟩⟩
theorem lw_p16 : lw_okq (⟨"RoundedNumbersModel", "range", "()I"⟩, 11) := ⟨⟨by decide +kernel, by decide +kernel⟩, List.mem_of_getElem? (i := 309) (by decide +kernel), List.mem_of_getElem? (i := 365) (by decide +kernel), List.mem_of_getElem? (i := 366) (by decide +kernel)⟩
theorem lw_p17 : lw_okq (⟨"RoundedNumbersModel", "store", "(IZJI)V"⟩, 11) := ⟨⟨by decide +kernel, by decide +kernel⟩, List.mem_of_getElem? (i := 309) (by decide +kernel), List.mem_of_getElem? (i := 369) (by decide +kernel), List.mem_of_getElem? (i := 370) (by decide +kernel)⟩
theorem lw_p18 : lw_okq (⟨"RoundedNumbersModel", "addition", "(IIIZZ)I"⟩, 11) := ⟨⟨by decide +kernel, by decide +kernel⟩, List.mem_of_getElem? (i := 309) (by decide +kernel), List.mem_of_getElem? (i := 378) (by decide +kernel), List.mem_of_getElem? (i := 379) (by decide +kernel)⟩
theorem lw_p19 : lw_okq (⟨"RoundedNumbersModel", "refused", "(IIIZ)Z"⟩, 11) := ⟨⟨by decide +kernel, by decide +kernel⟩, List.mem_of_getElem? (i := 309) (by decide +kernel), List.mem_of_getElem? (i := 382) (by decide +kernel), List.mem_of_getElem? (i := 383) (by decide +kernel)⟩
theorem lw_p20 : lw_okq (⟨"RoundedNumbersModel", "narrow", "(I)Z"⟩, 11) := ⟨⟨by decide +kernel, by decide +kernel⟩, List.mem_of_getElem? (i := 309) (by decide +kernel), List.mem_of_getElem? (i := 386) (by decide +kernel), List.mem_of_getElem? (i := 387) (by decide +kernel)⟩
theorem lw_p21 : lw_okq (⟨"RoundedNumbersModel", "sum", "(IZZI)I"⟩, 11) := ⟨⟨by decide +kernel, by decide +kernel⟩, List.mem_of_getElem? (i := 309) (by decide +kernel), List.mem_of_getElem? (i := 404) (by decide +kernel), List.mem_of_getElem? (i := 405) (by decide +kernel)⟩
theorem lw_p22 : lw_okq (⟨"RoundedNumbersModel", "takeTop", "([II)V"⟩, 11) := ⟨⟨by decide +kernel, by decide +kernel⟩, List.mem_of_getElem? (i := 309) (by decide +kernel), List.mem_of_getElem? (i := 415) (by decide +kernel), List.mem_of_getElem? (i := 416) (by decide +kernel)⟩
theorem lw_p23 : lw_okq (⟨"RoundedNumbersModel", "round", "(IZI)I"⟩, 11) := ⟨⟨by decide +kernel, by decide +kernel⟩, List.mem_of_getElem? (i := 309) (by decide +kernel), List.mem_of_getElem? (i := 419) (by decide +kernel), List.mem_of_getElem? (i := 420) (by decide +kernel)⟩
theorem lw_p24 : lw_okq (⟨"RoundedNumbersModel", "finish", "(IZJII)I"⟩, 11) := ⟨⟨by decide +kernel, by decide +kernel⟩, List.mem_of_getElem? (i := 309) (by decide +kernel), List.mem_of_getElem? (i := 423) (by decide +kernel), List.mem_of_getElem? (i := 424) (by decide +kernel)⟩
theorem lw_p25 : lw_okq (⟨"RoundedNumbersModel", "fused", "(IIIII)I"⟩, 11) := ⟨⟨by decide +kernel, by decide +kernel⟩, List.mem_of_getElem? (i := 309) (by decide +kernel), List.mem_of_getElem? (i := 435) (by decide +kernel), List.mem_of_getElem? (i := 436) (by decide +kernel)⟩
theorem lw_p26 : lw_okq (⟨"RoundedNumbersModel", "compareSizes", "(III)I"⟩, 11) := ⟨⟨by decide +kernel, by decide +kernel⟩, List.mem_of_getElem? (i := 309) (by decide +kernel), List.mem_of_getElem? (i := 465) (by decide +kernel), List.mem_of_getElem? (i := 466) (by decide +kernel)⟩
theorem lw_p27 : lw_okq (⟨"RoundedNumbersModel", "toward", "(IZJI)I"⟩, 11) := ⟨⟨by decide +kernel, by decide +kernel⟩, List.mem_of_getElem? (i := 309) (by decide +kernel), List.mem_of_getElem? (i := 481) (by decide +kernel), List.mem_of_getElem? (i := 482) (by decide +kernel)⟩
theorem lw_p28 : lw_okq (⟨"RoundedNumbersModel", "cubeAgainst", "(JII)I"⟩, 11) := ⟨⟨by decide +kernel, by decide +kernel⟩, List.mem_of_getElem? (i := 309) (by decide +kernel), List.mem_of_getElem? (i := 489) (by decide +kernel), List.mem_of_getElem? (i := 490) (by decide +kernel)⟩
theorem lw_p29 : lw_okq (⟨"RoundedNumbersModel", "cube", "(JI)V"⟩, 11) := ⟨⟨by decide +kernel, by decide +kernel⟩, List.mem_of_getElem? (i := 309) (by decide +kernel), List.mem_of_getElem? (i := 493) (by decide +kernel), List.mem_of_getElem? (i := 494) (by decide +kernel)⟩
def lw_privs_2 : List (MethodName × Nat) := [(⟨"RoundedNumbersModel", "range", "()I"⟩, 11), (⟨"RoundedNumbersModel", "store", "(IZJI)V"⟩, 11), (⟨"RoundedNumbersModel", "addition", "(IIIZZ)I"⟩, 11), (⟨"RoundedNumbersModel", "refused", "(IIIZ)Z"⟩, 11), (⟨"RoundedNumbersModel", "narrow", "(I)Z"⟩, 11), (⟨"RoundedNumbersModel", "sum", "(IZZI)I"⟩, 11), (⟨"RoundedNumbersModel", "takeTop", "([II)V"⟩, 11), (⟨"RoundedNumbersModel", "round", "(IZI)I"⟩, 11), (⟨"RoundedNumbersModel", "finish", "(IZJII)I"⟩, 11), (⟨"RoundedNumbersModel", "fused", "(IIIII)I"⟩, 11), (⟨"RoundedNumbersModel", "compareSizes", "(III)I"⟩, 11), (⟨"RoundedNumbersModel", "toward", "(IZJI)I"⟩, 11), (⟨"RoundedNumbersModel", "cubeAgainst", "(JII)I"⟩, 11), (⟨"RoundedNumbersModel", "cube", "(JI)V"⟩, 11)]
theorem lw_r2 : ∀ q ∈ lw_privs_2, lw_okq q := List.forall_mem_cons.mpr ⟨lw_p16, List.forall_mem_cons.mpr ⟨lw_p17, List.forall_mem_cons.mpr ⟨lw_p18, List.forall_mem_cons.mpr ⟨lw_p19, List.forall_mem_cons.mpr ⟨lw_p20, List.forall_mem_cons.mpr ⟨lw_p21, List.forall_mem_cons.mpr ⟨lw_p22, List.forall_mem_cons.mpr ⟨lw_p23, List.forall_mem_cons.mpr ⟨lw_p24, List.forall_mem_cons.mpr ⟨lw_p25, List.forall_mem_cons.mpr ⟨lw_p26, List.forall_mem_cons.mpr ⟨lw_p27, List.forall_mem_cons.mpr ⟨lw_p28, List.forall_mem_cons.mpr ⟨lw_p29, fun _ h => absurd h List.not_mem_nil⟩⟩⟩⟩⟩⟩⟩⟩⟩⟩⟩⟩⟩⟩
def lw_privs : List (MethodName × Nat) := lw_privs_1 ++ (lw_privs_2)
def lw_tbl : List Cond := k2_sels lw_privs ++ tables_1
theorem lw_privs_ok : ∀ q ∈ lw_privs, lw_okq q := by
  show ∀ q ∈ lw_privs_1 ++ (lw_privs_2), lw_okq q
  exact List.forall_mem_append.mpr ⟨lw_r1, lw_r2⟩
def tb : List Cond := lw_tbl.filter goodWord
theorem gI {ws : List Cond} (h : ∀ w ∈ ws, w ∈ tb) : GoodIn tb ws := fun w hw => ⟨h w hw, good_of_word (List.mem_filter.mp (h w hw)).2⟩
theorem gw {c : Cond} (h : c ∈ tb) : GoodIn tb (c :: tb) := gI fun w hw => (List.mem_cons.mp hw).elim (fun e => e ▸ h) id
theorem gV {own C : String} {idx : Nat} {y : MethodName} {ws : List Cond} (h1 : Cond.methodLink own idx y ∈ tb) (h2 : Cond.instanceMethod y ∈ tb) (h3 : Cond.selects C y y ∈ tb) (h4 : Cond.initialized C ∈ tb) (h : GoodIn tb ws) : GoodIn tb (wsV own idx C y ws) :=
  gI fun w hw => by
    simp only [wsV, List.cons_append, List.nil_append, List.mem_cons] at hw
    rcases hw with rfl | rfl | rfl | rfl | hw
    · exact h1
    · exact h2
    · exact h3
    · exact h4
    · exact (h w hw).1
theorem gS {own : String} {idx : Nat} {y : MethodName} {ws : List Cond} (h1 : Cond.methodLink own idx y ∈ tb) (h2 : Cond.static y ∈ tb) (h3 : Cond.initialized own ∈ tb) (h : GoodIn tb ws) : GoodIn tb (wsS own idx y ws) :=
  gI fun w hw => by
    simp only [wsS, List.cons_append, List.nil_append, List.mem_cons] at hw
    rcases hw with rfl | rfl | rfl | hw
    · exact h1
    · exact h2
    · exact h3
    · exact (h w hw).1
theorem gSj {own : String} {idx : Nat} {y : MethodName} {ws : List Cond} (h1 : Cond.methodLink own idx y ∈ tb) (h2 : Cond.static y ∈ tb) (h3 : Cond.initialized y.cls ∈ tb) (h : GoodIn tb ws) : GoodIn tb (va_wsS own idx y ws) :=
  gI fun w hw => by
    simp only [va_wsS, List.cons_append, List.nil_append, List.mem_cons] at hw
    rcases hw with rfl | rfl | rfl | hw
    · exact h1
    · exact h2
    · exact h3
    · exact (h w hw).1
set_option maxRecDepth 20000 in
theorem tw_92 : (Jvm.Cond.constant "java/lang/Integer" (264 : Nat) (65536 : Int32)) ∈ tb := List.mem_filter.mpr ⟨List.mem_append_right _ (List.mem_of_getElem? (i := 92) (by decide +kernel)), rfl⟩
set_option maxRecDepth 20000 in
theorem tw_91 : (Jvm.Cond.code ({ cls := "java/lang/Integer", name := "numberOfLeadingZeros", desc := "(I)I" } : Jvm.MethodName) prog_5_method_47_code (2 : Nat) (Option.some Jvm.ClassFile.FieldType.int)) ∈ tb := List.mem_filter.mpr ⟨List.mem_append_right _ (List.mem_of_getElem? (i := 91) rfl), rfl⟩
set_option maxRecDepth 20000 in
theorem tw_89 : (Jvm.Cond.methodLink "java/lang/Long" (308 : Nat) ({ cls := "java/lang/Integer", name := "numberOfLeadingZeros", desc := "(I)I" } : Jvm.MethodName)) ∈ tb := List.mem_filter.mpr ⟨List.mem_append_right _ (List.mem_of_getElem? (i := 89) (by decide +kernel)), rfl⟩
set_option maxRecDepth 20000 in
theorem tw_90 : (Jvm.Cond.static ({ cls := "java/lang/Integer", name := "numberOfLeadingZeros", desc := "(I)I" } : Jvm.MethodName)) ∈ tb := List.mem_filter.mpr ⟨List.mem_append_right _ (List.mem_of_getElem? (i := 90) (by decide +kernel)), rfl⟩
set_option maxRecDepth 20000 in
theorem tw_6 : (Jvm.Cond.initialized "java/lang/Integer") ∈ tb := List.mem_filter.mpr ⟨List.mem_append_right _ (List.mem_of_getElem? (i := 6) (by decide +kernel)), rfl⟩
set_option maxRecDepth 20000 in
theorem tw_278 : (Jvm.Cond.code ({ cls := "java/lang/Integer", name := "numberOfTrailingZeros", desc := "(I)I" } : Jvm.MethodName) prog_5_method_48_code (2 : Nat) (Option.some Jvm.ClassFile.FieldType.int)) ∈ tb := List.mem_filter.mpr ⟨List.mem_append_right _ (List.mem_of_getElem? (i := 278) rfl), rfl⟩
set_option maxRecDepth 20000 in
theorem tw_276 : (Jvm.Cond.methodLink "java/lang/Long" (311 : Nat) ({ cls := "java/lang/Integer", name := "numberOfTrailingZeros", desc := "(I)I" } : Jvm.MethodName)) ∈ tb := List.mem_filter.mpr ⟨List.mem_append_right _ (List.mem_of_getElem? (i := 276) (by decide +kernel)), rfl⟩
set_option maxRecDepth 20000 in
theorem tw_277 : (Jvm.Cond.static ({ cls := "java/lang/Integer", name := "numberOfTrailingZeros", desc := "(I)I" } : Jvm.MethodName)) ∈ tb := List.mem_filter.mpr ⟨List.mem_append_right _ (List.mem_of_getElem? (i := 277) (by decide +kernel)), rfl⟩
set_option maxRecDepth 20000 in
theorem tw_242 : (Jvm.Cond.constantLong "java/lang/Long" (314 : Nat) (6148914691236517205 : Int64)) ∈ tb := List.mem_filter.mpr ⟨List.mem_append_right _ (List.mem_of_getElem? (i := 242) (by decide +kernel)), rfl⟩
set_option maxRecDepth 20000 in
theorem tw_243 : (Jvm.Cond.constantLong "java/lang/Long" (316 : Nat) (3689348814741910323 : Int64)) ∈ tb := List.mem_filter.mpr ⟨List.mem_append_right _ (List.mem_of_getElem? (i := 243) (by decide +kernel)), rfl⟩
set_option maxRecDepth 20000 in
theorem tw_244 : (Jvm.Cond.constantLong "java/lang/Long" (318 : Nat) (1085102592571150095 : Int64)) ∈ tb := List.mem_filter.mpr ⟨List.mem_append_right _ (List.mem_of_getElem? (i := 244) (by decide +kernel)), rfl⟩
set_option maxRecDepth 20000 in
theorem tw_149 : (Jvm.Cond.constantLong "java/lang/Long" (168 : Nat) (-9223372036854775808 : Int64)) ∈ tb := List.mem_filter.mpr ⟨List.mem_append_right _ (List.mem_of_getElem? (i := 149) (by decide +kernel)), rfl⟩
set_option maxRecDepth 20000 in
theorem tw_152 : (Jvm.Cond.code ({ cls := "java/lang/Long", name := "compare", desc := "(JJ)I" } : Jvm.MethodName) prog_6_method_42_code (4 : Nat) (Option.some Jvm.ClassFile.FieldType.int)) ∈ tb := List.mem_filter.mpr ⟨List.mem_append_right _ (List.mem_of_getElem? (i := 152) rfl), rfl⟩
set_option maxRecDepth 20000 in
theorem tw_150 : (Jvm.Cond.methodLink "java/lang/Long" (302 : Nat) ({ cls := "java/lang/Long", name := "compare", desc := "(JJ)I" } : Jvm.MethodName)) ∈ tb := List.mem_filter.mpr ⟨List.mem_append_right _ (List.mem_of_getElem? (i := 150) (by decide +kernel)), rfl⟩
set_option maxRecDepth 20000 in
theorem tw_151 : (Jvm.Cond.static ({ cls := "java/lang/Long", name := "compare", desc := "(JJ)I" } : Jvm.MethodName)) ∈ tb := List.mem_filter.mpr ⟨List.mem_append_right _ (List.mem_of_getElem? (i := 151) (by decide +kernel)), rfl⟩
set_option maxRecDepth 20000 in
theorem tw_5 : (Jvm.Cond.initialized "java/lang/Long") ∈ tb := List.mem_filter.mpr ⟨List.mem_append_right _ (List.mem_of_getElem? (i := 5) (by decide +kernel)), rfl⟩
set_option maxRecDepth 20000 in
theorem tw_120 : (Jvm.Cond.code ({ cls := "java/lang/Long", name := "signum", desc := "(J)I" } : Jvm.MethodName) prog_6_method_57_code (2 : Nat) (Option.some Jvm.ClassFile.FieldType.int)) ∈ tb := List.mem_filter.mpr ⟨List.mem_append_right _ (List.mem_of_getElem? (i := 120) rfl), rfl⟩
set_option maxRecDepth 20000 in
theorem tw_118 : (Jvm.Cond.methodLink "RoundedNumbers$Exact" (9 : Nat) ({ cls := "java/lang/Long", name := "signum", desc := "(J)I" } : Jvm.MethodName)) ∈ tb := List.mem_filter.mpr ⟨List.mem_append_right _ (List.mem_of_getElem? (i := 118) (by decide +kernel)), rfl⟩
set_option maxRecDepth 20000 in
theorem tw_119 : (Jvm.Cond.static ({ cls := "java/lang/Long", name := "signum", desc := "(J)I" } : Jvm.MethodName)) ∈ tb := List.mem_filter.mpr ⟨List.mem_append_right _ (List.mem_of_getElem? (i := 119) (by decide +kernel)), rfl⟩
set_option maxRecDepth 20000 in
theorem tw_21 : (Jvm.Cond.fieldLink "RoundedNumbers$Exact" (15 : Nat) "RoundedNumbers$Exact" "sign" "I") ∈ tb := List.mem_filter.mpr ⟨List.mem_append_right _ (List.mem_of_getElem? (i := 21) (by decide +kernel)), rfl⟩
set_option maxRecDepth 20000 in
theorem tw_23 : (Jvm.Cond.fieldLink "RoundedNumbers$Exact" (19 : Nat) "RoundedNumbers$Exact" "high" "J") ∈ tb := List.mem_filter.mpr ⟨List.mem_append_right _ (List.mem_of_getElem? (i := 23) (by decide +kernel)), rfl⟩
set_option maxRecDepth 20000 in
theorem tw_121 : (Jvm.Cond.methodLink "RoundedNumbers$Exact" (23 : Nat) ({ cls := "java/lang/Math", name := "abs", desc := "(J)J" } : Jvm.MethodName)) ∈ tb := List.mem_filter.mpr ⟨List.mem_append_right _ (List.mem_of_getElem? (i := 121) (by decide +kernel)), rfl⟩
set_option maxRecDepth 20000 in
theorem tw_81 : (Jvm.Cond.static ({ cls := "java/lang/Math", name := "abs", desc := "(J)J" } : Jvm.MethodName)) ∈ tb := List.mem_filter.mpr ⟨List.mem_append_right _ (List.mem_of_getElem? (i := 81) (by decide +kernel)), rfl⟩
set_option maxRecDepth 20000 in
theorem tw_4 : (Jvm.Cond.initialized "java/lang/Math") ∈ tb := List.mem_filter.mpr ⟨List.mem_append_right _ (List.mem_of_getElem? (i := 4) (by decide +kernel)), rfl⟩
set_option maxRecDepth 20000 in
theorem tw_82 : (Jvm.Cond.code ({ cls := "java/lang/Math", name := "abs", desc := "(J)J" } : Jvm.MethodName) prog_7_method_61_code (2 : Nat) (Option.some Jvm.ClassFile.FieldType.long)) ∈ tb := List.mem_filter.mpr ⟨List.mem_append_right _ (List.mem_of_getElem? (i := 82) rfl), rfl⟩
set_option maxRecDepth 20000 in
theorem tw_25 : (Jvm.Cond.fieldLink "RoundedNumbers$Exact" (29 : Nat) "RoundedNumbers$Exact" "low" "J") ∈ tb := List.mem_filter.mpr ⟨List.mem_append_right _ (List.mem_of_getElem? (i := 25) (by decide +kernel)), rfl⟩
set_option maxRecDepth 20000 in
theorem tw_27 : (Jvm.Cond.fieldLink "RoundedNumbers$Exact" (32 : Nat) "RoundedNumbers$Exact" "place" "I") ∈ tb := List.mem_filter.mpr ⟨List.mem_append_right _ (List.mem_of_getElem? (i := 27) (by decide +kernel)), rfl⟩
set_option maxRecDepth 20000 in
theorem tw_29 : (Jvm.Cond.fieldLink "RoundedNumbers$Exact" (35 : Nat) "RoundedNumbers$Exact" "more" "Z") ∈ tb := List.mem_filter.mpr ⟨List.mem_append_right _ (List.mem_of_getElem? (i := 29) (by decide +kernel)), rfl⟩
set_option maxRecDepth 20000 in
theorem tw_182 : (Jvm.Cond.constantLong "RoundedNumbers$Exact" (39 : Nat) (4294967295 : Int64)) ∈ tb := List.mem_filter.mpr ⟨List.mem_append_right _ (List.mem_of_getElem? (i := 182) (by decide +kernel)), rfl⟩
set_option maxRecDepth 20000 in
theorem tw_211 : (Jvm.Cond.constantLong "RoundedNumbers$Exact" (41 : Nat) (3 : Int64)) ∈ tb := List.mem_filter.mpr ⟨List.mem_append_right _ (List.mem_of_getElem? (i := 211) (by decide +kernel)), rfl⟩
set_option maxRecDepth 20000 in
theorem tw_88 : (Jvm.Cond.code ({ cls := "java/lang/Long", name := "numberOfLeadingZeros", desc := "(J)I" } : Jvm.MethodName) prog_6_method_48_code (3 : Nat) (Option.some Jvm.ClassFile.FieldType.int)) ∈ tb := List.mem_filter.mpr ⟨List.mem_append_right _ (List.mem_of_getElem? (i := 88) rfl), rfl⟩
set_option maxRecDepth 20000 in
theorem tw_137 : (Jvm.Cond.methodLink "RoundedNumbers$Exact" (68 : Nat) ({ cls := "java/lang/Long", name := "numberOfLeadingZeros", desc := "(J)I" } : Jvm.MethodName)) ∈ tb := List.mem_filter.mpr ⟨List.mem_append_right _ (List.mem_of_getElem? (i := 137) (by decide +kernel)), rfl⟩
set_option maxRecDepth 20000 in
theorem tw_87 : (Jvm.Cond.static ({ cls := "java/lang/Long", name := "numberOfLeadingZeros", desc := "(J)I" } : Jvm.MethodName)) ∈ tb := List.mem_filter.mpr ⟨List.mem_append_right _ (List.mem_of_getElem? (i := 87) (by decide +kernel)), rfl⟩
set_option maxRecDepth 20000 in
theorem tw_136 : (Jvm.Cond.code ({ cls := "RoundedNumbers$Exact", name := "length", desc := "()I" } : Jvm.MethodName) prog_2_method_10_code (1 : Nat) (Option.some Jvm.ClassFile.FieldType.int)) ∈ tb := List.mem_filter.mpr ⟨List.mem_append_right _ (List.mem_of_getElem? (i := 136) rfl), rfl⟩
set_option maxRecDepth 20000 in
theorem tw_133 : (Jvm.Cond.methodLink "RoundedNumbers$Exact" (62 : Nat) ({ cls := "RoundedNumbers$Exact", name := "length", desc := "()I" } : Jvm.MethodName)) ∈ tb := List.mem_filter.mpr ⟨List.mem_append_right _ (List.mem_of_getElem? (i := 133) (by decide +kernel)), rfl⟩
set_option maxRecDepth 20000 in
theorem tw_135 : (Jvm.Cond.instanceMethod ({ cls := "RoundedNumbers$Exact", name := "length", desc := "()I" } : Jvm.MethodName)) ∈ tb := List.mem_filter.mpr ⟨List.mem_append_right _ (List.mem_of_getElem? (i := 135) (by decide +kernel)), rfl⟩
theorem ts_5 : (Jvm.Cond.selects "RoundedNumbers$Exact" ({ cls := "RoundedNumbers$Exact", name := "length", desc := "()I" } : Jvm.MethodName) ({ cls := "RoundedNumbers$Exact", name := "length", desc := "()I" } : Jvm.MethodName)) ∈ tb := List.mem_filter.mpr ⟨List.mem_append_left _ (List.mem_of_getElem? (i := 5) (by decide +kernel)), rfl⟩
set_option maxRecDepth 20000 in
theorem tw_2 : (Jvm.Cond.initialized "RoundedNumbers$Exact") ∈ tb := List.mem_filter.mpr ⟨List.mem_append_right _ (List.mem_of_getElem? (i := 2) (by decide +kernel)), rfl⟩
set_option maxRecDepth 20000 in
theorem tw_145 : (Jvm.Cond.code ({ cls := "RoundedNumbers$Exact", name := "shiftUp", desc := "(I)V" } : Jvm.MethodName) prog_2_method_12_code (2 : Nat) (Option.none : Option Jvm.ClassFile.FieldType)) ∈ tb := List.mem_filter.mpr ⟨List.mem_append_right _ (List.mem_of_getElem? (i := 145) rfl), rfl⟩
set_option maxRecDepth 20000 in
theorem tw_142 : (Jvm.Cond.methodLink "RoundedNumbers$Exact" (71 : Nat) ({ cls := "RoundedNumbers$Exact", name := "shiftUp", desc := "(I)V" } : Jvm.MethodName)) ∈ tb := List.mem_filter.mpr ⟨List.mem_append_right _ (List.mem_of_getElem? (i := 142) (by decide +kernel)), rfl⟩
set_option maxRecDepth 20000 in
theorem tw_144 : (Jvm.Cond.instanceMethod ({ cls := "RoundedNumbers$Exact", name := "shiftUp", desc := "(I)V" } : Jvm.MethodName)) ∈ tb := List.mem_filter.mpr ⟨List.mem_append_right _ (List.mem_of_getElem? (i := 144) (by decide +kernel)), rfl⟩
theorem ts_7 : (Jvm.Cond.selects "RoundedNumbers$Exact" ({ cls := "RoundedNumbers$Exact", name := "shiftUp", desc := "(I)V" } : Jvm.MethodName) ({ cls := "RoundedNumbers$Exact", name := "shiftUp", desc := "(I)V" } : Jvm.MethodName)) ∈ tb := List.mem_filter.mpr ⟨List.mem_append_left _ (List.mem_of_getElem? (i := 7) (by decide +kernel)), rfl⟩
set_option maxRecDepth 20000 in
theorem tw_141 : (Jvm.Cond.code ({ cls := "RoundedNumbers$Exact", name := "shiftDown", desc := "(I)V" } : Jvm.MethodName) prog_2_method_13_code (2 : Nat) (Option.none : Option Jvm.ClassFile.FieldType)) ∈ tb := List.mem_filter.mpr ⟨List.mem_append_right _ (List.mem_of_getElem? (i := 141) rfl), rfl⟩
set_option maxRecDepth 20000 in
theorem tw_138 : (Jvm.Cond.methodLink "RoundedNumbers$Exact" (58 : Nat) ({ cls := "RoundedNumbers$Exact", name := "shiftDown", desc := "(I)V" } : Jvm.MethodName)) ∈ tb := List.mem_filter.mpr ⟨List.mem_append_right _ (List.mem_of_getElem? (i := 138) (by decide +kernel)), rfl⟩
set_option maxRecDepth 20000 in
theorem tw_140 : (Jvm.Cond.instanceMethod ({ cls := "RoundedNumbers$Exact", name := "shiftDown", desc := "(I)V" } : Jvm.MethodName)) ∈ tb := List.mem_filter.mpr ⟨List.mem_append_right _ (List.mem_of_getElem? (i := 140) (by decide +kernel)), rfl⟩
theorem ts_6 : (Jvm.Cond.selects "RoundedNumbers$Exact" ({ cls := "RoundedNumbers$Exact", name := "shiftDown", desc := "(I)V" } : Jvm.MethodName) ({ cls := "RoundedNumbers$Exact", name := "shiftDown", desc := "(I)V" } : Jvm.MethodName)) ∈ tb := List.mem_filter.mpr ⟨List.mem_append_left _ (List.mem_of_getElem? (i := 6) (by decide +kernel)), rfl⟩
set_option maxRecDepth 20000 in
theorem tw_165 : (Jvm.Cond.constantLong "RoundedNumbers$Exact" (66 : Nat) (2 : Int64)) ∈ tb := List.mem_filter.mpr ⟨List.mem_append_right _ (List.mem_of_getElem? (i := 165) (by decide +kernel)), rfl⟩
set_option maxRecDepth 20000 in
theorem tw_132 : (Jvm.Cond.code ({ cls := "RoundedNumbers$Exact", name := "lift", desc := "()V" } : Jvm.MethodName) prog_2_method_11_code (2 : Nat) (Option.none : Option Jvm.ClassFile.FieldType)) ∈ tb := List.mem_filter.mpr ⟨List.mem_append_right _ (List.mem_of_getElem? (i := 132) rfl), rfl⟩
set_option maxRecDepth 20000 in
theorem tw_129 : (Jvm.Cond.methodLink "RoundedNumbers$Exact" (51 : Nat) ({ cls := "RoundedNumbers$Exact", name := "lift", desc := "()V" } : Jvm.MethodName)) ∈ tb := List.mem_filter.mpr ⟨List.mem_append_right _ (List.mem_of_getElem? (i := 129) (by decide +kernel)), rfl⟩
set_option maxRecDepth 20000 in
theorem tw_131 : (Jvm.Cond.instanceMethod ({ cls := "RoundedNumbers$Exact", name := "lift", desc := "()V" } : Jvm.MethodName)) ∈ tb := List.mem_filter.mpr ⟨List.mem_append_right _ (List.mem_of_getElem? (i := 131) (by decide +kernel)), rfl⟩
theorem ts_4 : (Jvm.Cond.selects "RoundedNumbers$Exact" ({ cls := "RoundedNumbers$Exact", name := "lift", desc := "()V" } : Jvm.MethodName) ({ cls := "RoundedNumbers$Exact", name := "lift", desc := "()V" } : Jvm.MethodName)) ∈ tb := List.mem_filter.mpr ⟨List.mem_append_left _ (List.mem_of_getElem? (i := 4) (by decide +kernel)), rfl⟩
set_option maxRecDepth 20000 in
theorem tw_148 : (Jvm.Cond.code ({ cls := "java/lang/Long", name := "compareUnsigned", desc := "(JJ)I" } : Jvm.MethodName) prog_6_method_43_code (4 : Nat) (Option.some Jvm.ClassFile.FieldType.int)) ∈ tb := List.mem_filter.mpr ⟨List.mem_append_right _ (List.mem_of_getElem? (i := 148) rfl), rfl⟩
set_option maxRecDepth 20000 in
theorem tw_146 : (Jvm.Cond.methodLink "RoundedNumbers$Exact" (54 : Nat) ({ cls := "java/lang/Long", name := "compareUnsigned", desc := "(JJ)I" } : Jvm.MethodName)) ∈ tb := List.mem_filter.mpr ⟨List.mem_append_right _ (List.mem_of_getElem? (i := 146) (by decide +kernel)), rfl⟩
set_option maxRecDepth 20000 in
theorem tw_147 : (Jvm.Cond.static ({ cls := "java/lang/Long", name := "compareUnsigned", desc := "(JJ)I" } : Jvm.MethodName)) ∈ tb := List.mem_filter.mpr ⟨List.mem_append_right _ (List.mem_of_getElem? (i := 147) (by decide +kernel)), rfl⟩
set_option maxRecDepth 20000 in
theorem tw_128 : (Jvm.Cond.code ({ cls := "RoundedNumbers$Exact", name := "sizeOrder", desc := "(LRoundedNumbers$Exact;)I" } : Jvm.MethodName) prog_2_method_7_code (2 : Nat) (Option.some Jvm.ClassFile.FieldType.int)) ∈ tb := List.mem_filter.mpr ⟨List.mem_append_right _ (List.mem_of_getElem? (i := 128) rfl), rfl⟩
set_option maxRecDepth 20000 in
theorem tw_125 : (Jvm.Cond.methodLink "RoundedNumbers$Exact" (43 : Nat) ({ cls := "RoundedNumbers$Exact", name := "sizeOrder", desc := "(LRoundedNumbers$Exact;)I" } : Jvm.MethodName)) ∈ tb := List.mem_filter.mpr ⟨List.mem_append_right _ (List.mem_of_getElem? (i := 125) (by decide +kernel)), rfl⟩
set_option maxRecDepth 20000 in
theorem tw_126 : (Jvm.Cond.instanceMethod ({ cls := "RoundedNumbers$Exact", name := "sizeOrder", desc := "(LRoundedNumbers$Exact;)I" } : Jvm.MethodName)) ∈ tb := List.mem_filter.mpr ⟨List.mem_append_right _ (List.mem_of_getElem? (i := 126) (by decide +kernel)), rfl⟩
set_option maxRecDepth 20000 in
theorem tw_127 : (Jvm.Cond.selects "RoundedNumbers$Exact" ({ cls := "RoundedNumbers$Exact", name := "sizeOrder", desc := "(LRoundedNumbers$Exact;)I" } : Jvm.MethodName) ({ cls := "RoundedNumbers$Exact", name := "sizeOrder", desc := "(LRoundedNumbers$Exact;)I" } : Jvm.MethodName)) ∈ tb := List.mem_filter.mpr ⟨List.mem_append_right _ (List.mem_of_getElem? (i := 127) (by decide +kernel)), rfl⟩
set_option maxRecDepth 20000 in
theorem tw_156 : (Jvm.Cond.code ({ cls := "RoundedNumbers$Exact", name := "takeLesser", desc := "(LRoundedNumbers$Exact;)V" } : Jvm.MethodName) prog_2_method_8_code (2 : Nat) (Option.none : Option Jvm.ClassFile.FieldType)) ∈ tb := List.mem_filter.mpr ⟨List.mem_append_right _ (List.mem_of_getElem? (i := 156) rfl), rfl⟩
set_option maxRecDepth 20000 in
theorem tw_153 : (Jvm.Cond.methodLink "RoundedNumbers$Exact" (47 : Nat) ({ cls := "RoundedNumbers$Exact", name := "takeLesser", desc := "(LRoundedNumbers$Exact;)V" } : Jvm.MethodName)) ∈ tb := List.mem_filter.mpr ⟨List.mem_append_right _ (List.mem_of_getElem? (i := 153) (by decide +kernel)), rfl⟩
set_option maxRecDepth 20000 in
theorem tw_155 : (Jvm.Cond.instanceMethod ({ cls := "RoundedNumbers$Exact", name := "takeLesser", desc := "(LRoundedNumbers$Exact;)V" } : Jvm.MethodName)) ∈ tb := List.mem_filter.mpr ⟨List.mem_append_right _ (List.mem_of_getElem? (i := 155) (by decide +kernel)), rfl⟩
theorem ts_8 : (Jvm.Cond.selects "RoundedNumbers$Exact" ({ cls := "RoundedNumbers$Exact", name := "takeLesser", desc := "(LRoundedNumbers$Exact;)V" } : Jvm.MethodName) ({ cls := "RoundedNumbers$Exact", name := "takeLesser", desc := "(LRoundedNumbers$Exact;)V" } : Jvm.MethodName)) ∈ tb := List.mem_filter.mpr ⟨List.mem_append_left _ (List.mem_of_getElem? (i := 8) (by decide +kernel)), rfl⟩
set_option maxRecDepth 20000 in
theorem tw_86 : (Jvm.Cond.methodLink "RoundedNumbers" (165 : Nat) ({ cls := "java/lang/Long", name := "numberOfLeadingZeros", desc := "(J)I" } : Jvm.MethodName)) ∈ tb := List.mem_filter.mpr ⟨List.mem_append_right _ (List.mem_of_getElem? (i := 86) (by decide +kernel)), rfl⟩
set_option maxRecDepth 20000 in
theorem tw_80 : (Jvm.Cond.methodLink "RoundedNumbers" (84 : Nat) ({ cls := "java/lang/Math", name := "abs", desc := "(J)J" } : Jvm.MethodName)) ∈ tb := List.mem_filter.mpr ⟨List.mem_append_right _ (List.mem_of_getElem? (i := 80) (by decide +kernel)), rfl⟩
set_option maxRecDepth 20000 in
theorem tw_85 : (Jvm.Cond.code ({ cls := "RoundedNumbers", name := "bitLength", desc := "(J)I" } : Jvm.MethodName) prog_1_method_26_code (2 : Nat) (Option.some Jvm.ClassFile.FieldType.int)) ∈ tb := List.mem_filter.mpr ⟨List.mem_append_right _ (List.mem_of_getElem? (i := 85) rfl), rfl⟩
set_option maxRecDepth 20000 in
theorem tw_83 : (Jvm.Cond.methodLink "RoundedNumbers" (168 : Nat) ({ cls := "RoundedNumbers", name := "bitLength", desc := "(J)I" } : Jvm.MethodName)) ∈ tb := List.mem_filter.mpr ⟨List.mem_append_right _ (List.mem_of_getElem? (i := 83) (by decide +kernel)), rfl⟩
set_option maxRecDepth 20000 in
theorem tw_84 : (Jvm.Cond.static ({ cls := "RoundedNumbers", name := "bitLength", desc := "(J)I" } : Jvm.MethodName)) ∈ tb := List.mem_filter.mpr ⟨List.mem_append_right _ (List.mem_of_getElem? (i := 84) (by decide +kernel)), rfl⟩
set_option maxRecDepth 20000 in
theorem tw_1 : (Jvm.Cond.initialized "RoundedNumbers") ∈ tb := List.mem_filter.mpr ⟨List.mem_append_right _ (List.mem_of_getElem? (i := 1) (by decide +kernel)), rfl⟩
set_option maxRecDepth 20000 in
theorem tw_223 : (Jvm.Cond.methodLink "RoundedNumbers" (184 : Nat) ({ cls := "java/lang/Math", name := "min", desc := "(II)I" } : Jvm.MethodName)) ∈ tb := List.mem_filter.mpr ⟨List.mem_append_right _ (List.mem_of_getElem? (i := 223) (by decide +kernel)), rfl⟩
set_option maxRecDepth 20000 in
theorem tw_224 : (Jvm.Cond.static ({ cls := "java/lang/Math", name := "min", desc := "(II)I" } : Jvm.MethodName)) ∈ tb := List.mem_filter.mpr ⟨List.mem_append_right _ (List.mem_of_getElem? (i := 224) (by decide +kernel)), rfl⟩
set_option maxRecDepth 20000 in
theorem tw_225 : (Jvm.Cond.code ({ cls := "java/lang/Math", name := "min", desc := "(II)I" } : Jvm.MethodName) prog_7_method_69_code (2 : Nat) (Option.some Jvm.ClassFile.FieldType.int)) ∈ tb := List.mem_filter.mpr ⟨List.mem_append_right _ (List.mem_of_getElem? (i := 225) rfl), rfl⟩
set_option maxRecDepth 20000 in
theorem tw_43 : (Jvm.Cond.fieldLink "RoundedNumbers" (9 : Nat) "RoundedNumbers" "mantissas" "[J") ∈ tb := List.mem_filter.mpr ⟨List.mem_append_right _ (List.mem_of_getElem? (i := 43) (by decide +kernel)), rfl⟩
set_option maxRecDepth 20000 in
theorem tw_113 : (Jvm.Cond.constantLong "RoundedNumbers" (163 : Nat) (536870911 : Int64)) ∈ tb := List.mem_filter.mpr ⟨List.mem_append_right _ (List.mem_of_getElem? (i := 113) (by decide +kernel)), rfl⟩
set_option maxRecDepth 20000 in
theorem tw_74 : (Jvm.Cond.code ({ cls := "RoundedNumbers", name := "isRegister", desc := "(I)Z" } : Jvm.MethodName) prog_1_method_20_code (1 : Nat) (Option.some Jvm.ClassFile.FieldType.boolean)) ∈ tb := List.mem_filter.mpr ⟨List.mem_append_right _ (List.mem_of_getElem? (i := 74) rfl), rfl⟩
set_option maxRecDepth 20000 in
theorem tw_72 : (Jvm.Cond.methodLink "RoundedNumbers" (30 : Nat) ({ cls := "RoundedNumbers", name := "isRegister", desc := "(I)Z" } : Jvm.MethodName)) ∈ tb := List.mem_filter.mpr ⟨List.mem_append_right _ (List.mem_of_getElem? (i := 72) (by decide +kernel)), rfl⟩
set_option maxRecDepth 20000 in
theorem tw_73 : (Jvm.Cond.static ({ cls := "RoundedNumbers", name := "isRegister", desc := "(I)Z" } : Jvm.MethodName)) ∈ tb := List.mem_filter.mpr ⟨List.mem_append_right _ (List.mem_of_getElem? (i := 73) (by decide +kernel)), rfl⟩
set_option maxRecDepth 20000 in
theorem tw_112 : (Jvm.Cond.code ({ cls := "RoundedNumbers", name := "isNarrow", desc := "(I)Z" } : Jvm.MethodName) prog_1_method_21_code (2 : Nat) (Option.some Jvm.ClassFile.FieldType.boolean)) ∈ tb := List.mem_filter.mpr ⟨List.mem_append_right _ (List.mem_of_getElem? (i := 112) rfl), rfl⟩
set_option maxRecDepth 20000 in
theorem tw_109 : (Jvm.Cond.methodLink "RoundedNumbers" (100 : Nat) ({ cls := "RoundedNumbers", name := "isNarrow", desc := "(I)Z" } : Jvm.MethodName)) ∈ tb := List.mem_filter.mpr ⟨List.mem_append_right _ (List.mem_of_getElem? (i := 109) (by decide +kernel)), rfl⟩
set_option maxRecDepth 20000 in
theorem tw_111 : (Jvm.Cond.instanceMethod ({ cls := "RoundedNumbers", name := "isNarrow", desc := "(I)Z" } : Jvm.MethodName)) ∈ tb := List.mem_filter.mpr ⟨List.mem_append_right _ (List.mem_of_getElem? (i := 111) (by decide +kernel)), rfl⟩
theorem ts_3 : (Jvm.Cond.selects "RoundedNumbers" ({ cls := "RoundedNumbers", name := "isNarrow", desc := "(I)Z" } : Jvm.MethodName) ({ cls := "RoundedNumbers", name := "isNarrow", desc := "(I)Z" } : Jvm.MethodName)) ∈ tb := List.mem_filter.mpr ⟨List.mem_append_left _ (List.mem_of_getElem? (i := 3) (by decide +kernel)), rfl⟩
set_option maxRecDepth 20000 in
theorem tw_44 : (Jvm.Cond.fieldLink "RoundedNumbers" (13 : Nat) "RoundedNumbers" "places" "[I") ∈ tb := List.mem_filter.mpr ⟨List.mem_append_right _ (List.mem_of_getElem? (i := 44) (by decide +kernel)), rfl⟩
set_option maxRecDepth 20000 in
theorem tw_47 : (Jvm.Cond.fieldLink "RoundedNumbers" (160 : Nat) "RoundedNumbers" "rangeCalls" "I") ∈ tb := List.mem_filter.mpr ⟨List.mem_append_right _ (List.mem_of_getElem? (i := 47) (by decide +kernel)), rfl⟩
set_option maxRecDepth 20000 in
theorem tw_79 : (Jvm.Cond.code ({ cls := "RoundedNumbers", name := "isNumber", desc := "(JI)Z" } : Jvm.MethodName) prog_1_method_27_code (4 : Nat) (Option.some Jvm.ClassFile.FieldType.boolean)) ∈ tb := List.mem_filter.mpr ⟨List.mem_append_right _ (List.mem_of_getElem? (i := 79) rfl), rfl⟩
set_option maxRecDepth 20000 in
theorem tw_77 : (Jvm.Cond.methodLink "RoundedNumbers" (38 : Nat) ({ cls := "RoundedNumbers", name := "isNumber", desc := "(JI)Z" } : Jvm.MethodName)) ∈ tb := List.mem_filter.mpr ⟨List.mem_append_right _ (List.mem_of_getElem? (i := 77) (by decide +kernel)), rfl⟩
set_option maxRecDepth 20000 in
theorem tw_78 : (Jvm.Cond.static ({ cls := "RoundedNumbers", name := "isNumber", desc := "(JI)Z" } : Jvm.MethodName)) ∈ tb := List.mem_filter.mpr ⟨List.mem_append_right _ (List.mem_of_getElem? (i := 78) (by decide +kernel)), rfl⟩
set_option maxRecDepth 20000 in
theorem tw_100 : (Jvm.Cond.code ({ cls := "RoundedNumbers", name := "store", desc := "(IJI)V" } : Jvm.MethodName) prog_1_method_29_code (10 : Nat) (Option.none : Option Jvm.ClassFile.FieldType)) ∈ tb := List.mem_filter.mpr ⟨List.mem_append_right _ (List.mem_of_getElem? (i := 100) rfl), rfl⟩
set_option maxRecDepth 20000 in
theorem tw_97 : (Jvm.Cond.methodLink "RoundedNumbers" (46 : Nat) ({ cls := "RoundedNumbers", name := "store", desc := "(IJI)V" } : Jvm.MethodName)) ∈ tb := List.mem_filter.mpr ⟨List.mem_append_right _ (List.mem_of_getElem? (i := 97) (by decide +kernel)), rfl⟩
set_option maxRecDepth 20000 in
theorem tw_99 : (Jvm.Cond.instanceMethod ({ cls := "RoundedNumbers", name := "store", desc := "(IJI)V" } : Jvm.MethodName)) ∈ tb := List.mem_filter.mpr ⟨List.mem_append_right _ (List.mem_of_getElem? (i := 99) (by decide +kernel)), rfl⟩
theorem ts_1 : (Jvm.Cond.selects "RoundedNumbers" ({ cls := "RoundedNumbers", name := "store", desc := "(IJI)V" } : Jvm.MethodName) ({ cls := "RoundedNumbers", name := "store", desc := "(IJI)V" } : Jvm.MethodName)) ∈ tb := List.mem_filter.mpr ⟨List.mem_append_left _ (List.mem_of_getElem? (i := 1) (by decide +kernel)), rfl⟩
set_option maxRecDepth 20000 in
theorem tw_45 : (Jvm.Cond.fieldLink "RoundedNumbers" (150 : Nat) "RoundedNumbers" "lost" "I") ∈ tb := List.mem_filter.mpr ⟨List.mem_append_right _ (List.mem_of_getElem? (i := 45) (by decide +kernel)), rfl⟩
set_option maxRecDepth 20000 in
theorem tw_46 : (Jvm.Cond.fieldLink "RoundedNumbers" (157 : Nat) "RoundedNumbers" "roundedOperations" "I") ∈ tb := List.mem_filter.mpr ⟨List.mem_append_right _ (List.mem_of_getElem? (i := 46) (by decide +kernel)), rfl⟩
set_option maxRecDepth 20000 in
theorem tw_96 : (Jvm.Cond.code ({ cls := "RoundedNumbers", name := "outOfRange", desc := "()I" } : Jvm.MethodName) prog_1_method_28_code (1 : Nat) (Option.some Jvm.ClassFile.FieldType.int)) ∈ tb := List.mem_filter.mpr ⟨List.mem_append_right _ (List.mem_of_getElem? (i := 96) rfl), rfl⟩
set_option maxRecDepth 20000 in
theorem tw_93 : (Jvm.Cond.methodLink "RoundedNumbers" (42 : Nat) ({ cls := "RoundedNumbers", name := "outOfRange", desc := "()I" } : Jvm.MethodName)) ∈ tb := List.mem_filter.mpr ⟨List.mem_append_right _ (List.mem_of_getElem? (i := 93) (by decide +kernel)), rfl⟩
set_option maxRecDepth 20000 in
theorem tw_95 : (Jvm.Cond.instanceMethod ({ cls := "RoundedNumbers", name := "outOfRange", desc := "()I" } : Jvm.MethodName)) ∈ tb := List.mem_filter.mpr ⟨List.mem_append_right _ (List.mem_of_getElem? (i := 95) (by decide +kernel)), rfl⟩
theorem ts_0 : (Jvm.Cond.selects "RoundedNumbers" ({ cls := "RoundedNumbers", name := "outOfRange", desc := "()I" } : Jvm.MethodName) ({ cls := "RoundedNumbers", name := "outOfRange", desc := "()I" } : Jvm.MethodName)) ∈ tb := List.mem_filter.mpr ⟨List.mem_append_left _ (List.mem_of_getElem? (i := 0) (by decide +kernel)), rfl⟩
set_option maxRecDepth 20000 in
theorem tw_164 : (Jvm.Cond.code ({ cls := "RoundedNumbers$Exact", name := "roundTo", desc := "(I)I" } : Jvm.MethodName) prog_2_method_9_code (9 : Nat) (Option.some Jvm.ClassFile.FieldType.int)) ∈ tb := List.mem_filter.mpr ⟨List.mem_append_right _ (List.mem_of_getElem? (i := 164) rfl), rfl⟩
set_option maxRecDepth 20000 in
theorem tw_161 : (Jvm.Cond.methodLink "RoundedNumbers" (171 : Nat) ({ cls := "RoundedNumbers$Exact", name := "roundTo", desc := "(I)I" } : Jvm.MethodName)) ∈ tb := List.mem_filter.mpr ⟨List.mem_append_right _ (List.mem_of_getElem? (i := 161) (by decide +kernel)), rfl⟩
set_option maxRecDepth 20000 in
theorem tw_162 : (Jvm.Cond.instanceMethod ({ cls := "RoundedNumbers$Exact", name := "roundTo", desc := "(I)I" } : Jvm.MethodName)) ∈ tb := List.mem_filter.mpr ⟨List.mem_append_right _ (List.mem_of_getElem? (i := 162) (by decide +kernel)), rfl⟩
set_option maxRecDepth 20000 in
theorem tw_163 : (Jvm.Cond.selects "RoundedNumbers$Exact" ({ cls := "RoundedNumbers$Exact", name := "roundTo", desc := "(I)I" } : Jvm.MethodName) ({ cls := "RoundedNumbers$Exact", name := "roundTo", desc := "(I)I" } : Jvm.MethodName)) ∈ tb := List.mem_filter.mpr ⟨List.mem_append_right _ (List.mem_of_getElem? (i := 163) (by decide +kernel)), rfl⟩
set_option maxRecDepth 20000 in
theorem tw_22 : (Jvm.Cond.fieldLink "RoundedNumbers" (174 : Nat) "RoundedNumbers$Exact" "sign" "I") ∈ tb := List.mem_filter.mpr ⟨List.mem_append_right _ (List.mem_of_getElem? (i := 22) (by decide +kernel)), rfl⟩
set_option maxRecDepth 20000 in
theorem tw_26 : (Jvm.Cond.fieldLink "RoundedNumbers" (177 : Nat) "RoundedNumbers$Exact" "low" "J") ∈ tb := List.mem_filter.mpr ⟨List.mem_append_right _ (List.mem_of_getElem? (i := 26) (by decide +kernel)), rfl⟩
set_option maxRecDepth 20000 in
theorem tw_28 : (Jvm.Cond.fieldLink "RoundedNumbers" (181 : Nat) "RoundedNumbers$Exact" "place" "I") ∈ tb := List.mem_filter.mpr ⟨List.mem_append_right _ (List.mem_of_getElem? (i := 28) (by decide +kernel)), rfl⟩
set_option maxRecDepth 20000 in
theorem tw_169 : (Jvm.Cond.code ({ cls := "RoundedNumbers", name := "put", desc := "(IJII)I" } : Jvm.MethodName) prog_1_method_30_code (6 : Nat) (Option.some Jvm.ClassFile.FieldType.int)) ∈ tb := List.mem_filter.mpr ⟨List.mem_append_right _ (List.mem_of_getElem? (i := 169) rfl), rfl⟩
set_option maxRecDepth 20000 in
theorem tw_166 : (Jvm.Cond.methodLink "RoundedNumbers" (96 : Nat) ({ cls := "RoundedNumbers", name := "put", desc := "(IJII)I" } : Jvm.MethodName)) ∈ tb := List.mem_filter.mpr ⟨List.mem_append_right _ (List.mem_of_getElem? (i := 166) (by decide +kernel)), rfl⟩
set_option maxRecDepth 20000 in
theorem tw_168 : (Jvm.Cond.instanceMethod ({ cls := "RoundedNumbers", name := "put", desc := "(IJII)I" } : Jvm.MethodName)) ∈ tb := List.mem_filter.mpr ⟨List.mem_append_right _ (List.mem_of_getElem? (i := 168) (by decide +kernel)), rfl⟩
theorem ts_10 : (Jvm.Cond.selects "RoundedNumbers" ({ cls := "RoundedNumbers", name := "put", desc := "(IJII)I" } : Jvm.MethodName) ({ cls := "RoundedNumbers", name := "put", desc := "(IJII)I" } : Jvm.MethodName)) ∈ tb := List.mem_filter.mpr ⟨List.mem_append_left _ (List.mem_of_getElem? (i := 10) (by decide +kernel)), rfl⟩
set_option maxRecDepth 20000 in
theorem tw_108 : (Jvm.Cond.code ({ cls := "RoundedNumbers", name := "mayTake", desc := "(IIIZ)Z" } : Jvm.MethodName) prog_1_method_22_code (5 : Nat) (Option.some Jvm.ClassFile.FieldType.boolean)) ∈ tb := List.mem_filter.mpr ⟨List.mem_append_right _ (List.mem_of_getElem? (i := 108) rfl), rfl⟩
set_option maxRecDepth 20000 in
theorem tw_105 : (Jvm.Cond.methodLink "RoundedNumbers" (50 : Nat) ({ cls := "RoundedNumbers", name := "mayTake", desc := "(IIIZ)Z" } : Jvm.MethodName)) ∈ tb := List.mem_filter.mpr ⟨List.mem_append_right _ (List.mem_of_getElem? (i := 105) (by decide +kernel)), rfl⟩
set_option maxRecDepth 20000 in
theorem tw_107 : (Jvm.Cond.instanceMethod ({ cls := "RoundedNumbers", name := "mayTake", desc := "(IIIZ)Z" } : Jvm.MethodName)) ∈ tb := List.mem_filter.mpr ⟨List.mem_append_right _ (List.mem_of_getElem? (i := 107) (by decide +kernel)), rfl⟩
theorem ts_2 : (Jvm.Cond.selects "RoundedNumbers" ({ cls := "RoundedNumbers", name := "mayTake", desc := "(IIIZ)Z" } : Jvm.MethodName) ({ cls := "RoundedNumbers", name := "mayTake", desc := "(IIIZ)Z" } : Jvm.MethodName)) ∈ tb := List.mem_filter.mpr ⟨List.mem_append_left _ (List.mem_of_getElem? (i := 2) (by decide +kernel)), rfl⟩
set_option maxRecDepth 20000 in
theorem tw_48 : (Jvm.Cond.fieldLink "RoundedNumbers" (20 : Nat) "RoundedNumbers" "first" "LRoundedNumbers$Exact;") ∈ tb := List.mem_filter.mpr ⟨List.mem_append_right _ (List.mem_of_getElem? (i := 48) (by decide +kernel)), rfl⟩
set_option maxRecDepth 20000 in
theorem tw_181 : (Jvm.Cond.code ({ cls := "RoundedNumbers$Exact", name := "holdProduct", desc := "(JJI)V" } : Jvm.MethodName) prog_2_method_3_code (20 : Nat) (Option.none : Option Jvm.ClassFile.FieldType)) ∈ tb := List.mem_filter.mpr ⟨List.mem_append_right _ (List.mem_of_getElem? (i := 181) rfl), rfl⟩
set_option maxRecDepth 20000 in
theorem tw_178 : (Jvm.Cond.methodLink "RoundedNumbers" (66 : Nat) ({ cls := "RoundedNumbers$Exact", name := "holdProduct", desc := "(JJI)V" } : Jvm.MethodName)) ∈ tb := List.mem_filter.mpr ⟨List.mem_append_right _ (List.mem_of_getElem? (i := 178) (by decide +kernel)), rfl⟩
set_option maxRecDepth 20000 in
theorem tw_179 : (Jvm.Cond.instanceMethod ({ cls := "RoundedNumbers$Exact", name := "holdProduct", desc := "(JJI)V" } : Jvm.MethodName)) ∈ tb := List.mem_filter.mpr ⟨List.mem_append_right _ (List.mem_of_getElem? (i := 179) (by decide +kernel)), rfl⟩
set_option maxRecDepth 20000 in
theorem tw_180 : (Jvm.Cond.selects "RoundedNumbers$Exact" ({ cls := "RoundedNumbers$Exact", name := "holdProduct", desc := "(JJI)V" } : Jvm.MethodName) ({ cls := "RoundedNumbers$Exact", name := "holdProduct", desc := "(JJI)V" } : Jvm.MethodName)) ∈ tb := List.mem_filter.mpr ⟨List.mem_append_right _ (List.mem_of_getElem? (i := 180) (by decide +kernel)), rfl⟩
set_option maxRecDepth 20000 in
theorem tw_49 : (Jvm.Cond.fieldLink "RoundedNumbers" (24 : Nat) "RoundedNumbers" "second" "LRoundedNumbers$Exact;") ∈ tb := List.mem_filter.mpr ⟨List.mem_append_right _ (List.mem_of_getElem? (i := 49) (by decide +kernel)), rfl⟩
set_option maxRecDepth 20000 in
theorem tw_117 : (Jvm.Cond.code ({ cls := "RoundedNumbers$Exact", name := "hold", desc := "(JI)V" } : Jvm.MethodName) prog_2_method_2_code (4 : Nat) (Option.none : Option Jvm.ClassFile.FieldType)) ∈ tb := List.mem_filter.mpr ⟨List.mem_append_right _ (List.mem_of_getElem? (i := 117) rfl), rfl⟩
set_option maxRecDepth 20000 in
theorem tw_114 : (Jvm.Cond.methodLink "RoundedNumbers" (54 : Nat) ({ cls := "RoundedNumbers$Exact", name := "hold", desc := "(JI)V" } : Jvm.MethodName)) ∈ tb := List.mem_filter.mpr ⟨List.mem_append_right _ (List.mem_of_getElem? (i := 114) (by decide +kernel)), rfl⟩
set_option maxRecDepth 20000 in
theorem tw_115 : (Jvm.Cond.instanceMethod ({ cls := "RoundedNumbers$Exact", name := "hold", desc := "(JI)V" } : Jvm.MethodName)) ∈ tb := List.mem_filter.mpr ⟨List.mem_append_right _ (List.mem_of_getElem? (i := 115) (by decide +kernel)), rfl⟩
set_option maxRecDepth 20000 in
theorem tw_116 : (Jvm.Cond.selects "RoundedNumbers$Exact" ({ cls := "RoundedNumbers$Exact", name := "hold", desc := "(JI)V" } : Jvm.MethodName) ({ cls := "RoundedNumbers$Exact", name := "hold", desc := "(JI)V" } : Jvm.MethodName)) ∈ tb := List.mem_filter.mpr ⟨List.mem_append_right _ (List.mem_of_getElem? (i := 116) (by decide +kernel)), rfl⟩
set_option maxRecDepth 20000 in
theorem tw_124 : (Jvm.Cond.code ({ cls := "RoundedNumbers$Exact", name := "sum", desc := "(LRoundedNumbers$Exact;LRoundedNumbers$Exact;)LRoundedNumbers$Exact;" } : Jvm.MethodName) prog_2_method_6_code (2 : Nat) (Option.some (Jvm.ClassFile.FieldType.object "RoundedNumbers$Exact"))) ∈ tb := List.mem_filter.mpr ⟨List.mem_append_right _ (List.mem_of_getElem? (i := 124) rfl), rfl⟩
set_option maxRecDepth 20000 in
theorem tw_122 : (Jvm.Cond.methodLink "RoundedNumbers" (58 : Nat) ({ cls := "RoundedNumbers$Exact", name := "sum", desc := "(LRoundedNumbers$Exact;LRoundedNumbers$Exact;)LRoundedNumbers$Exact;" } : Jvm.MethodName)) ∈ tb := List.mem_filter.mpr ⟨List.mem_append_right _ (List.mem_of_getElem? (i := 122) (by decide +kernel)), rfl⟩
set_option maxRecDepth 20000 in
theorem tw_123 : (Jvm.Cond.static ({ cls := "RoundedNumbers$Exact", name := "sum", desc := "(LRoundedNumbers$Exact;LRoundedNumbers$Exact;)LRoundedNumbers$Exact;" } : Jvm.MethodName)) ∈ tb := List.mem_filter.mpr ⟨List.mem_append_right _ (List.mem_of_getElem? (i := 123) (by decide +kernel)), rfl⟩
set_option maxRecDepth 20000 in
theorem tw_160 : (Jvm.Cond.code ({ cls := "RoundedNumbers", name := "finish", desc := "(ILRoundedNumbers$Exact;Z)I" } : Jvm.MethodName) prog_1_method_31_code (5 : Nat) (Option.some Jvm.ClassFile.FieldType.int)) ∈ tb := List.mem_filter.mpr ⟨List.mem_append_right _ (List.mem_of_getElem? (i := 160) rfl), rfl⟩
set_option maxRecDepth 20000 in
theorem tw_157 : (Jvm.Cond.methodLink "RoundedNumbers" (62 : Nat) ({ cls := "RoundedNumbers", name := "finish", desc := "(ILRoundedNumbers$Exact;Z)I" } : Jvm.MethodName)) ∈ tb := List.mem_filter.mpr ⟨List.mem_append_right _ (List.mem_of_getElem? (i := 157) (by decide +kernel)), rfl⟩
set_option maxRecDepth 20000 in
theorem tw_159 : (Jvm.Cond.instanceMethod ({ cls := "RoundedNumbers", name := "finish", desc := "(ILRoundedNumbers$Exact;Z)I" } : Jvm.MethodName)) ∈ tb := List.mem_filter.mpr ⟨List.mem_append_right _ (List.mem_of_getElem? (i := 159) (by decide +kernel)), rfl⟩
theorem ts_9 : (Jvm.Cond.selects "RoundedNumbers" ({ cls := "RoundedNumbers", name := "finish", desc := "(ILRoundedNumbers$Exact;Z)I" } : Jvm.MethodName) ({ cls := "RoundedNumbers", name := "finish", desc := "(ILRoundedNumbers$Exact;Z)I" } : Jvm.MethodName)) ∈ tb := List.mem_filter.mpr ⟨List.mem_append_left _ (List.mem_of_getElem? (i := 9) (by decide +kernel)), rfl⟩
set_option maxRecDepth 20000 in
theorem tw_24 : (Jvm.Cond.fieldLink "RoundedNumbers" (187 : Nat) "RoundedNumbers$Exact" "high" "J") ∈ tb := List.mem_filter.mpr ⟨List.mem_append_right _ (List.mem_of_getElem? (i := 24) (by decide +kernel)), rfl⟩
set_option maxRecDepth 20000 in
theorem tw_259 : (Jvm.Cond.constantLong "RoundedNumbers" (190 : Nat) (9007199254740991 : Int64)) ∈ tb := List.mem_filter.mpr ⟨List.mem_append_right _ (List.mem_of_getElem? (i := 259) (by decide +kernel)), rfl⟩
set_option maxRecDepth 20000 in
theorem tw_50 : (Jvm.Cond.fieldLink "RoundedNumbers" (27 : Nat) "RoundedNumbers" "third" "LRoundedNumbers$Exact;") ∈ tb := List.mem_filter.mpr ⟨List.mem_append_right _ (List.mem_of_getElem? (i := 50) (by decide +kernel)), rfl⟩
set_option maxRecDepth 20000 in
theorem tw_260 : (Jvm.Cond.methodLink "RoundedNumbers" (192 : Nat) ({ cls := "RoundedNumbers$Exact", name := "sizeOrder", desc := "(LRoundedNumbers$Exact;)I" } : Jvm.MethodName)) ∈ tb := List.mem_filter.mpr ⟨List.mem_append_right _ (List.mem_of_getElem? (i := 260) (by decide +kernel)), rfl⟩
set_option maxRecDepth 20000 in
theorem tw_75 : (Jvm.Cond.constantLong "RoundedNumbers" (34 : Nat) (-9007199254740992 : Int64)) ∈ tb := List.mem_filter.mpr ⟨List.mem_append_right _ (List.mem_of_getElem? (i := 75) (by decide +kernel)), rfl⟩
set_option maxRecDepth 20000 in
theorem tw_76 : (Jvm.Cond.constantLong "RoundedNumbers" (36 : Nat) (9007199254740992 : Int64)) ∈ tb := List.mem_filter.mpr ⟨List.mem_append_right _ (List.mem_of_getElem? (i := 76) (by decide +kernel)), rfl⟩
set_option maxRecDepth 20000 in
theorem tw_190 : (Jvm.Cond.code ({ cls := "RoundedNumbers$Exact", name := "holdQuotient", desc := "(JJI)V" } : Jvm.MethodName) prog_2_method_4_code (13 : Nat) (Option.none : Option Jvm.ClassFile.FieldType)) ∈ tb := List.mem_filter.mpr ⟨List.mem_append_right _ (List.mem_of_getElem? (i := 190) rfl), rfl⟩
set_option maxRecDepth 20000 in
theorem tw_187 : (Jvm.Cond.methodLink "RoundedNumbers" (70 : Nat) ({ cls := "RoundedNumbers$Exact", name := "holdQuotient", desc := "(JJI)V" } : Jvm.MethodName)) ∈ tb := List.mem_filter.mpr ⟨List.mem_append_right _ (List.mem_of_getElem? (i := 187) (by decide +kernel)), rfl⟩
set_option maxRecDepth 20000 in
theorem tw_188 : (Jvm.Cond.instanceMethod ({ cls := "RoundedNumbers$Exact", name := "holdQuotient", desc := "(JJI)V" } : Jvm.MethodName)) ∈ tb := List.mem_filter.mpr ⟨List.mem_append_right _ (List.mem_of_getElem? (i := 188) (by decide +kernel)), rfl⟩
set_option maxRecDepth 20000 in
theorem tw_189 : (Jvm.Cond.selects "RoundedNumbers$Exact" ({ cls := "RoundedNumbers$Exact", name := "holdQuotient", desc := "(JJI)V" } : Jvm.MethodName) ({ cls := "RoundedNumbers$Exact", name := "holdQuotient", desc := "(JJI)V" } : Jvm.MethodName)) ∈ tb := List.mem_filter.mpr ⟨List.mem_append_right _ (List.mem_of_getElem? (i := 189) (by decide +kernel)), rfl⟩
set_option maxRecDepth 20000 in
theorem tw_198 : (Jvm.Cond.code ({ cls := "RoundedNumbers", name := "productPlus", desc := "(IIIIZ)I" } : Jvm.MethodName) prog_1_method_32_code (6 : Nat) (Option.some Jvm.ClassFile.FieldType.int)) ∈ tb := List.mem_filter.mpr ⟨List.mem_append_right _ (List.mem_of_getElem? (i := 198) rfl), rfl⟩
set_option maxRecDepth 20000 in
theorem tw_195 : (Jvm.Cond.methodLink "RoundedNumbers" (73 : Nat) ({ cls := "RoundedNumbers", name := "productPlus", desc := "(IIIIZ)I" } : Jvm.MethodName)) ∈ tb := List.mem_filter.mpr ⟨List.mem_append_right _ (List.mem_of_getElem? (i := 195) (by decide +kernel)), rfl⟩
set_option maxRecDepth 20000 in
theorem tw_197 : (Jvm.Cond.instanceMethod ({ cls := "RoundedNumbers", name := "productPlus", desc := "(IIIIZ)I" } : Jvm.MethodName)) ∈ tb := List.mem_filter.mpr ⟨List.mem_append_right _ (List.mem_of_getElem? (i := 197) (by decide +kernel)), rfl⟩
theorem ts_11 : (Jvm.Cond.selects "RoundedNumbers" ({ cls := "RoundedNumbers", name := "productPlus", desc := "(IIIIZ)I" } : Jvm.MethodName) ({ cls := "RoundedNumbers", name := "productPlus", desc := "(IIIIZ)I" } : Jvm.MethodName)) ∈ tb := List.mem_filter.mpr ⟨List.mem_append_left _ (List.mem_of_getElem? (i := 11) (by decide +kernel)), rfl⟩
set_option maxRecDepth 20000 in
theorem tw_210 : (Jvm.Cond.code ({ cls := "RoundedNumbers$Exact", name := "holdRoot", desc := "(JI)V" } : Jvm.MethodName) prog_2_method_5_code (15 : Nat) (Option.none : Option Jvm.ClassFile.FieldType)) ∈ tb := List.mem_filter.mpr ⟨List.mem_append_right _ (List.mem_of_getElem? (i := 210) rfl), rfl⟩
set_option maxRecDepth 20000 in
theorem tw_207 : (Jvm.Cond.methodLink "RoundedNumbers" (77 : Nat) ({ cls := "RoundedNumbers$Exact", name := "holdRoot", desc := "(JI)V" } : Jvm.MethodName)) ∈ tb := List.mem_filter.mpr ⟨List.mem_append_right _ (List.mem_of_getElem? (i := 207) (by decide +kernel)), rfl⟩
set_option maxRecDepth 20000 in
theorem tw_208 : (Jvm.Cond.instanceMethod ({ cls := "RoundedNumbers$Exact", name := "holdRoot", desc := "(JI)V" } : Jvm.MethodName)) ∈ tb := List.mem_filter.mpr ⟨List.mem_append_right _ (List.mem_of_getElem? (i := 208) (by decide +kernel)), rfl⟩
set_option maxRecDepth 20000 in
theorem tw_209 : (Jvm.Cond.selects "RoundedNumbers$Exact" ({ cls := "RoundedNumbers$Exact", name := "holdRoot", desc := "(JI)V" } : Jvm.MethodName) ({ cls := "RoundedNumbers$Exact", name := "holdRoot", desc := "(JI)V" } : Jvm.MethodName)) ∈ tb := List.mem_filter.mpr ⟨List.mem_append_right _ (List.mem_of_getElem? (i := 209) (by decide +kernel)), rfl⟩
set_option maxRecDepth 20000 in
theorem tw_219 : (Jvm.Cond.code ({ cls := "RoundedNumbers", name := "isFarGreater", desc := "(II)Z" } : Jvm.MethodName) prog_1_method_33_code (4 : Nat) (Option.some Jvm.ClassFile.FieldType.boolean)) ∈ tb := List.mem_filter.mpr ⟨List.mem_append_right _ (List.mem_of_getElem? (i := 219) rfl), rfl⟩
set_option maxRecDepth 20000 in
theorem tw_216 : (Jvm.Cond.methodLink "RoundedNumbers" (80 : Nat) ({ cls := "RoundedNumbers", name := "isFarGreater", desc := "(II)Z" } : Jvm.MethodName)) ∈ tb := List.mem_filter.mpr ⟨List.mem_append_right _ (List.mem_of_getElem? (i := 216) (by decide +kernel)), rfl⟩
set_option maxRecDepth 20000 in
theorem tw_218 : (Jvm.Cond.instanceMethod ({ cls := "RoundedNumbers", name := "isFarGreater", desc := "(II)Z" } : Jvm.MethodName)) ∈ tb := List.mem_filter.mpr ⟨List.mem_append_right _ (List.mem_of_getElem? (i := 218) (by decide +kernel)), rfl⟩
theorem ts_12 : (Jvm.Cond.selects "RoundedNumbers" ({ cls := "RoundedNumbers", name := "isFarGreater", desc := "(II)Z" } : Jvm.MethodName) ({ cls := "RoundedNumbers", name := "isFarGreater", desc := "(II)Z" } : Jvm.MethodName)) ∈ tb := List.mem_filter.mpr ⟨List.mem_append_left _ (List.mem_of_getElem? (i := 12) (by decide +kernel)), rfl⟩
set_option maxRecDepth 20000 in
theorem tw_222 : (Jvm.Cond.code ({ cls := "RoundedNumbers", name := "leftAfter", desc := "(JJI)J" } : Jvm.MethodName) prog_1_method_34_code (8 : Nat) (Option.some Jvm.ClassFile.FieldType.long)) ∈ tb := List.mem_filter.mpr ⟨List.mem_append_right _ (List.mem_of_getElem? (i := 222) rfl), rfl⟩
set_option maxRecDepth 20000 in
theorem tw_220 : (Jvm.Cond.methodLink "RoundedNumbers" (90 : Nat) ({ cls := "RoundedNumbers", name := "leftAfter", desc := "(JJI)J" } : Jvm.MethodName)) ∈ tb := List.mem_filter.mpr ⟨List.mem_append_right _ (List.mem_of_getElem? (i := 220) (by decide +kernel)), rfl⟩
set_option maxRecDepth 20000 in
theorem tw_221 : (Jvm.Cond.static ({ cls := "RoundedNumbers", name := "leftAfter", desc := "(JJI)J" } : Jvm.MethodName)) ∈ tb := List.mem_filter.mpr ⟨List.mem_append_right _ (List.mem_of_getElem? (i := 221) (by decide +kernel)), rfl⟩
set_option maxRecDepth 20000 in
theorem tw_241 : (Jvm.Cond.code ({ cls := "java/lang/Long", name := "bitCount", desc := "(J)I" } : Jvm.MethodName) prog_6_method_50_code (2 : Nat) (Option.some Jvm.ClassFile.FieldType.int)) ∈ tb := List.mem_filter.mpr ⟨List.mem_append_right _ (List.mem_of_getElem? (i := 241) rfl), rfl⟩
set_option maxRecDepth 20000 in
theorem tw_239 : (Jvm.Cond.methodLink "RoundedNumbers" (103 : Nat) ({ cls := "java/lang/Long", name := "bitCount", desc := "(J)I" } : Jvm.MethodName)) ∈ tb := List.mem_filter.mpr ⟨List.mem_append_right _ (List.mem_of_getElem? (i := 239) (by decide +kernel)), rfl⟩
set_option maxRecDepth 20000 in
theorem tw_240 : (Jvm.Cond.static ({ cls := "java/lang/Long", name := "bitCount", desc := "(J)I" } : Jvm.MethodName)) ∈ tb := List.mem_filter.mpr ⟨List.mem_append_right _ (List.mem_of_getElem? (i := 240) (by decide +kernel)), rfl⟩
set_option maxRecDepth 20000 in
theorem tw_248 : (Jvm.Cond.code ({ cls := "RoundedNumbers", name := "topOf", desc := "(I)I" } : Jvm.MethodName) prog_1_method_24_code (2 : Nat) (Option.some Jvm.ClassFile.FieldType.int)) ∈ tb := List.mem_filter.mpr ⟨List.mem_append_right _ (List.mem_of_getElem? (i := 248) rfl), rfl⟩
set_option maxRecDepth 20000 in
theorem tw_245 : (Jvm.Cond.methodLink "RoundedNumbers" (109 : Nat) ({ cls := "RoundedNumbers", name := "topOf", desc := "(I)I" } : Jvm.MethodName)) ∈ tb := List.mem_filter.mpr ⟨List.mem_append_right _ (List.mem_of_getElem? (i := 245) (by decide +kernel)), rfl⟩
set_option maxRecDepth 20000 in
theorem tw_247 : (Jvm.Cond.instanceMethod ({ cls := "RoundedNumbers", name := "topOf", desc := "(I)I" } : Jvm.MethodName)) ∈ tb := List.mem_filter.mpr ⟨List.mem_append_right _ (List.mem_of_getElem? (i := 247) (by decide +kernel)), rfl⟩
theorem ts_13 : (Jvm.Cond.selects "RoundedNumbers" ({ cls := "RoundedNumbers", name := "topOf", desc := "(I)I" } : Jvm.MethodName) ({ cls := "RoundedNumbers", name := "topOf", desc := "(I)I" } : Jvm.MethodName)) ∈ tb := List.mem_filter.mpr ⟨List.mem_append_left _ (List.mem_of_getElem? (i := 13) (by decide +kernel)), rfl⟩
set_option maxRecDepth 20000 in
theorem tw_249 : (Jvm.Cond.constantLong "RoundedNumbers" (113 : Nat) (2 : Int64)) ∈ tb := List.mem_filter.mpr ⟨List.mem_append_right _ (List.mem_of_getElem? (i := 249) (by decide +kernel)), rfl⟩
set_option maxRecDepth 20000 in
theorem tw_238 : (Jvm.Cond.constantLong "RoundedNumbers" (94 : Nat) (-1 : Int64)) ∈ tb := List.mem_filter.mpr ⟨List.mem_append_right _ (List.mem_of_getElem? (i := 238) (by decide +kernel)), rfl⟩
set_option maxRecDepth 20000 in
theorem tw_254 : (Jvm.Cond.methodLink "RoundedNumbers" (115 : Nat) ({ cls := "java/lang/Long", name := "signum", desc := "(J)I" } : Jvm.MethodName)) ∈ tb := List.mem_filter.mpr ⟨List.mem_append_right _ (List.mem_of_getElem? (i := 254) (by decide +kernel)), rfl⟩
set_option maxRecDepth 20000 in
theorem tw_258 : (Jvm.Cond.code ({ cls := "RoundedNumbers", name := "cubeOrder", desc := "(JII)I" } : Jvm.MethodName) prog_1_method_36_code (9 : Nat) (Option.some Jvm.ClassFile.FieldType.int)) ∈ tb := List.mem_filter.mpr ⟨List.mem_append_right _ (List.mem_of_getElem? (i := 258) rfl), rfl⟩
set_option maxRecDepth 20000 in
theorem tw_255 : (Jvm.Cond.methodLink "RoundedNumbers" (118 : Nat) ({ cls := "RoundedNumbers", name := "cubeOrder", desc := "(JII)I" } : Jvm.MethodName)) ∈ tb := List.mem_filter.mpr ⟨List.mem_append_right _ (List.mem_of_getElem? (i := 255) (by decide +kernel)), rfl⟩
set_option maxRecDepth 20000 in
theorem tw_257 : (Jvm.Cond.instanceMethod ({ cls := "RoundedNumbers", name := "cubeOrder", desc := "(JII)I" } : Jvm.MethodName)) ∈ tb := List.mem_filter.mpr ⟨List.mem_append_right _ (List.mem_of_getElem? (i := 257) (by decide +kernel)), rfl⟩
theorem ts_14 : (Jvm.Cond.selects "RoundedNumbers" ({ cls := "RoundedNumbers", name := "cubeOrder", desc := "(JII)I" } : Jvm.MethodName) ({ cls := "RoundedNumbers", name := "cubeOrder", desc := "(JII)I" } : Jvm.MethodName)) ∈ tb := List.mem_filter.mpr ⟨List.mem_append_left _ (List.mem_of_getElem? (i := 14) (by decide +kernel)), rfl⟩
set_option maxRecDepth 20000 in
theorem tw_267 : (Jvm.Cond.code ({ cls := "RoundedNumbers", name := "order", desc := "(JJ)I" } : Jvm.MethodName) prog_1_method_25_code (4 : Nat) (Option.some Jvm.ClassFile.FieldType.int)) ∈ tb := List.mem_filter.mpr ⟨List.mem_append_right _ (List.mem_of_getElem? (i := 267) rfl), rfl⟩
set_option maxRecDepth 20000 in
theorem tw_265 : (Jvm.Cond.methodLink "RoundedNumbers" (122 : Nat) ({ cls := "RoundedNumbers", name := "order", desc := "(JJ)I" } : Jvm.MethodName)) ∈ tb := List.mem_filter.mpr ⟨List.mem_append_right _ (List.mem_of_getElem? (i := 265) (by decide +kernel)), rfl⟩
set_option maxRecDepth 20000 in
theorem tw_266 : (Jvm.Cond.static ({ cls := "RoundedNumbers", name := "order", desc := "(JJ)I" } : Jvm.MethodName)) ∈ tb := List.mem_filter.mpr ⟨List.mem_append_right _ (List.mem_of_getElem? (i := 266) (by decide +kernel)), rfl⟩
set_option maxRecDepth 20000 in
theorem tw_275 : (Jvm.Cond.code ({ cls := "java/lang/Long", name := "numberOfTrailingZeros", desc := "(J)I" } : Jvm.MethodName) prog_6_method_49_code (3 : Nat) (Option.some Jvm.ClassFile.FieldType.int)) ∈ tb := List.mem_filter.mpr ⟨List.mem_append_right _ (List.mem_of_getElem? (i := 275) rfl), rfl⟩
set_option maxRecDepth 20000 in
theorem tw_273 : (Jvm.Cond.methodLink "RoundedNumbers" (128 : Nat) ({ cls := "java/lang/Long", name := "numberOfTrailingZeros", desc := "(J)I" } : Jvm.MethodName)) ∈ tb := List.mem_filter.mpr ⟨List.mem_append_right _ (List.mem_of_getElem? (i := 273) (by decide +kernel)), rfl⟩
set_option maxRecDepth 20000 in
theorem tw_274 : (Jvm.Cond.static ({ cls := "java/lang/Long", name := "numberOfTrailingZeros", desc := "(J)I" } : Jvm.MethodName)) ∈ tb := List.mem_filter.mpr ⟨List.mem_append_right _ (List.mem_of_getElem? (i := 274) (by decide +kernel)), rfl⟩
set_option maxRecDepth 20000 in
theorem tw_272 : (Jvm.Cond.constantLong "RoundedNumbers" (126 : Nat) (-4611686018427387904 : Int64)) ∈ tb := List.mem_filter.mpr ⟨List.mem_append_right _ (List.mem_of_getElem? (i := 272) (by decide +kernel)), rfl⟩
set_option maxRecDepth 20000 in
theorem tw_288 : (Jvm.Cond.constantLong "RoundedNumbers" (133 : Nat) (-2147483648 : Int64)) ∈ tb := List.mem_filter.mpr ⟨List.mem_append_right _ (List.mem_of_getElem? (i := 288) (by decide +kernel)), rfl⟩
set_option maxRecDepth 20000 in
theorem tw_290 : (Jvm.Cond.constantLong "RoundedNumbers" (137 : Nat) (2147483647 : Int64)) ∈ tb := List.mem_filter.mpr ⟨List.mem_append_right _ (List.mem_of_getElem? (i := 290) (by decide +kernel)), rfl⟩
set_option maxRecDepth 20000 in
theorem tw_293 : (Jvm.Cond.code ({ cls := "RoundedNumbers", name := "shifted", desc := "(JI)J" } : Jvm.MethodName) prog_1_method_35_code (3 : Nat) (Option.some Jvm.ClassFile.FieldType.long)) ∈ tb := List.mem_filter.mpr ⟨List.mem_append_right _ (List.mem_of_getElem? (i := 293) rfl), rfl⟩
set_option maxRecDepth 20000 in
theorem tw_291 : (Jvm.Cond.methodLink "RoundedNumbers" (139 : Nat) ({ cls := "RoundedNumbers", name := "shifted", desc := "(JI)J" } : Jvm.MethodName)) ∈ tb := List.mem_filter.mpr ⟨List.mem_append_right _ (List.mem_of_getElem? (i := 291) (by decide +kernel)), rfl⟩
set_option maxRecDepth 20000 in
theorem tw_292 : (Jvm.Cond.static ({ cls := "RoundedNumbers", name := "shifted", desc := "(JI)J" } : Jvm.MethodName)) ∈ tb := List.mem_filter.mpr ⟨List.mem_append_right _ (List.mem_of_getElem? (i := 292) (by decide +kernel)), rfl⟩
set_option maxRecDepth 20000 in
theorem tw_294 : (Jvm.Cond.methodLink "RoundedNumbers" (143 : Nat) ({ cls := "java/lang/Math", name := "min", desc := "(JJ)J" } : Jvm.MethodName)) ∈ tb := List.mem_filter.mpr ⟨List.mem_append_right _ (List.mem_of_getElem? (i := 294) (by decide +kernel)), rfl⟩
set_option maxRecDepth 20000 in
theorem tw_295 : (Jvm.Cond.static ({ cls := "java/lang/Math", name := "min", desc := "(JJ)J" } : Jvm.MethodName)) ∈ tb := List.mem_filter.mpr ⟨List.mem_append_right _ (List.mem_of_getElem? (i := 295) (by decide +kernel)), rfl⟩
set_option maxRecDepth 20000 in
theorem tw_296 : (Jvm.Cond.code ({ cls := "java/lang/Math", name := "min", desc := "(JJ)J" } : Jvm.MethodName) prog_7_method_70_code (4 : Nat) (Option.some Jvm.ClassFile.FieldType.long)) ∈ tb := List.mem_filter.mpr ⟨List.mem_append_right _ (List.mem_of_getElem? (i := 296) rfl), rfl⟩
set_option maxRecDepth 20000 in
theorem tw_297 : (Jvm.Cond.methodLink "RoundedNumbers" (147 : Nat) ({ cls := "java/lang/Math", name := "max", desc := "(JJ)J" } : Jvm.MethodName)) ∈ tb := List.mem_filter.mpr ⟨List.mem_append_right _ (List.mem_of_getElem? (i := 297) (by decide +kernel)), rfl⟩
set_option maxRecDepth 20000 in
theorem tw_298 : (Jvm.Cond.static ({ cls := "java/lang/Math", name := "max", desc := "(JJ)J" } : Jvm.MethodName)) ∈ tb := List.mem_filter.mpr ⟨List.mem_append_right _ (List.mem_of_getElem? (i := 298) (by decide +kernel)), rfl⟩
set_option maxRecDepth 20000 in
theorem tw_299 : (Jvm.Cond.code ({ cls := "java/lang/Math", name := "max", desc := "(JJ)J" } : Jvm.MethodName) prog_7_method_66_code (4 : Nat) (Option.some Jvm.ClassFile.FieldType.long)) ∈ tb := List.mem_filter.mpr ⟨List.mem_append_right _ (List.mem_of_getElem? (i := 299) rfl), rfl⟩
set_option maxRecDepth 20000 in
theorem tw_289 : (Jvm.Cond.constantLong "RoundedNumbers" (135 : Nat) (9223372036854775807 : Int64)) ∈ tb := List.mem_filter.mpr ⟨List.mem_append_right _ (List.mem_of_getElem? (i := 289) (by decide +kernel)), rfl⟩
set_option maxRecDepth 20000 in
theorem tw_287 : (Jvm.Cond.constantLong "RoundedNumbers" (131 : Nat) (-9223372036854775808 : Int64)) ∈ tb := List.mem_filter.mpr ⟨List.mem_append_right _ (List.mem_of_getElem? (i := 287) (by decide +kernel)), rfl⟩
set_option maxRecDepth 20000 in
theorem tw_307 : (Jvm.Cond.code ({ cls := "RoundedNumbers", name := "narrowRegisters", desc := "()I" } : Jvm.MethodName) prog_1_method_23_code (3 : Nat) (Option.some Jvm.ClassFile.FieldType.int)) ∈ tb := List.mem_filter.mpr ⟨List.mem_append_right _ (List.mem_of_getElem? (i := 307) rfl), rfl⟩
set_option maxRecDepth 20000 in
theorem tw_304 : (Jvm.Cond.methodLink "RoundedNumbers" (154 : Nat) ({ cls := "RoundedNumbers", name := "narrowRegisters", desc := "()I" } : Jvm.MethodName)) ∈ tb := List.mem_filter.mpr ⟨List.mem_append_right _ (List.mem_of_getElem? (i := 304) (by decide +kernel)), rfl⟩
set_option maxRecDepth 20000 in
theorem tw_306 : (Jvm.Cond.instanceMethod ({ cls := "RoundedNumbers", name := "narrowRegisters", desc := "()I" } : Jvm.MethodName)) ∈ tb := List.mem_filter.mpr ⟨List.mem_append_right _ (List.mem_of_getElem? (i := 306) (by decide +kernel)), rfl⟩
theorem ts_15 : (Jvm.Cond.selects "RoundedNumbers" ({ cls := "RoundedNumbers", name := "narrowRegisters", desc := "()I" } : Jvm.MethodName) ({ cls := "RoundedNumbers", name := "narrowRegisters", desc := "()I" } : Jvm.MethodName)) ∈ tb := List.mem_filter.mpr ⟨List.mem_append_left _ (List.mem_of_getElem? (i := 15) (by decide +kernel)), rfl⟩
set_option maxRecDepth 20000 in
theorem tw_363 : (Jvm.Cond.code ({ cls := "RoundedNumbersModel", name := "bits", desc := "(J)I" } : Jvm.MethodName) prog_4_method_3_code (5 : Nat) (Option.some Jvm.ClassFile.FieldType.int)) ∈ tb := List.mem_filter.mpr ⟨List.mem_append_right _ (List.mem_of_getElem? (i := 363) rfl), rfl⟩
set_option maxRecDepth 20000 in
theorem tw_361 : (Jvm.Cond.methodLink "RoundedNumbersModel" (29 : Nat) ({ cls := "RoundedNumbersModel", name := "bits", desc := "(J)I" } : Jvm.MethodName)) ∈ tb := List.mem_filter.mpr ⟨List.mem_append_right _ (List.mem_of_getElem? (i := 361) (by decide +kernel)), rfl⟩
set_option maxRecDepth 20000 in
theorem tw_362 : (Jvm.Cond.static ({ cls := "RoundedNumbersModel", name := "bits", desc := "(J)I" } : Jvm.MethodName)) ∈ tb := List.mem_filter.mpr ⟨List.mem_append_right _ (List.mem_of_getElem? (i := 362) (by decide +kernel)), rfl⟩
set_option maxRecDepth 20000 in
theorem tw_3 : (Jvm.Cond.initialized "RoundedNumbersModel") ∈ tb := List.mem_filter.mpr ⟨List.mem_append_right _ (List.mem_of_getElem? (i := 3) (by decide +kernel)), rfl⟩
set_option maxRecDepth 20000 in
theorem tw_314 : (Jvm.Cond.fieldLink "RoundedNumbersModel" (7 : Nat) "RoundedNumbersModel" "odds" "[J") ∈ tb := List.mem_filter.mpr ⟨List.mem_append_right _ (List.mem_of_getElem? (i := 314) (by decide +kernel)), rfl⟩
set_option maxRecDepth 20000 in
theorem tw_389 : (Jvm.Cond.constantLong "RoundedNumbersModel" (27 : Nat) (16777216 : Int64)) ∈ tb := List.mem_filter.mpr ⟨List.mem_append_right _ (List.mem_of_getElem? (i := 389) (by decide +kernel)), rfl⟩
set_option maxRecDepth 20000 in
theorem tw_319 : (Jvm.Cond.fieldLink "RoundedNumbersModel" (33 : Nat) "RoundedNumbersModel" "ranges" "I") ∈ tb := List.mem_filter.mpr ⟨List.mem_append_right _ (List.mem_of_getElem? (i := 319) (by decide +kernel)), rfl⟩
set_option maxRecDepth 20000 in
theorem tw_315 : (Jvm.Cond.fieldLink "RoundedNumbersModel" (13 : Nat) "RoundedNumbersModel" "exponents" "[I") ∈ tb := List.mem_filter.mpr ⟨List.mem_append_right _ (List.mem_of_getElem? (i := 315) (by decide +kernel)), rfl⟩
set_option maxRecDepth 20000 in
theorem tw_316 : (Jvm.Cond.fieldLink "RoundedNumbersModel" (17 : Nat) "RoundedNumbersModel" "below" "[Z") ∈ tb := List.mem_filter.mpr ⟨List.mem_append_right _ (List.mem_of_getElem? (i := 316) (by decide +kernel)), rfl⟩
set_option maxRecDepth 20000 in
theorem tw_372 : (Jvm.Cond.constantLong "RoundedNumbersModel" (37 : Nat) (2 : Int64)) ∈ tb := List.mem_filter.mpr ⟨List.mem_append_right _ (List.mem_of_getElem? (i := 372) (by decide +kernel)), rfl⟩
set_option maxRecDepth 20000 in
theorem tw_371 : (Jvm.Cond.code ({ cls := "RoundedNumbersModel", name := "store", desc := "(IZJI)V" } : Jvm.MethodName) prog_4_method_7_code (9 : Nat) (Option.none : Option Jvm.ClassFile.FieldType)) ∈ tb := List.mem_filter.mpr ⟨List.mem_append_right _ (List.mem_of_getElem? (i := 371) rfl), rfl⟩
set_option maxRecDepth 20000 in
theorem tw_368 : (Jvm.Cond.methodLink "RoundedNumbersModel" (47 : Nat) ({ cls := "RoundedNumbersModel", name := "store", desc := "(IZJI)V" } : Jvm.MethodName)) ∈ tb := List.mem_filter.mpr ⟨List.mem_append_right _ (List.mem_of_getElem? (i := 368) (by decide +kernel)), rfl⟩
set_option maxRecDepth 20000 in
theorem tw_370 : (Jvm.Cond.instanceMethod ({ cls := "RoundedNumbersModel", name := "store", desc := "(IZJI)V" } : Jvm.MethodName)) ∈ tb := List.mem_filter.mpr ⟨List.mem_append_right _ (List.mem_of_getElem? (i := 370) (by decide +kernel)), rfl⟩
theorem ts_17 : (Jvm.Cond.selects "RoundedNumbersModel" ({ cls := "RoundedNumbersModel", name := "store", desc := "(IZJI)V" } : Jvm.MethodName) ({ cls := "RoundedNumbersModel", name := "store", desc := "(IZJI)V" } : Jvm.MethodName)) ∈ tb := List.mem_filter.mpr ⟨List.mem_append_left _ (List.mem_of_getElem? (i := 17) (by decide +kernel)), rfl⟩
set_option maxRecDepth 20000 in
theorem tw_317 : (Jvm.Cond.fieldLink "RoundedNumbersModel" (51 : Nat) "RoundedNumbersModel" "lost" "I") ∈ tb := List.mem_filter.mpr ⟨List.mem_append_right _ (List.mem_of_getElem? (i := 317) (by decide +kernel)), rfl⟩
set_option maxRecDepth 20000 in
theorem tw_318 : (Jvm.Cond.fieldLink "RoundedNumbersModel" (54 : Nat) "RoundedNumbersModel" "inexact" "I") ∈ tb := List.mem_filter.mpr ⟨List.mem_append_right _ (List.mem_of_getElem? (i := 318) (by decide +kernel)), rfl⟩
set_option maxRecDepth 20000 in
theorem tw_360 : (Jvm.Cond.code ({ cls := "RoundedNumbersModel", name := "inRange", desc := "(JI)Z" } : Jvm.MethodName) prog_4_method_5_code (4 : Nat) (Option.some Jvm.ClassFile.FieldType.boolean)) ∈ tb := List.mem_filter.mpr ⟨List.mem_append_right _ (List.mem_of_getElem? (i := 360) rfl), rfl⟩
set_option maxRecDepth 20000 in
theorem tw_358 : (Jvm.Cond.methodLink "RoundedNumbersModel" (39 : Nat) ({ cls := "RoundedNumbersModel", name := "inRange", desc := "(JI)Z" } : Jvm.MethodName)) ∈ tb := List.mem_filter.mpr ⟨List.mem_append_right _ (List.mem_of_getElem? (i := 358) (by decide +kernel)), rfl⟩
set_option maxRecDepth 20000 in
theorem tw_359 : (Jvm.Cond.static ({ cls := "RoundedNumbersModel", name := "inRange", desc := "(JI)Z" } : Jvm.MethodName)) ∈ tb := List.mem_filter.mpr ⟨List.mem_append_right _ (List.mem_of_getElem? (i := 359) (by decide +kernel)), rfl⟩
set_option maxRecDepth 20000 in
theorem tw_367 : (Jvm.Cond.code ({ cls := "RoundedNumbersModel", name := "range", desc := "()I" } : Jvm.MethodName) prog_4_method_6_code (1 : Nat) (Option.some Jvm.ClassFile.FieldType.int)) ∈ tb := List.mem_filter.mpr ⟨List.mem_append_right _ (List.mem_of_getElem? (i := 367) rfl), rfl⟩
set_option maxRecDepth 20000 in
theorem tw_364 : (Jvm.Cond.methodLink "RoundedNumbersModel" (43 : Nat) ({ cls := "RoundedNumbersModel", name := "range", desc := "()I" } : Jvm.MethodName)) ∈ tb := List.mem_filter.mpr ⟨List.mem_append_right _ (List.mem_of_getElem? (i := 364) (by decide +kernel)), rfl⟩
set_option maxRecDepth 20000 in
theorem tw_366 : (Jvm.Cond.instanceMethod ({ cls := "RoundedNumbersModel", name := "range", desc := "()I" } : Jvm.MethodName)) ∈ tb := List.mem_filter.mpr ⟨List.mem_append_right _ (List.mem_of_getElem? (i := 366) (by decide +kernel)), rfl⟩
theorem ts_16 : (Jvm.Cond.selects "RoundedNumbersModel" ({ cls := "RoundedNumbersModel", name := "range", desc := "()I" } : Jvm.MethodName) ({ cls := "RoundedNumbersModel", name := "range", desc := "()I" } : Jvm.MethodName)) ∈ tb := List.mem_filter.mpr ⟨List.mem_append_left _ (List.mem_of_getElem? (i := 16) (by decide +kernel)), rfl⟩
set_option maxRecDepth 20000 in
theorem tw_322 : (Jvm.Cond.fieldLink "RoundedNumbersModel" (57 : Nat) "RoundedNumbersModel" "top" "J") ∈ tb := List.mem_filter.mpr ⟨List.mem_append_right _ (List.mem_of_getElem? (i := 322) (by decide +kernel)), rfl⟩
set_option maxRecDepth 20000 in
theorem tw_323 : (Jvm.Cond.fieldLink "RoundedNumbersModel" (61 : Nat) "RoundedNumbersModel" "topExponent" "I") ∈ tb := List.mem_filter.mpr ⟨List.mem_append_right _ (List.mem_of_getElem? (i := 323) (by decide +kernel)), rfl⟩
set_option maxRecDepth 20000 in
theorem tw_425 : (Jvm.Cond.code ({ cls := "RoundedNumbersModel", name := "finish", desc := "(IZJII)I" } : Jvm.MethodName) prog_4_method_8_code (7 : Nat) (Option.some Jvm.ClassFile.FieldType.int)) ∈ tb := List.mem_filter.mpr ⟨List.mem_append_right _ (List.mem_of_getElem? (i := 425) rfl), rfl⟩
set_option maxRecDepth 20000 in
theorem tw_422 : (Jvm.Cond.methodLink "RoundedNumbersModel" (64 : Nat) ({ cls := "RoundedNumbersModel", name := "finish", desc := "(IZJII)I" } : Jvm.MethodName)) ∈ tb := List.mem_filter.mpr ⟨List.mem_append_right _ (List.mem_of_getElem? (i := 422) (by decide +kernel)), rfl⟩
set_option maxRecDepth 20000 in
theorem tw_424 : (Jvm.Cond.instanceMethod ({ cls := "RoundedNumbersModel", name := "finish", desc := "(IZJII)I" } : Jvm.MethodName)) ∈ tb := List.mem_filter.mpr ⟨List.mem_append_right _ (List.mem_of_getElem? (i := 424) (by decide +kernel)), rfl⟩
theorem ts_24 : (Jvm.Cond.selects "RoundedNumbersModel" ({ cls := "RoundedNumbersModel", name := "finish", desc := "(IZJII)I" } : Jvm.MethodName) ({ cls := "RoundedNumbersModel", name := "finish", desc := "(IZJII)I" } : Jvm.MethodName)) ∈ tb := List.mem_filter.mpr ⟨List.mem_append_left _ (List.mem_of_getElem? (i := 24) (by decide +kernel)), rfl⟩
set_option maxRecDepth 20000 in
theorem tw_324 : (Jvm.Cond.fieldLink "RoundedNumbersModel" (68 : Nat) "RoundedNumbersModel" "rest" "Z") ∈ tb := List.mem_filter.mpr ⟨List.mem_append_right _ (List.mem_of_getElem? (i := 324) (by decide +kernel)), rfl⟩
set_option maxRecDepth 20000 in
theorem tw_396 : (Jvm.Cond.constantLong "RoundedNumbersModel" (72 : Nat) (268435455 : Int64)) ∈ tb := List.mem_filter.mpr ⟨List.mem_append_right _ (List.mem_of_getElem? (i := 396) (by decide +kernel)), rfl⟩
set_option maxRecDepth 20000 in
theorem tw_399 : (Jvm.Cond.code ({ cls := "RoundedNumbersModel", name := "addAt", desc := "([IIJ)V" } : Jvm.MethodName) prog_4_method_12_code (7 : Nat) (Option.none : Option Jvm.ClassFile.FieldType)) ∈ tb := List.mem_filter.mpr ⟨List.mem_append_right _ (List.mem_of_getElem? (i := 399) rfl), rfl⟩
set_option maxRecDepth 20000 in
theorem tw_397 : (Jvm.Cond.methodLink "RoundedNumbersModel" (74 : Nat) ({ cls := "RoundedNumbersModel", name := "addAt", desc := "([IIJ)V" } : Jvm.MethodName)) ∈ tb := List.mem_filter.mpr ⟨List.mem_append_right _ (List.mem_of_getElem? (i := 397) (by decide +kernel)), rfl⟩
set_option maxRecDepth 20000 in
theorem tw_398 : (Jvm.Cond.static ({ cls := "RoundedNumbersModel", name := "addAt", desc := "([IIJ)V" } : Jvm.MethodName)) ∈ tb := List.mem_filter.mpr ⟨List.mem_append_right _ (List.mem_of_getElem? (i := 398) (by decide +kernel)), rfl⟩
set_option maxRecDepth 20000 in
theorem tw_441 : (Jvm.Cond.constantLong "RoundedNumbersModel" (78 : Nat) (134217727 : Int64)) ∈ tb := List.mem_filter.mpr ⟨List.mem_append_right _ (List.mem_of_getElem? (i := 441) (by decide +kernel)), rfl⟩
set_option maxRecDepth 20000 in
theorem tw_395 : (Jvm.Cond.code ({ cls := "RoundedNumbersModel", name := "addShifted", desc := "([IJI)V" } : Jvm.MethodName) prog_4_method_13_code (6 : Nat) (Option.none : Option Jvm.ClassFile.FieldType)) ∈ tb := List.mem_filter.mpr ⟨List.mem_append_right _ (List.mem_of_getElem? (i := 395) rfl), rfl⟩
set_option maxRecDepth 20000 in
theorem tw_393 : (Jvm.Cond.methodLink "RoundedNumbersModel" (80 : Nat) ({ cls := "RoundedNumbersModel", name := "addShifted", desc := "([IJI)V" } : Jvm.MethodName)) ∈ tb := List.mem_filter.mpr ⟨List.mem_append_right _ (List.mem_of_getElem? (i := 393) (by decide +kernel)), rfl⟩
set_option maxRecDepth 20000 in
theorem tw_394 : (Jvm.Cond.static ({ cls := "RoundedNumbersModel", name := "addShifted", desc := "([IJI)V" } : Jvm.MethodName)) ∈ tb := List.mem_filter.mpr ⟨List.mem_append_right _ (List.mem_of_getElem? (i := 394) (by decide +kernel)), rfl⟩
set_option maxRecDepth 20000 in
theorem tw_413 : (Jvm.Cond.constant "RoundedNumbersModel" (84 : Nat) (268435455 : Int32)) ∈ tb := List.mem_filter.mpr ⟨List.mem_append_right _ (List.mem_of_getElem? (i := 413) (by decide +kernel)), rfl⟩
set_option maxRecDepth 20000 in
theorem tw_320 : (Jvm.Cond.fieldLink "RoundedNumbersModel" (21 : Nat) "RoundedNumbersModel" "big" "[I") ∈ tb := List.mem_filter.mpr ⟨List.mem_append_right _ (List.mem_of_getElem? (i := 320) (by decide +kernel)), rfl⟩
set_option maxRecDepth 20000 in
theorem tw_321 : (Jvm.Cond.fieldLink "RoundedNumbersModel" (24 : Nat) "RoundedNumbersModel" "other" "[I") ∈ tb := List.mem_filter.mpr ⟨List.mem_append_right _ (List.mem_of_getElem? (i := 321) (by decide +kernel)), rfl⟩
set_option maxRecDepth 20000 in
theorem tw_409 : (Jvm.Cond.code ({ cls := "RoundedNumbersModel", name := "compareBig", desc := "([I[I)I" } : Jvm.MethodName) prog_4_method_15_code (3 : Nat) (Option.some Jvm.ClassFile.FieldType.int)) ∈ tb := List.mem_filter.mpr ⟨List.mem_append_right _ (List.mem_of_getElem? (i := 409) rfl), rfl⟩
set_option maxRecDepth 20000 in
theorem tw_407 : (Jvm.Cond.methodLink "RoundedNumbersModel" (85 : Nat) ({ cls := "RoundedNumbersModel", name := "compareBig", desc := "([I[I)I" } : Jvm.MethodName)) ∈ tb := List.mem_filter.mpr ⟨List.mem_append_right _ (List.mem_of_getElem? (i := 407) (by decide +kernel)), rfl⟩
set_option maxRecDepth 20000 in
theorem tw_408 : (Jvm.Cond.static ({ cls := "RoundedNumbersModel", name := "compareBig", desc := "([I[I)I" } : Jvm.MethodName)) ∈ tb := List.mem_filter.mpr ⟨List.mem_append_right _ (List.mem_of_getElem? (i := 408) (by decide +kernel)), rfl⟩
set_option maxRecDepth 20000 in
theorem tw_412 : (Jvm.Cond.code ({ cls := "RoundedNumbersModel", name := "takeAway", desc := "([I[I)V" } : Jvm.MethodName) prog_4_method_16_code (5 : Nat) (Option.none : Option Jvm.ClassFile.FieldType)) ∈ tb := List.mem_filter.mpr ⟨List.mem_append_right _ (List.mem_of_getElem? (i := 412) rfl), rfl⟩
set_option maxRecDepth 20000 in
theorem tw_410 : (Jvm.Cond.methodLink "RoundedNumbersModel" (89 : Nat) ({ cls := "RoundedNumbersModel", name := "takeAway", desc := "([I[I)V" } : Jvm.MethodName)) ∈ tb := List.mem_filter.mpr ⟨List.mem_append_right _ (List.mem_of_getElem? (i := 410) (by decide +kernel)), rfl⟩
set_option maxRecDepth 20000 in
theorem tw_411 : (Jvm.Cond.static ({ cls := "RoundedNumbersModel", name := "takeAway", desc := "([I[I)V" } : Jvm.MethodName)) ∈ tb := List.mem_filter.mpr ⟨List.mem_append_right _ (List.mem_of_getElem? (i := 411) (by decide +kernel)), rfl⟩
set_option maxRecDepth 20000 in
theorem tw_417 : (Jvm.Cond.code ({ cls := "RoundedNumbersModel", name := "takeTop", desc := "([II)V" } : Jvm.MethodName) prog_4_method_17_code (6 : Nat) (Option.none : Option Jvm.ClassFile.FieldType)) ∈ tb := List.mem_filter.mpr ⟨List.mem_append_right _ (List.mem_of_getElem? (i := 417) rfl), rfl⟩
set_option maxRecDepth 20000 in
theorem tw_414 : (Jvm.Cond.methodLink "RoundedNumbersModel" (93 : Nat) ({ cls := "RoundedNumbersModel", name := "takeTop", desc := "([II)V" } : Jvm.MethodName)) ∈ tb := List.mem_filter.mpr ⟨List.mem_append_right _ (List.mem_of_getElem? (i := 414) (by decide +kernel)), rfl⟩
set_option maxRecDepth 20000 in
theorem tw_416 : (Jvm.Cond.instanceMethod ({ cls := "RoundedNumbersModel", name := "takeTop", desc := "([II)V" } : Jvm.MethodName)) ∈ tb := List.mem_filter.mpr ⟨List.mem_append_right _ (List.mem_of_getElem? (i := 416) (by decide +kernel)), rfl⟩
theorem ts_22 : (Jvm.Cond.selects "RoundedNumbersModel" ({ cls := "RoundedNumbersModel", name := "takeTop", desc := "([II)V" } : Jvm.MethodName) ({ cls := "RoundedNumbersModel", name := "takeTop", desc := "([II)V" } : Jvm.MethodName)) ∈ tb := List.mem_filter.mpr ⟨List.mem_append_left _ (List.mem_of_getElem? (i := 22) (by decide +kernel)), rfl⟩
set_option maxRecDepth 20000 in
theorem tw_421 : (Jvm.Cond.code ({ cls := "RoundedNumbersModel", name := "round", desc := "(IZI)I" } : Jvm.MethodName) prog_4_method_9_code (12 : Nat) (Option.some Jvm.ClassFile.FieldType.int)) ∈ tb := List.mem_filter.mpr ⟨List.mem_append_right _ (List.mem_of_getElem? (i := 421) rfl), rfl⟩
set_option maxRecDepth 20000 in
theorem tw_418 : (Jvm.Cond.methodLink "RoundedNumbersModel" (97 : Nat) ({ cls := "RoundedNumbersModel", name := "round", desc := "(IZI)I" } : Jvm.MethodName)) ∈ tb := List.mem_filter.mpr ⟨List.mem_append_right _ (List.mem_of_getElem? (i := 418) (by decide +kernel)), rfl⟩
set_option maxRecDepth 20000 in
theorem tw_420 : (Jvm.Cond.instanceMethod ({ cls := "RoundedNumbersModel", name := "round", desc := "(IZI)I" } : Jvm.MethodName)) ∈ tb := List.mem_filter.mpr ⟨List.mem_append_right _ (List.mem_of_getElem? (i := 420) (by decide +kernel)), rfl⟩
theorem ts_23 : (Jvm.Cond.selects "RoundedNumbersModel" ({ cls := "RoundedNumbersModel", name := "round", desc := "(IZI)I" } : Jvm.MethodName) ({ cls := "RoundedNumbersModel", name := "round", desc := "(IZI)I" } : Jvm.MethodName)) ∈ tb := List.mem_filter.mpr ⟨List.mem_append_left _ (List.mem_of_getElem? (i := 23) (by decide +kernel)), rfl⟩
set_option maxRecDepth 20000 in
theorem tw_355 : (Jvm.Cond.code ({ cls := "RoundedNumbersModel", name := "out", desc := "(I)Z" } : Jvm.MethodName) prog_4_method_2_code (1 : Nat) (Option.some Jvm.ClassFile.FieldType.boolean)) ∈ tb := List.mem_filter.mpr ⟨List.mem_append_right _ (List.mem_of_getElem? (i := 355) rfl), rfl⟩
set_option maxRecDepth 20000 in
theorem tw_353 : (Jvm.Cond.methodLink "RoundedNumbersModel" (101 : Nat) ({ cls := "RoundedNumbersModel", name := "out", desc := "(I)Z" } : Jvm.MethodName)) ∈ tb := List.mem_filter.mpr ⟨List.mem_append_right _ (List.mem_of_getElem? (i := 353) (by decide +kernel)), rfl⟩
set_option maxRecDepth 20000 in
theorem tw_354 : (Jvm.Cond.static ({ cls := "RoundedNumbersModel", name := "out", desc := "(I)Z" } : Jvm.MethodName)) ∈ tb := List.mem_filter.mpr ⟨List.mem_append_right _ (List.mem_of_getElem? (i := 354) (by decide +kernel)), rfl⟩
set_option maxRecDepth 20000 in
theorem tw_356 : (Jvm.Cond.constantLong "RoundedNumbersModel" (105 : Nat) (-9007199254740991 : Int64)) ∈ tb := List.mem_filter.mpr ⟨List.mem_append_right _ (List.mem_of_getElem? (i := 356) (by decide +kernel)), rfl⟩
set_option maxRecDepth 20000 in
theorem tw_357 : (Jvm.Cond.constantLong "RoundedNumbersModel" (107 : Nat) (9007199254740991 : Int64)) ∈ tb := List.mem_filter.mpr ⟨List.mem_append_right _ (List.mem_of_getElem? (i := 357) (by decide +kernel)), rfl⟩
set_option maxRecDepth 20000 in
theorem tw_388 : (Jvm.Cond.code ({ cls := "RoundedNumbersModel", name := "narrow", desc := "(I)Z" } : Jvm.MethodName) prog_4_method_4_code (2 : Nat) (Option.some Jvm.ClassFile.FieldType.boolean)) ∈ tb := List.mem_filter.mpr ⟨List.mem_append_right _ (List.mem_of_getElem? (i := 388) rfl), rfl⟩
set_option maxRecDepth 20000 in
theorem tw_385 : (Jvm.Cond.methodLink "RoundedNumbersModel" (109 : Nat) ({ cls := "RoundedNumbersModel", name := "narrow", desc := "(I)Z" } : Jvm.MethodName)) ∈ tb := List.mem_filter.mpr ⟨List.mem_append_right _ (List.mem_of_getElem? (i := 385) (by decide +kernel)), rfl⟩
set_option maxRecDepth 20000 in
theorem tw_387 : (Jvm.Cond.instanceMethod ({ cls := "RoundedNumbersModel", name := "narrow", desc := "(I)Z" } : Jvm.MethodName)) ∈ tb := List.mem_filter.mpr ⟨List.mem_append_right _ (List.mem_of_getElem? (i := 387) (by decide +kernel)), rfl⟩
theorem ts_20 : (Jvm.Cond.selects "RoundedNumbersModel" ({ cls := "RoundedNumbersModel", name := "narrow", desc := "(I)Z" } : Jvm.MethodName) ({ cls := "RoundedNumbersModel", name := "narrow", desc := "(I)Z" } : Jvm.MethodName)) ∈ tb := List.mem_filter.mpr ⟨List.mem_append_left _ (List.mem_of_getElem? (i := 20) (by decide +kernel)), rfl⟩
set_option maxRecDepth 20000 in
theorem tw_384 : (Jvm.Cond.code ({ cls := "RoundedNumbersModel", name := "refused", desc := "(IIIZ)Z" } : Jvm.MethodName) prog_4_method_20_code (5 : Nat) (Option.some Jvm.ClassFile.FieldType.boolean)) ∈ tb := List.mem_filter.mpr ⟨List.mem_append_right _ (List.mem_of_getElem? (i := 384) rfl), rfl⟩
set_option maxRecDepth 20000 in
theorem tw_381 : (Jvm.Cond.methodLink "RoundedNumbersModel" (112 : Nat) ({ cls := "RoundedNumbersModel", name := "refused", desc := "(IIIZ)Z" } : Jvm.MethodName)) ∈ tb := List.mem_filter.mpr ⟨List.mem_append_right _ (List.mem_of_getElem? (i := 381) (by decide +kernel)), rfl⟩
set_option maxRecDepth 20000 in
theorem tw_383 : (Jvm.Cond.instanceMethod ({ cls := "RoundedNumbersModel", name := "refused", desc := "(IIIZ)Z" } : Jvm.MethodName)) ∈ tb := List.mem_filter.mpr ⟨List.mem_append_right _ (List.mem_of_getElem? (i := 383) (by decide +kernel)), rfl⟩
theorem ts_19 : (Jvm.Cond.selects "RoundedNumbersModel" ({ cls := "RoundedNumbersModel", name := "refused", desc := "(IIIZ)Z" } : Jvm.MethodName) ({ cls := "RoundedNumbersModel", name := "refused", desc := "(IIIZ)Z" } : Jvm.MethodName)) ∈ tb := List.mem_filter.mpr ⟨List.mem_append_left _ (List.mem_of_getElem? (i := 19) (by decide +kernel)), rfl⟩
set_option maxRecDepth 20000 in
theorem tw_392 : (Jvm.Cond.code ({ cls := "RoundedNumbersModel", name := "clear", desc := "([I)V" } : Jvm.MethodName) prog_4_method_11_code (2 : Nat) (Option.none : Option Jvm.ClassFile.FieldType)) ∈ tb := List.mem_filter.mpr ⟨List.mem_append_right _ (List.mem_of_getElem? (i := 392) rfl), rfl⟩
set_option maxRecDepth 20000 in
theorem tw_390 : (Jvm.Cond.methodLink "RoundedNumbersModel" (116 : Nat) ({ cls := "RoundedNumbersModel", name := "clear", desc := "([I)V" } : Jvm.MethodName)) ∈ tb := List.mem_filter.mpr ⟨List.mem_append_right _ (List.mem_of_getElem? (i := 390) (by decide +kernel)), rfl⟩
set_option maxRecDepth 20000 in
theorem tw_391 : (Jvm.Cond.static ({ cls := "RoundedNumbersModel", name := "clear", desc := "([I)V" } : Jvm.MethodName)) ∈ tb := List.mem_filter.mpr ⟨List.mem_append_right _ (List.mem_of_getElem? (i := 391) (by decide +kernel)), rfl⟩
set_option maxRecDepth 20000 in
theorem tw_402 : (Jvm.Cond.code ({ cls := "RoundedNumbersModel", name := "size", desc := "(Z)I" } : Jvm.MethodName) prog_4_method_10_code (1 : Nat) (Option.some Jvm.ClassFile.FieldType.int)) ∈ tb := List.mem_filter.mpr ⟨List.mem_append_right _ (List.mem_of_getElem? (i := 402) rfl), rfl⟩
set_option maxRecDepth 20000 in
theorem tw_400 : (Jvm.Cond.methodLink "RoundedNumbersModel" (120 : Nat) ({ cls := "RoundedNumbersModel", name := "size", desc := "(Z)I" } : Jvm.MethodName)) ∈ tb := List.mem_filter.mpr ⟨List.mem_append_right _ (List.mem_of_getElem? (i := 400) (by decide +kernel)), rfl⟩
set_option maxRecDepth 20000 in
theorem tw_401 : (Jvm.Cond.static ({ cls := "RoundedNumbersModel", name := "size", desc := "(Z)I" } : Jvm.MethodName)) ∈ tb := List.mem_filter.mpr ⟨List.mem_append_right _ (List.mem_of_getElem? (i := 401) (by decide +kernel)), rfl⟩
set_option maxRecDepth 20000 in
theorem tw_406 : (Jvm.Cond.code ({ cls := "RoundedNumbersModel", name := "sum", desc := "(IZZI)I" } : Jvm.MethodName) prog_4_method_18_code (7 : Nat) (Option.some Jvm.ClassFile.FieldType.int)) ∈ tb := List.mem_filter.mpr ⟨List.mem_append_right _ (List.mem_of_getElem? (i := 406) rfl), rfl⟩
set_option maxRecDepth 20000 in
theorem tw_403 : (Jvm.Cond.methodLink "RoundedNumbersModel" (124 : Nat) ({ cls := "RoundedNumbersModel", name := "sum", desc := "(IZZI)I" } : Jvm.MethodName)) ∈ tb := List.mem_filter.mpr ⟨List.mem_append_right _ (List.mem_of_getElem? (i := 403) (by decide +kernel)), rfl⟩
set_option maxRecDepth 20000 in
theorem tw_405 : (Jvm.Cond.instanceMethod ({ cls := "RoundedNumbersModel", name := "sum", desc := "(IZZI)I" } : Jvm.MethodName)) ∈ tb := List.mem_filter.mpr ⟨List.mem_append_right _ (List.mem_of_getElem? (i := 405) (by decide +kernel)), rfl⟩
theorem ts_21 : (Jvm.Cond.selects "RoundedNumbersModel" ({ cls := "RoundedNumbersModel", name := "sum", desc := "(IZZI)I" } : Jvm.MethodName) ({ cls := "RoundedNumbersModel", name := "sum", desc := "(IZZI)I" } : Jvm.MethodName)) ∈ tb := List.mem_filter.mpr ⟨List.mem_append_left _ (List.mem_of_getElem? (i := 21) (by decide +kernel)), rfl⟩
set_option maxRecDepth 20000 in
theorem tw_380 : (Jvm.Cond.code ({ cls := "RoundedNumbersModel", name := "addition", desc := "(IIIZZ)I" } : Jvm.MethodName) prog_4_method_21_code (6 : Nat) (Option.some Jvm.ClassFile.FieldType.int)) ∈ tb := List.mem_filter.mpr ⟨List.mem_append_right _ (List.mem_of_getElem? (i := 380) rfl), rfl⟩
set_option maxRecDepth 20000 in
theorem tw_377 : (Jvm.Cond.methodLink "RoundedNumbersModel" (128 : Nat) ({ cls := "RoundedNumbersModel", name := "addition", desc := "(IIIZZ)I" } : Jvm.MethodName)) ∈ tb := List.mem_filter.mpr ⟨List.mem_append_right _ (List.mem_of_getElem? (i := 377) (by decide +kernel)), rfl⟩
set_option maxRecDepth 20000 in
theorem tw_379 : (Jvm.Cond.instanceMethod ({ cls := "RoundedNumbersModel", name := "addition", desc := "(IIIZZ)I" } : Jvm.MethodName)) ∈ tb := List.mem_filter.mpr ⟨List.mem_append_right _ (List.mem_of_getElem? (i := 379) (by decide +kernel)), rfl⟩
theorem ts_18 : (Jvm.Cond.selects "RoundedNumbersModel" ({ cls := "RoundedNumbersModel", name := "addition", desc := "(IIIZZ)I" } : Jvm.MethodName) ({ cls := "RoundedNumbersModel", name := "addition", desc := "(IIIZZ)I" } : Jvm.MethodName)) ∈ tb := List.mem_filter.mpr ⟨List.mem_append_left _ (List.mem_of_getElem? (i := 18) (by decide +kernel)), rfl⟩
set_option maxRecDepth 20000 in
theorem tw_440 : (Jvm.Cond.code ({ cls := "RoundedNumbersModel", name := "addProduct", desc := "([IJJI)V" } : Jvm.MethodName) prog_4_method_14_code (14 : Nat) (Option.none : Option Jvm.ClassFile.FieldType)) ∈ tb := List.mem_filter.mpr ⟨List.mem_append_right _ (List.mem_of_getElem? (i := 440) rfl), rfl⟩
set_option maxRecDepth 20000 in
theorem tw_438 : (Jvm.Cond.methodLink "RoundedNumbersModel" (132 : Nat) ({ cls := "RoundedNumbersModel", name := "addProduct", desc := "([IJJI)V" } : Jvm.MethodName)) ∈ tb := List.mem_filter.mpr ⟨List.mem_append_right _ (List.mem_of_getElem? (i := 438) (by decide +kernel)), rfl⟩
set_option maxRecDepth 20000 in
theorem tw_439 : (Jvm.Cond.static ({ cls := "RoundedNumbersModel", name := "addProduct", desc := "([IJJI)V" } : Jvm.MethodName)) ∈ tb := List.mem_filter.mpr ⟨List.mem_append_right _ (List.mem_of_getElem? (i := 439) (by decide +kernel)), rfl⟩
set_option maxRecDepth 20000 in
theorem tw_437 : (Jvm.Cond.code ({ cls := "RoundedNumbersModel", name := "fused", desc := "(IIIII)I" } : Jvm.MethodName) prog_4_method_24_code (7 : Nat) (Option.some Jvm.ClassFile.FieldType.int)) ∈ tb := List.mem_filter.mpr ⟨List.mem_append_right _ (List.mem_of_getElem? (i := 437) rfl), rfl⟩
set_option maxRecDepth 20000 in
theorem tw_434 : (Jvm.Cond.methodLink "RoundedNumbersModel" (136 : Nat) ({ cls := "RoundedNumbersModel", name := "fused", desc := "(IIIII)I" } : Jvm.MethodName)) ∈ tb := List.mem_filter.mpr ⟨List.mem_append_right _ (List.mem_of_getElem? (i := 434) (by decide +kernel)), rfl⟩
set_option maxRecDepth 20000 in
theorem tw_436 : (Jvm.Cond.instanceMethod ({ cls := "RoundedNumbersModel", name := "fused", desc := "(IIIII)I" } : Jvm.MethodName)) ∈ tb := List.mem_filter.mpr ⟨List.mem_append_right _ (List.mem_of_getElem? (i := 436) (by decide +kernel)), rfl⟩
theorem ts_25 : (Jvm.Cond.selects "RoundedNumbersModel" ({ cls := "RoundedNumbersModel", name := "fused", desc := "(IIIII)I" } : Jvm.MethodName) ({ cls := "RoundedNumbersModel", name := "fused", desc := "(IIIII)I" } : Jvm.MethodName)) ∈ tb := List.mem_filter.mpr ⟨List.mem_append_left _ (List.mem_of_getElem? (i := 25) (by decide +kernel)), rfl⟩
set_option maxRecDepth 20000 in
theorem tw_458 : (Jvm.Cond.constantLong "RoundedNumbersModel" (140 : Nat) (4 : Int64)) ∈ tb := List.mem_filter.mpr ⟨List.mem_append_right _ (List.mem_of_getElem? (i := 458) (by decide +kernel)), rfl⟩
set_option maxRecDepth 20000 in
theorem tw_459 : (Jvm.Cond.constantLong "RoundedNumbersModel" (142 : Nat) (3 : Int64)) ∈ tb := List.mem_filter.mpr ⟨List.mem_append_right _ (List.mem_of_getElem? (i := 459) (by decide +kernel)), rfl⟩
set_option maxRecDepth 20000 in
theorem tw_467 : (Jvm.Cond.code ({ cls := "RoundedNumbersModel", name := "compareSizes", desc := "(III)I" } : Jvm.MethodName) prog_4_method_30_code (12 : Nat) (Option.some Jvm.ClassFile.FieldType.int)) ∈ tb := List.mem_filter.mpr ⟨List.mem_append_right _ (List.mem_of_getElem? (i := 467) rfl), rfl⟩
set_option maxRecDepth 20000 in
theorem tw_464 : (Jvm.Cond.methodLink "RoundedNumbersModel" (144 : Nat) ({ cls := "RoundedNumbersModel", name := "compareSizes", desc := "(III)I" } : Jvm.MethodName)) ∈ tb := List.mem_filter.mpr ⟨List.mem_append_right _ (List.mem_of_getElem? (i := 464) (by decide +kernel)), rfl⟩
set_option maxRecDepth 20000 in
theorem tw_466 : (Jvm.Cond.instanceMethod ({ cls := "RoundedNumbersModel", name := "compareSizes", desc := "(III)I" } : Jvm.MethodName)) ∈ tb := List.mem_filter.mpr ⟨List.mem_append_right _ (List.mem_of_getElem? (i := 466) (by decide +kernel)), rfl⟩
theorem ts_26 : (Jvm.Cond.selects "RoundedNumbersModel" ({ cls := "RoundedNumbersModel", name := "compareSizes", desc := "(III)I" } : Jvm.MethodName) ({ cls := "RoundedNumbersModel", name := "compareSizes", desc := "(III)I" } : Jvm.MethodName)) ∈ tb := List.mem_filter.mpr ⟨List.mem_append_left _ (List.mem_of_getElem? (i := 26) (by decide +kernel)), rfl⟩
set_option maxRecDepth 20000 in
theorem tw_483 : (Jvm.Cond.code ({ cls := "RoundedNumbersModel", name := "toward", desc := "(IZJI)I" } : Jvm.MethodName) prog_4_method_35_code (6 : Nat) (Option.some Jvm.ClassFile.FieldType.int)) ∈ tb := List.mem_filter.mpr ⟨List.mem_append_right _ (List.mem_of_getElem? (i := 483) rfl), rfl⟩
set_option maxRecDepth 20000 in
theorem tw_480 : (Jvm.Cond.methodLink "RoundedNumbersModel" (148 : Nat) ({ cls := "RoundedNumbersModel", name := "toward", desc := "(IZJI)I" } : Jvm.MethodName)) ∈ tb := List.mem_filter.mpr ⟨List.mem_append_right _ (List.mem_of_getElem? (i := 480) (by decide +kernel)), rfl⟩
set_option maxRecDepth 20000 in
theorem tw_482 : (Jvm.Cond.instanceMethod ({ cls := "RoundedNumbersModel", name := "toward", desc := "(IZJI)I" } : Jvm.MethodName)) ∈ tb := List.mem_filter.mpr ⟨List.mem_append_right _ (List.mem_of_getElem? (i := 482) (by decide +kernel)), rfl⟩
theorem ts_27 : (Jvm.Cond.selects "RoundedNumbersModel" ({ cls := "RoundedNumbersModel", name := "toward", desc := "(IZJI)I" } : Jvm.MethodName) ({ cls := "RoundedNumbersModel", name := "toward", desc := "(IZJI)I" } : Jvm.MethodName)) ∈ tb := List.mem_filter.mpr ⟨List.mem_append_left _ (List.mem_of_getElem? (i := 27) (by decide +kernel)), rfl⟩
set_option maxRecDepth 20000 in
theorem tw_495 : (Jvm.Cond.code ({ cls := "RoundedNumbersModel", name := "cube", desc := "(JI)V" } : Jvm.MethodName) prog_4_method_36_code (5 : Nat) (Option.none : Option Jvm.ClassFile.FieldType)) ∈ tb := List.mem_filter.mpr ⟨List.mem_append_right _ (List.mem_of_getElem? (i := 495) rfl), rfl⟩
set_option maxRecDepth 20000 in
theorem tw_492 : (Jvm.Cond.methodLink "RoundedNumbersModel" (152 : Nat) ({ cls := "RoundedNumbersModel", name := "cube", desc := "(JI)V" } : Jvm.MethodName)) ∈ tb := List.mem_filter.mpr ⟨List.mem_append_right _ (List.mem_of_getElem? (i := 492) (by decide +kernel)), rfl⟩
set_option maxRecDepth 20000 in
theorem tw_494 : (Jvm.Cond.instanceMethod ({ cls := "RoundedNumbersModel", name := "cube", desc := "(JI)V" } : Jvm.MethodName)) ∈ tb := List.mem_filter.mpr ⟨List.mem_append_right _ (List.mem_of_getElem? (i := 494) (by decide +kernel)), rfl⟩
theorem ts_29 : (Jvm.Cond.selects "RoundedNumbersModel" ({ cls := "RoundedNumbersModel", name := "cube", desc := "(JI)V" } : Jvm.MethodName) ({ cls := "RoundedNumbersModel", name := "cube", desc := "(JI)V" } : Jvm.MethodName)) ∈ tb := List.mem_filter.mpr ⟨List.mem_append_left _ (List.mem_of_getElem? (i := 29) (by decide +kernel)), rfl⟩
set_option maxRecDepth 20000 in
theorem tw_491 : (Jvm.Cond.code ({ cls := "RoundedNumbersModel", name := "cubeAgainst", desc := "(JII)I" } : Jvm.MethodName) prog_4_method_37_code (8 : Nat) (Option.some Jvm.ClassFile.FieldType.int)) ∈ tb := List.mem_filter.mpr ⟨List.mem_append_right _ (List.mem_of_getElem? (i := 491) rfl), rfl⟩
set_option maxRecDepth 20000 in
theorem tw_488 : (Jvm.Cond.methodLink "RoundedNumbersModel" (156 : Nat) ({ cls := "RoundedNumbersModel", name := "cubeAgainst", desc := "(JII)I" } : Jvm.MethodName)) ∈ tb := List.mem_filter.mpr ⟨List.mem_append_right _ (List.mem_of_getElem? (i := 488) (by decide +kernel)), rfl⟩
set_option maxRecDepth 20000 in
theorem tw_490 : (Jvm.Cond.instanceMethod ({ cls := "RoundedNumbersModel", name := "cubeAgainst", desc := "(JII)I" } : Jvm.MethodName)) ∈ tb := List.mem_filter.mpr ⟨List.mem_append_right _ (List.mem_of_getElem? (i := 490) (by decide +kernel)), rfl⟩
theorem ts_28 : (Jvm.Cond.selects "RoundedNumbersModel" ({ cls := "RoundedNumbersModel", name := "cubeAgainst", desc := "(JII)I" } : Jvm.MethodName) ({ cls := "RoundedNumbersModel", name := "cubeAgainst", desc := "(JII)I" } : Jvm.MethodName)) ∈ tb := List.mem_filter.mpr ⟨List.mem_append_left _ (List.mem_of_getElem? (i := 28) (by decide +kernel)), rfl⟩
set_option maxRecDepth 20000 in
theorem tw_504 : (Jvm.Cond.constantLong "RoundedNumbersModel" (160 : Nat) (-4611686018427387904 : Int64)) ∈ tb := List.mem_filter.mpr ⟨List.mem_append_right _ (List.mem_of_getElem? (i := 504) (by decide +kernel)), rfl⟩
set_option maxRecDepth 20000 in
theorem tw_514 : (Jvm.Cond.constantLong "RoundedNumbersModel" (164 : Nat) (2147483647 : Int64)) ∈ tb := List.mem_filter.mpr ⟨List.mem_append_right _ (List.mem_of_getElem? (i := 514) (by decide +kernel)), rfl⟩
set_option maxRecDepth 20000 in
theorem tw_513 : (Jvm.Cond.constantLong "RoundedNumbersModel" (162 : Nat) (9223372036854775807 : Int64)) ∈ tb := List.mem_filter.mpr ⟨List.mem_append_right _ (List.mem_of_getElem? (i := 513) (by decide +kernel)), rfl⟩
set_option maxRecDepth 20000 in
theorem tw_20 : (Jvm.Cond.methodLink "RoundedNumbers$Exact" (3 : Nat) ({ cls := "java/lang/Object", name := "<init>", desc := "()V" } : Jvm.MethodName)) ∈ tb := List.mem_filter.mpr ⟨List.mem_append_right _ (List.mem_of_getElem? (i := 20) (by decide +kernel)), rfl⟩
set_option maxRecDepth 20000 in
theorem tw_13 : (Jvm.Cond.instanceMethod ({ cls := "java/lang/Object", name := "<init>", desc := "()V" } : Jvm.MethodName)) ∈ tb := List.mem_filter.mpr ⟨List.mem_append_right _ (List.mem_of_getElem? (i := 13) (by decide +kernel)), rfl⟩
set_option maxRecDepth 20000 in
theorem tw_14 : (Jvm.Cond.code ({ cls := "java/lang/Object", name := "<init>", desc := "()V" } : Jvm.MethodName) object_method_1_code (1 : Nat) (Option.none : Option Jvm.ClassFile.FieldType)) ∈ tb := List.mem_filter.mpr ⟨List.mem_append_right _ (List.mem_of_getElem? (i := 14) rfl), rfl⟩
set_option maxRecDepth 20000 in
theorem tw_12 : (Jvm.Cond.methodLink "RoundedNumbers" (3 : Nat) ({ cls := "java/lang/Object", name := "<init>", desc := "()V" } : Jvm.MethodName)) ∈ tb := List.mem_filter.mpr ⟨List.mem_append_right _ (List.mem_of_getElem? (i := 12) (by decide +kernel)), rfl⟩
set_option maxRecDepth 20000 in
theorem tw_41 : (Jvm.Cond.arrayClass Jvm.ClassFile.FieldType.long) ∈ tb := List.mem_filter.mpr ⟨List.mem_append_right _ (List.mem_of_getElem? (i := 41) (by decide +kernel)), rfl⟩
set_option maxRecDepth 20000 in
theorem tw_42 : (Jvm.Cond.arrayClass Jvm.ClassFile.FieldType.int) ∈ tb := List.mem_filter.mpr ⟨List.mem_append_right _ (List.mem_of_getElem? (i := 42) (by decide +kernel)), rfl⟩
set_option maxRecDepth 20000 in
theorem tw_15 : (Jvm.Cond.classLink "RoundedNumbers" (17 : Nat) "RoundedNumbers$Exact") ∈ tb := List.mem_filter.mpr ⟨List.mem_append_right _ (List.mem_of_getElem? (i := 15) (by decide +kernel)), rfl⟩
set_option maxRecDepth 20000 in
theorem tw_16 : (Jvm.Cond.instantiable "RoundedNumbers$Exact" (5 : Nat)) ∈ tb := List.mem_filter.mpr ⟨List.mem_append_right _ (List.mem_of_getElem? (i := 16) (by decide +kernel)), rfl⟩
set_option maxRecDepth 20000 in
theorem tw_19 : (Jvm.Cond.code ({ cls := "RoundedNumbers$Exact", name := "<init>", desc := "()V" } : Jvm.MethodName) prog_2_method_1_code (1 : Nat) (Option.none : Option Jvm.ClassFile.FieldType)) ∈ tb := List.mem_filter.mpr ⟨List.mem_append_right _ (List.mem_of_getElem? (i := 19) rfl), rfl⟩
set_option maxRecDepth 20000 in
theorem tw_18 : (Jvm.Cond.instanceMethod ({ cls := "RoundedNumbers$Exact", name := "<init>", desc := "()V" } : Jvm.MethodName)) ∈ tb := List.mem_filter.mpr ⟨List.mem_append_right _ (List.mem_of_getElem? (i := 18) (by decide +kernel)), rfl⟩
set_option maxRecDepth 20000 in
theorem tw_313 : (Jvm.Cond.methodLink "RoundedNumbersModel" (1 : Nat) ({ cls := "java/lang/Object", name := "<init>", desc := "()V" } : Jvm.MethodName)) ∈ tb := List.mem_filter.mpr ⟨List.mem_append_right _ (List.mem_of_getElem? (i := 313) (by decide +kernel)), rfl⟩
set_option maxRecDepth 20000 in
theorem tw_348 : (Jvm.Cond.arrayClass Jvm.ClassFile.FieldType.boolean) ∈ tb := List.mem_filter.mpr ⟨List.mem_append_right _ (List.mem_of_getElem? (i := 348) (by decide +kernel)), rfl⟩
set_option maxRecDepth 20000 in
theorem tw_519 : (Jvm.Cond.constantLong "RoundedNumbersLaw" (13 : Nat) (4294967295 : Int64)) ∈ tb := List.mem_filter.mpr ⟨List.mem_append_right _ (List.mem_of_getElem? (i := 519) (by decide +kernel)), rfl⟩
set_option maxRecDepth 20000 in
theorem tw_71 : (Jvm.Cond.code ({ cls := "RoundedNumbers", name := "set", desc := "(IJI)I" } : Jvm.MethodName) prog_1_method_2_code (5 : Nat) (Option.some Jvm.ClassFile.FieldType.int)) ∈ tb := List.mem_filter.mpr ⟨List.mem_append_right _ (List.mem_of_getElem? (i := 71) rfl), rfl⟩
set_option maxRecDepth 20000 in
theorem tw_68 : (Jvm.Cond.methodLink "RoundedNumbersLaw" (15 : Nat) ({ cls := "RoundedNumbers", name := "set", desc := "(IJI)I" } : Jvm.MethodName)) ∈ tb := List.mem_filter.mpr ⟨List.mem_append_right _ (List.mem_of_getElem? (i := 68) (by decide +kernel)), rfl⟩
set_option maxRecDepth 20000 in
theorem tw_69 : (Jvm.Cond.instanceMethod ({ cls := "RoundedNumbers", name := "set", desc := "(IJI)I" } : Jvm.MethodName)) ∈ tb := List.mem_filter.mpr ⟨List.mem_append_right _ (List.mem_of_getElem? (i := 69) (by decide +kernel)), rfl⟩
set_option maxRecDepth 20000 in
theorem tw_70 : (Jvm.Cond.selects "RoundedNumbers" ({ cls := "RoundedNumbers", name := "set", desc := "(IJI)I" } : Jvm.MethodName) ({ cls := "RoundedNumbers", name := "set", desc := "(IJI)I" } : Jvm.MethodName)) ∈ tb := List.mem_filter.mpr ⟨List.mem_append_right _ (List.mem_of_getElem? (i := 70) (by decide +kernel)), rfl⟩
set_option maxRecDepth 20000 in
theorem tw_352 : (Jvm.Cond.code ({ cls := "RoundedNumbersModel", name := "set", desc := "(IJI)I" } : Jvm.MethodName) prog_4_method_19_code (7 : Nat) (Option.some Jvm.ClassFile.FieldType.int)) ∈ tb := List.mem_filter.mpr ⟨List.mem_append_right _ (List.mem_of_getElem? (i := 352) rfl), rfl⟩
set_option maxRecDepth 20000 in
theorem tw_349 : (Jvm.Cond.methodLink "RoundedNumbersLaw" (19 : Nat) ({ cls := "RoundedNumbersModel", name := "set", desc := "(IJI)I" } : Jvm.MethodName)) ∈ tb := List.mem_filter.mpr ⟨List.mem_append_right _ (List.mem_of_getElem? (i := 349) (by decide +kernel)), rfl⟩
set_option maxRecDepth 20000 in
theorem tw_350 : (Jvm.Cond.instanceMethod ({ cls := "RoundedNumbersModel", name := "set", desc := "(IJI)I" } : Jvm.MethodName)) ∈ tb := List.mem_filter.mpr ⟨List.mem_append_right _ (List.mem_of_getElem? (i := 350) (by decide +kernel)), rfl⟩
set_option maxRecDepth 20000 in
theorem tw_351 : (Jvm.Cond.selects "RoundedNumbersModel" ({ cls := "RoundedNumbersModel", name := "set", desc := "(IJI)I" } : Jvm.MethodName) ({ cls := "RoundedNumbersModel", name := "set", desc := "(IJI)I" } : Jvm.MethodName)) ∈ tb := List.mem_filter.mpr ⟨List.mem_append_right _ (List.mem_of_getElem? (i := 351) (by decide +kernel)), rfl⟩
set_option maxRecDepth 20000 in
theorem tw_104 : (Jvm.Cond.code ({ cls := "RoundedNumbers", name := "add", desc := "(IIIZ)I" } : Jvm.MethodName) prog_1_method_3_code (5 : Nat) (Option.some Jvm.ClassFile.FieldType.int)) ∈ tb := List.mem_filter.mpr ⟨List.mem_append_right _ (List.mem_of_getElem? (i := 104) rfl), rfl⟩
set_option maxRecDepth 20000 in
theorem tw_101 : (Jvm.Cond.methodLink "RoundedNumbersLaw" (20 : Nat) ({ cls := "RoundedNumbers", name := "add", desc := "(IIIZ)I" } : Jvm.MethodName)) ∈ tb := List.mem_filter.mpr ⟨List.mem_append_right _ (List.mem_of_getElem? (i := 101) (by decide +kernel)), rfl⟩
set_option maxRecDepth 20000 in
theorem tw_102 : (Jvm.Cond.instanceMethod ({ cls := "RoundedNumbers", name := "add", desc := "(IIIZ)I" } : Jvm.MethodName)) ∈ tb := List.mem_filter.mpr ⟨List.mem_append_right _ (List.mem_of_getElem? (i := 102) (by decide +kernel)), rfl⟩
set_option maxRecDepth 20000 in
theorem tw_103 : (Jvm.Cond.selects "RoundedNumbers" ({ cls := "RoundedNumbers", name := "add", desc := "(IIIZ)I" } : Jvm.MethodName) ({ cls := "RoundedNumbers", name := "add", desc := "(IIIZ)I" } : Jvm.MethodName)) ∈ tb := List.mem_filter.mpr ⟨List.mem_append_right _ (List.mem_of_getElem? (i := 103) (by decide +kernel)), rfl⟩
set_option maxRecDepth 20000 in
theorem tw_376 : (Jvm.Cond.code ({ cls := "RoundedNumbersModel", name := "add", desc := "(IIIZ)I" } : Jvm.MethodName) prog_4_method_22_code (5 : Nat) (Option.some Jvm.ClassFile.FieldType.int)) ∈ tb := List.mem_filter.mpr ⟨List.mem_append_right _ (List.mem_of_getElem? (i := 376) rfl), rfl⟩
set_option maxRecDepth 20000 in
theorem tw_373 : (Jvm.Cond.methodLink "RoundedNumbersLaw" (24 : Nat) ({ cls := "RoundedNumbersModel", name := "add", desc := "(IIIZ)I" } : Jvm.MethodName)) ∈ tb := List.mem_filter.mpr ⟨List.mem_append_right _ (List.mem_of_getElem? (i := 373) (by decide +kernel)), rfl⟩
set_option maxRecDepth 20000 in
theorem tw_374 : (Jvm.Cond.instanceMethod ({ cls := "RoundedNumbersModel", name := "add", desc := "(IIIZ)I" } : Jvm.MethodName)) ∈ tb := List.mem_filter.mpr ⟨List.mem_append_right _ (List.mem_of_getElem? (i := 374) (by decide +kernel)), rfl⟩
set_option maxRecDepth 20000 in
theorem tw_375 : (Jvm.Cond.selects "RoundedNumbersModel" ({ cls := "RoundedNumbersModel", name := "add", desc := "(IIIZ)I" } : Jvm.MethodName) ({ cls := "RoundedNumbersModel", name := "add", desc := "(IIIZ)I" } : Jvm.MethodName)) ∈ tb := List.mem_filter.mpr ⟨List.mem_append_right _ (List.mem_of_getElem? (i := 375) (by decide +kernel)), rfl⟩
set_option maxRecDepth 20000 in
theorem tw_173 : (Jvm.Cond.code ({ cls := "RoundedNumbers", name := "subtract", desc := "(IIIZ)I" } : Jvm.MethodName) prog_1_method_4_code (5 : Nat) (Option.some Jvm.ClassFile.FieldType.int)) ∈ tb := List.mem_filter.mpr ⟨List.mem_append_right _ (List.mem_of_getElem? (i := 173) rfl), rfl⟩
set_option maxRecDepth 20000 in
theorem tw_170 : (Jvm.Cond.methodLink "RoundedNumbersLaw" (25 : Nat) ({ cls := "RoundedNumbers", name := "subtract", desc := "(IIIZ)I" } : Jvm.MethodName)) ∈ tb := List.mem_filter.mpr ⟨List.mem_append_right _ (List.mem_of_getElem? (i := 170) (by decide +kernel)), rfl⟩
set_option maxRecDepth 20000 in
theorem tw_171 : (Jvm.Cond.instanceMethod ({ cls := "RoundedNumbers", name := "subtract", desc := "(IIIZ)I" } : Jvm.MethodName)) ∈ tb := List.mem_filter.mpr ⟨List.mem_append_right _ (List.mem_of_getElem? (i := 171) (by decide +kernel)), rfl⟩
set_option maxRecDepth 20000 in
theorem tw_172 : (Jvm.Cond.selects "RoundedNumbers" ({ cls := "RoundedNumbers", name := "subtract", desc := "(IIIZ)I" } : Jvm.MethodName) ({ cls := "RoundedNumbers", name := "subtract", desc := "(IIIZ)I" } : Jvm.MethodName)) ∈ tb := List.mem_filter.mpr ⟨List.mem_append_right _ (List.mem_of_getElem? (i := 172) (by decide +kernel)), rfl⟩
set_option maxRecDepth 20000 in
theorem tw_429 : (Jvm.Cond.code ({ cls := "RoundedNumbersModel", name := "subtract", desc := "(IIIZ)I" } : Jvm.MethodName) prog_4_method_23_code (5 : Nat) (Option.some Jvm.ClassFile.FieldType.int)) ∈ tb := List.mem_filter.mpr ⟨List.mem_append_right _ (List.mem_of_getElem? (i := 429) rfl), rfl⟩
set_option maxRecDepth 20000 in
theorem tw_426 : (Jvm.Cond.methodLink "RoundedNumbersLaw" (28 : Nat) ({ cls := "RoundedNumbersModel", name := "subtract", desc := "(IIIZ)I" } : Jvm.MethodName)) ∈ tb := List.mem_filter.mpr ⟨List.mem_append_right _ (List.mem_of_getElem? (i := 426) (by decide +kernel)), rfl⟩
set_option maxRecDepth 20000 in
theorem tw_427 : (Jvm.Cond.instanceMethod ({ cls := "RoundedNumbersModel", name := "subtract", desc := "(IIIZ)I" } : Jvm.MethodName)) ∈ tb := List.mem_filter.mpr ⟨List.mem_append_right _ (List.mem_of_getElem? (i := 427) (by decide +kernel)), rfl⟩
set_option maxRecDepth 20000 in
theorem tw_428 : (Jvm.Cond.selects "RoundedNumbersModel" ({ cls := "RoundedNumbersModel", name := "subtract", desc := "(IIIZ)I" } : Jvm.MethodName) ({ cls := "RoundedNumbersModel", name := "subtract", desc := "(IIIZ)I" } : Jvm.MethodName)) ∈ tb := List.mem_filter.mpr ⟨List.mem_append_right _ (List.mem_of_getElem? (i := 428) (by decide +kernel)), rfl⟩
set_option maxRecDepth 20000 in
theorem tw_177 : (Jvm.Cond.code ({ cls := "RoundedNumbers", name := "multiply", desc := "(IIIZ)I" } : Jvm.MethodName) prog_1_method_5_code (5 : Nat) (Option.some Jvm.ClassFile.FieldType.int)) ∈ tb := List.mem_filter.mpr ⟨List.mem_append_right _ (List.mem_of_getElem? (i := 177) rfl), rfl⟩
set_option maxRecDepth 20000 in
theorem tw_174 : (Jvm.Cond.methodLink "RoundedNumbersLaw" (29 : Nat) ({ cls := "RoundedNumbers", name := "multiply", desc := "(IIIZ)I" } : Jvm.MethodName)) ∈ tb := List.mem_filter.mpr ⟨List.mem_append_right _ (List.mem_of_getElem? (i := 174) (by decide +kernel)), rfl⟩
set_option maxRecDepth 20000 in
theorem tw_175 : (Jvm.Cond.instanceMethod ({ cls := "RoundedNumbers", name := "multiply", desc := "(IIIZ)I" } : Jvm.MethodName)) ∈ tb := List.mem_filter.mpr ⟨List.mem_append_right _ (List.mem_of_getElem? (i := 175) (by decide +kernel)), rfl⟩
set_option maxRecDepth 20000 in
theorem tw_176 : (Jvm.Cond.selects "RoundedNumbers" ({ cls := "RoundedNumbers", name := "multiply", desc := "(IIIZ)I" } : Jvm.MethodName) ({ cls := "RoundedNumbers", name := "multiply", desc := "(IIIZ)I" } : Jvm.MethodName)) ∈ tb := List.mem_filter.mpr ⟨List.mem_append_right _ (List.mem_of_getElem? (i := 176) (by decide +kernel)), rfl⟩
set_option maxRecDepth 20000 in
theorem tw_433 : (Jvm.Cond.code ({ cls := "RoundedNumbersModel", name := "multiply", desc := "(IIIZ)I" } : Jvm.MethodName) prog_4_method_25_code (5 : Nat) (Option.some Jvm.ClassFile.FieldType.int)) ∈ tb := List.mem_filter.mpr ⟨List.mem_append_right _ (List.mem_of_getElem? (i := 433) rfl), rfl⟩
set_option maxRecDepth 20000 in
theorem tw_430 : (Jvm.Cond.methodLink "RoundedNumbersLaw" (32 : Nat) ({ cls := "RoundedNumbersModel", name := "multiply", desc := "(IIIZ)I" } : Jvm.MethodName)) ∈ tb := List.mem_filter.mpr ⟨List.mem_append_right _ (List.mem_of_getElem? (i := 430) (by decide +kernel)), rfl⟩
set_option maxRecDepth 20000 in
theorem tw_431 : (Jvm.Cond.instanceMethod ({ cls := "RoundedNumbersModel", name := "multiply", desc := "(IIIZ)I" } : Jvm.MethodName)) ∈ tb := List.mem_filter.mpr ⟨List.mem_append_right _ (List.mem_of_getElem? (i := 431) (by decide +kernel)), rfl⟩
set_option maxRecDepth 20000 in
theorem tw_432 : (Jvm.Cond.selects "RoundedNumbersModel" ({ cls := "RoundedNumbersModel", name := "multiply", desc := "(IIIZ)I" } : Jvm.MethodName) ({ cls := "RoundedNumbersModel", name := "multiply", desc := "(IIIZ)I" } : Jvm.MethodName)) ∈ tb := List.mem_filter.mpr ⟨List.mem_append_right _ (List.mem_of_getElem? (i := 432) (by decide +kernel)), rfl⟩
set_option maxRecDepth 20000 in
theorem tw_186 : (Jvm.Cond.code ({ cls := "RoundedNumbers", name := "divide", desc := "(IIIZ)I" } : Jvm.MethodName) prog_1_method_6_code (5 : Nat) (Option.some Jvm.ClassFile.FieldType.int)) ∈ tb := List.mem_filter.mpr ⟨List.mem_append_right _ (List.mem_of_getElem? (i := 186) rfl), rfl⟩
set_option maxRecDepth 20000 in
theorem tw_183 : (Jvm.Cond.methodLink "RoundedNumbersLaw" (33 : Nat) ({ cls := "RoundedNumbers", name := "divide", desc := "(IIIZ)I" } : Jvm.MethodName)) ∈ tb := List.mem_filter.mpr ⟨List.mem_append_right _ (List.mem_of_getElem? (i := 183) (by decide +kernel)), rfl⟩
set_option maxRecDepth 20000 in
theorem tw_184 : (Jvm.Cond.instanceMethod ({ cls := "RoundedNumbers", name := "divide", desc := "(IIIZ)I" } : Jvm.MethodName)) ∈ tb := List.mem_filter.mpr ⟨List.mem_append_right _ (List.mem_of_getElem? (i := 184) (by decide +kernel)), rfl⟩
set_option maxRecDepth 20000 in
theorem tw_185 : (Jvm.Cond.selects "RoundedNumbers" ({ cls := "RoundedNumbers", name := "divide", desc := "(IIIZ)I" } : Jvm.MethodName) ({ cls := "RoundedNumbers", name := "divide", desc := "(IIIZ)I" } : Jvm.MethodName)) ∈ tb := List.mem_filter.mpr ⟨List.mem_append_right _ (List.mem_of_getElem? (i := 185) (by decide +kernel)), rfl⟩
set_option maxRecDepth 20000 in
theorem tw_453 : (Jvm.Cond.code ({ cls := "RoundedNumbersModel", name := "divide", desc := "(IIIZ)I" } : Jvm.MethodName) prog_4_method_28_code (10 : Nat) (Option.some Jvm.ClassFile.FieldType.int)) ∈ tb := List.mem_filter.mpr ⟨List.mem_append_right _ (List.mem_of_getElem? (i := 453) rfl), rfl⟩
set_option maxRecDepth 20000 in
theorem tw_450 : (Jvm.Cond.methodLink "RoundedNumbersLaw" (36 : Nat) ({ cls := "RoundedNumbersModel", name := "divide", desc := "(IIIZ)I" } : Jvm.MethodName)) ∈ tb := List.mem_filter.mpr ⟨List.mem_append_right _ (List.mem_of_getElem? (i := 450) (by decide +kernel)), rfl⟩
set_option maxRecDepth 20000 in
theorem tw_451 : (Jvm.Cond.instanceMethod ({ cls := "RoundedNumbersModel", name := "divide", desc := "(IIIZ)I" } : Jvm.MethodName)) ∈ tb := List.mem_filter.mpr ⟨List.mem_append_right _ (List.mem_of_getElem? (i := 451) (by decide +kernel)), rfl⟩
set_option maxRecDepth 20000 in
theorem tw_452 : (Jvm.Cond.selects "RoundedNumbersModel" ({ cls := "RoundedNumbersModel", name := "divide", desc := "(IIIZ)I" } : Jvm.MethodName) ({ cls := "RoundedNumbersModel", name := "divide", desc := "(IIIZ)I" } : Jvm.MethodName)) ∈ tb := List.mem_filter.mpr ⟨List.mem_append_right _ (List.mem_of_getElem? (i := 452) (by decide +kernel)), rfl⟩
set_option maxRecDepth 20000 in
theorem tw_194 : (Jvm.Cond.code ({ cls := "RoundedNumbers", name := "fuse", desc := "(IIII)I" } : Jvm.MethodName) prog_1_method_7_code (5 : Nat) (Option.some Jvm.ClassFile.FieldType.int)) ∈ tb := List.mem_filter.mpr ⟨List.mem_append_right _ (List.mem_of_getElem? (i := 194) rfl), rfl⟩
set_option maxRecDepth 20000 in
theorem tw_191 : (Jvm.Cond.methodLink "RoundedNumbersLaw" (37 : Nat) ({ cls := "RoundedNumbers", name := "fuse", desc := "(IIII)I" } : Jvm.MethodName)) ∈ tb := List.mem_filter.mpr ⟨List.mem_append_right _ (List.mem_of_getElem? (i := 191) (by decide +kernel)), rfl⟩
set_option maxRecDepth 20000 in
theorem tw_192 : (Jvm.Cond.instanceMethod ({ cls := "RoundedNumbers", name := "fuse", desc := "(IIII)I" } : Jvm.MethodName)) ∈ tb := List.mem_filter.mpr ⟨List.mem_append_right _ (List.mem_of_getElem? (i := 192) (by decide +kernel)), rfl⟩
set_option maxRecDepth 20000 in
theorem tw_193 : (Jvm.Cond.selects "RoundedNumbers" ({ cls := "RoundedNumbers", name := "fuse", desc := "(IIII)I" } : Jvm.MethodName) ({ cls := "RoundedNumbers", name := "fuse", desc := "(IIII)I" } : Jvm.MethodName)) ∈ tb := List.mem_filter.mpr ⟨List.mem_append_right _ (List.mem_of_getElem? (i := 193) (by decide +kernel)), rfl⟩
set_option maxRecDepth 20000 in
theorem tw_445 : (Jvm.Cond.code ({ cls := "RoundedNumbersModel", name := "fuse", desc := "(IIII)I" } : Jvm.MethodName) prog_4_method_26_code (5 : Nat) (Option.some Jvm.ClassFile.FieldType.int)) ∈ tb := List.mem_filter.mpr ⟨List.mem_append_right _ (List.mem_of_getElem? (i := 445) rfl), rfl⟩
set_option maxRecDepth 20000 in
theorem tw_442 : (Jvm.Cond.methodLink "RoundedNumbersLaw" (41 : Nat) ({ cls := "RoundedNumbersModel", name := "fuse", desc := "(IIII)I" } : Jvm.MethodName)) ∈ tb := List.mem_filter.mpr ⟨List.mem_append_right _ (List.mem_of_getElem? (i := 442) (by decide +kernel)), rfl⟩
set_option maxRecDepth 20000 in
theorem tw_443 : (Jvm.Cond.instanceMethod ({ cls := "RoundedNumbersModel", name := "fuse", desc := "(IIII)I" } : Jvm.MethodName)) ∈ tb := List.mem_filter.mpr ⟨List.mem_append_right _ (List.mem_of_getElem? (i := 443) (by decide +kernel)), rfl⟩
set_option maxRecDepth 20000 in
theorem tw_444 : (Jvm.Cond.selects "RoundedNumbersModel" ({ cls := "RoundedNumbersModel", name := "fuse", desc := "(IIII)I" } : Jvm.MethodName) ({ cls := "RoundedNumbersModel", name := "fuse", desc := "(IIII)I" } : Jvm.MethodName)) ∈ tb := List.mem_filter.mpr ⟨List.mem_append_right _ (List.mem_of_getElem? (i := 444) (by decide +kernel)), rfl⟩
set_option maxRecDepth 20000 in
theorem tw_202 : (Jvm.Cond.code ({ cls := "RoundedNumbers", name := "fuseNarrow", desc := "(IIII)I" } : Jvm.MethodName) prog_1_method_8_code (5 : Nat) (Option.some Jvm.ClassFile.FieldType.int)) ∈ tb := List.mem_filter.mpr ⟨List.mem_append_right _ (List.mem_of_getElem? (i := 202) rfl), rfl⟩
set_option maxRecDepth 20000 in
theorem tw_199 : (Jvm.Cond.methodLink "RoundedNumbersLaw" (42 : Nat) ({ cls := "RoundedNumbers", name := "fuseNarrow", desc := "(IIII)I" } : Jvm.MethodName)) ∈ tb := List.mem_filter.mpr ⟨List.mem_append_right _ (List.mem_of_getElem? (i := 199) (by decide +kernel)), rfl⟩
set_option maxRecDepth 20000 in
theorem tw_200 : (Jvm.Cond.instanceMethod ({ cls := "RoundedNumbers", name := "fuseNarrow", desc := "(IIII)I" } : Jvm.MethodName)) ∈ tb := List.mem_filter.mpr ⟨List.mem_append_right _ (List.mem_of_getElem? (i := 200) (by decide +kernel)), rfl⟩
set_option maxRecDepth 20000 in
theorem tw_201 : (Jvm.Cond.selects "RoundedNumbers" ({ cls := "RoundedNumbers", name := "fuseNarrow", desc := "(IIII)I" } : Jvm.MethodName) ({ cls := "RoundedNumbers", name := "fuseNarrow", desc := "(IIII)I" } : Jvm.MethodName)) ∈ tb := List.mem_filter.mpr ⟨List.mem_append_right _ (List.mem_of_getElem? (i := 201) (by decide +kernel)), rfl⟩
set_option maxRecDepth 20000 in
theorem tw_449 : (Jvm.Cond.code ({ cls := "RoundedNumbersModel", name := "fuseNarrow", desc := "(IIII)I" } : Jvm.MethodName) prog_4_method_27_code (5 : Nat) (Option.some Jvm.ClassFile.FieldType.int)) ∈ tb := List.mem_filter.mpr ⟨List.mem_append_right _ (List.mem_of_getElem? (i := 449) rfl), rfl⟩
set_option maxRecDepth 20000 in
theorem tw_446 : (Jvm.Cond.methodLink "RoundedNumbersLaw" (45 : Nat) ({ cls := "RoundedNumbersModel", name := "fuseNarrow", desc := "(IIII)I" } : Jvm.MethodName)) ∈ tb := List.mem_filter.mpr ⟨List.mem_append_right _ (List.mem_of_getElem? (i := 446) (by decide +kernel)), rfl⟩
set_option maxRecDepth 20000 in
theorem tw_447 : (Jvm.Cond.instanceMethod ({ cls := "RoundedNumbersModel", name := "fuseNarrow", desc := "(IIII)I" } : Jvm.MethodName)) ∈ tb := List.mem_filter.mpr ⟨List.mem_append_right _ (List.mem_of_getElem? (i := 447) (by decide +kernel)), rfl⟩
set_option maxRecDepth 20000 in
theorem tw_448 : (Jvm.Cond.selects "RoundedNumbersModel" ({ cls := "RoundedNumbersModel", name := "fuseNarrow", desc := "(IIII)I" } : Jvm.MethodName) ({ cls := "RoundedNumbersModel", name := "fuseNarrow", desc := "(IIII)I" } : Jvm.MethodName)) ∈ tb := List.mem_filter.mpr ⟨List.mem_append_right _ (List.mem_of_getElem? (i := 448) (by decide +kernel)), rfl⟩
set_option maxRecDepth 20000 in
theorem tw_206 : (Jvm.Cond.code ({ cls := "RoundedNumbers", name := "root", desc := "(IIZ)I" } : Jvm.MethodName) prog_1_method_9_code (4 : Nat) (Option.some Jvm.ClassFile.FieldType.int)) ∈ tb := List.mem_filter.mpr ⟨List.mem_append_right _ (List.mem_of_getElem? (i := 206) rfl), rfl⟩
set_option maxRecDepth 20000 in
theorem tw_203 : (Jvm.Cond.methodLink "RoundedNumbersLaw" (46 : Nat) ({ cls := "RoundedNumbers", name := "root", desc := "(IIZ)I" } : Jvm.MethodName)) ∈ tb := List.mem_filter.mpr ⟨List.mem_append_right _ (List.mem_of_getElem? (i := 203) (by decide +kernel)), rfl⟩
set_option maxRecDepth 20000 in
theorem tw_204 : (Jvm.Cond.instanceMethod ({ cls := "RoundedNumbers", name := "root", desc := "(IIZ)I" } : Jvm.MethodName)) ∈ tb := List.mem_filter.mpr ⟨List.mem_append_right _ (List.mem_of_getElem? (i := 204) (by decide +kernel)), rfl⟩
set_option maxRecDepth 20000 in
theorem tw_205 : (Jvm.Cond.selects "RoundedNumbers" ({ cls := "RoundedNumbers", name := "root", desc := "(IIZ)I" } : Jvm.MethodName) ({ cls := "RoundedNumbers", name := "root", desc := "(IIZ)I" } : Jvm.MethodName)) ∈ tb := List.mem_filter.mpr ⟨List.mem_append_right _ (List.mem_of_getElem? (i := 205) (by decide +kernel)), rfl⟩
set_option maxRecDepth 20000 in
theorem tw_457 : (Jvm.Cond.code ({ cls := "RoundedNumbersModel", name := "root", desc := "(IIZ)I" } : Jvm.MethodName) prog_4_method_29_code (14 : Nat) (Option.some Jvm.ClassFile.FieldType.int)) ∈ tb := List.mem_filter.mpr ⟨List.mem_append_right _ (List.mem_of_getElem? (i := 457) rfl), rfl⟩
set_option maxRecDepth 20000 in
theorem tw_454 : (Jvm.Cond.methodLink "RoundedNumbersLaw" (50 : Nat) ({ cls := "RoundedNumbersModel", name := "root", desc := "(IIZ)I" } : Jvm.MethodName)) ∈ tb := List.mem_filter.mpr ⟨List.mem_append_right _ (List.mem_of_getElem? (i := 454) (by decide +kernel)), rfl⟩
set_option maxRecDepth 20000 in
theorem tw_455 : (Jvm.Cond.instanceMethod ({ cls := "RoundedNumbersModel", name := "root", desc := "(IIZ)I" } : Jvm.MethodName)) ∈ tb := List.mem_filter.mpr ⟨List.mem_append_right _ (List.mem_of_getElem? (i := 455) (by decide +kernel)), rfl⟩
set_option maxRecDepth 20000 in
theorem tw_456 : (Jvm.Cond.selects "RoundedNumbersModel" ({ cls := "RoundedNumbersModel", name := "root", desc := "(IIZ)I" } : Jvm.MethodName) ({ cls := "RoundedNumbersModel", name := "root", desc := "(IIZ)I" } : Jvm.MethodName)) ∈ tb := List.mem_filter.mpr ⟨List.mem_append_right _ (List.mem_of_getElem? (i := 456) (by decide +kernel)), rfl⟩
set_option maxRecDepth 20000 in
theorem tw_215 : (Jvm.Cond.code ({ cls := "RoundedNumbers", name := "remainder", desc := "(III)I" } : Jvm.MethodName) prog_1_method_10_code (6 : Nat) (Option.some Jvm.ClassFile.FieldType.int)) ∈ tb := List.mem_filter.mpr ⟨List.mem_append_right _ (List.mem_of_getElem? (i := 215) rfl), rfl⟩
set_option maxRecDepth 20000 in
theorem tw_212 : (Jvm.Cond.methodLink "RoundedNumbersLaw" (51 : Nat) ({ cls := "RoundedNumbers", name := "remainder", desc := "(III)I" } : Jvm.MethodName)) ∈ tb := List.mem_filter.mpr ⟨List.mem_append_right _ (List.mem_of_getElem? (i := 212) (by decide +kernel)), rfl⟩
set_option maxRecDepth 20000 in
theorem tw_213 : (Jvm.Cond.instanceMethod ({ cls := "RoundedNumbers", name := "remainder", desc := "(III)I" } : Jvm.MethodName)) ∈ tb := List.mem_filter.mpr ⟨List.mem_append_right _ (List.mem_of_getElem? (i := 213) (by decide +kernel)), rfl⟩
set_option maxRecDepth 20000 in
theorem tw_214 : (Jvm.Cond.selects "RoundedNumbers" ({ cls := "RoundedNumbers", name := "remainder", desc := "(III)I" } : Jvm.MethodName) ({ cls := "RoundedNumbers", name := "remainder", desc := "(III)I" } : Jvm.MethodName)) ∈ tb := List.mem_filter.mpr ⟨List.mem_append_right _ (List.mem_of_getElem? (i := 214) (by decide +kernel)), rfl⟩
set_option maxRecDepth 20000 in
theorem tw_463 : (Jvm.Cond.code ({ cls := "RoundedNumbersModel", name := "remainder", desc := "(III)I" } : Jvm.MethodName) prog_4_method_31_code (8 : Nat) (Option.some Jvm.ClassFile.FieldType.int)) ∈ tb := List.mem_filter.mpr ⟨List.mem_append_right _ (List.mem_of_getElem? (i := 463) rfl), rfl⟩
set_option maxRecDepth 20000 in
theorem tw_460 : (Jvm.Cond.methodLink "RoundedNumbersLaw" (55 : Nat) ({ cls := "RoundedNumbersModel", name := "remainder", desc := "(III)I" } : Jvm.MethodName)) ∈ tb := List.mem_filter.mpr ⟨List.mem_append_right _ (List.mem_of_getElem? (i := 460) (by decide +kernel)), rfl⟩
set_option maxRecDepth 20000 in
theorem tw_461 : (Jvm.Cond.instanceMethod ({ cls := "RoundedNumbersModel", name := "remainder", desc := "(III)I" } : Jvm.MethodName)) ∈ tb := List.mem_filter.mpr ⟨List.mem_append_right _ (List.mem_of_getElem? (i := 461) (by decide +kernel)), rfl⟩
set_option maxRecDepth 20000 in
theorem tw_462 : (Jvm.Cond.selects "RoundedNumbersModel" ({ cls := "RoundedNumbersModel", name := "remainder", desc := "(III)I" } : Jvm.MethodName) ({ cls := "RoundedNumbersModel", name := "remainder", desc := "(III)I" } : Jvm.MethodName)) ∈ tb := List.mem_filter.mpr ⟨List.mem_append_right _ (List.mem_of_getElem? (i := 462) (by decide +kernel)), rfl⟩
set_option maxRecDepth 20000 in
theorem tw_229 : (Jvm.Cond.code ({ cls := "RoundedNumbers", name := "copy", desc := "(IIZ)I" } : Jvm.MethodName) prog_1_method_11_code (4 : Nat) (Option.some Jvm.ClassFile.FieldType.int)) ∈ tb := List.mem_filter.mpr ⟨List.mem_append_right _ (List.mem_of_getElem? (i := 229) rfl), rfl⟩
set_option maxRecDepth 20000 in
theorem tw_226 : (Jvm.Cond.methodLink "RoundedNumbersLaw" (56 : Nat) ({ cls := "RoundedNumbers", name := "copy", desc := "(IIZ)I" } : Jvm.MethodName)) ∈ tb := List.mem_filter.mpr ⟨List.mem_append_right _ (List.mem_of_getElem? (i := 226) (by decide +kernel)), rfl⟩
set_option maxRecDepth 20000 in
theorem tw_227 : (Jvm.Cond.instanceMethod ({ cls := "RoundedNumbers", name := "copy", desc := "(IIZ)I" } : Jvm.MethodName)) ∈ tb := List.mem_filter.mpr ⟨List.mem_append_right _ (List.mem_of_getElem? (i := 227) (by decide +kernel)), rfl⟩
set_option maxRecDepth 20000 in
theorem tw_228 : (Jvm.Cond.selects "RoundedNumbers" ({ cls := "RoundedNumbers", name := "copy", desc := "(IIZ)I" } : Jvm.MethodName) ({ cls := "RoundedNumbers", name := "copy", desc := "(IIZ)I" } : Jvm.MethodName)) ∈ tb := List.mem_filter.mpr ⟨List.mem_append_right _ (List.mem_of_getElem? (i := 228) (by decide +kernel)), rfl⟩
set_option maxRecDepth 20000 in
theorem tw_471 : (Jvm.Cond.code ({ cls := "RoundedNumbersModel", name := "copy", desc := "(IIZ)I" } : Jvm.MethodName) prog_4_method_32_code (4 : Nat) (Option.some Jvm.ClassFile.FieldType.int)) ∈ tb := List.mem_filter.mpr ⟨List.mem_append_right _ (List.mem_of_getElem? (i := 471) rfl), rfl⟩
set_option maxRecDepth 20000 in
theorem tw_468 : (Jvm.Cond.methodLink "RoundedNumbersLaw" (59 : Nat) ({ cls := "RoundedNumbersModel", name := "copy", desc := "(IIZ)I" } : Jvm.MethodName)) ∈ tb := List.mem_filter.mpr ⟨List.mem_append_right _ (List.mem_of_getElem? (i := 468) (by decide +kernel)), rfl⟩
set_option maxRecDepth 20000 in
theorem tw_469 : (Jvm.Cond.instanceMethod ({ cls := "RoundedNumbersModel", name := "copy", desc := "(IIZ)I" } : Jvm.MethodName)) ∈ tb := List.mem_filter.mpr ⟨List.mem_append_right _ (List.mem_of_getElem? (i := 469) (by decide +kernel)), rfl⟩
set_option maxRecDepth 20000 in
theorem tw_470 : (Jvm.Cond.selects "RoundedNumbersModel" ({ cls := "RoundedNumbersModel", name := "copy", desc := "(IIZ)I" } : Jvm.MethodName) ({ cls := "RoundedNumbersModel", name := "copy", desc := "(IIZ)I" } : Jvm.MethodName)) ∈ tb := List.mem_filter.mpr ⟨List.mem_append_right _ (List.mem_of_getElem? (i := 470) (by decide +kernel)), rfl⟩
set_option maxRecDepth 20000 in
theorem tw_233 : (Jvm.Cond.code ({ cls := "RoundedNumbers", name := "scale", desc := "(III)I" } : Jvm.MethodName) prog_1_method_12_code (4 : Nat) (Option.some Jvm.ClassFile.FieldType.int)) ∈ tb := List.mem_filter.mpr ⟨List.mem_append_right _ (List.mem_of_getElem? (i := 233) rfl), rfl⟩
set_option maxRecDepth 20000 in
theorem tw_230 : (Jvm.Cond.methodLink "RoundedNumbersLaw" (60 : Nat) ({ cls := "RoundedNumbers", name := "scale", desc := "(III)I" } : Jvm.MethodName)) ∈ tb := List.mem_filter.mpr ⟨List.mem_append_right _ (List.mem_of_getElem? (i := 230) (by decide +kernel)), rfl⟩
set_option maxRecDepth 20000 in
theorem tw_231 : (Jvm.Cond.instanceMethod ({ cls := "RoundedNumbers", name := "scale", desc := "(III)I" } : Jvm.MethodName)) ∈ tb := List.mem_filter.mpr ⟨List.mem_append_right _ (List.mem_of_getElem? (i := 231) (by decide +kernel)), rfl⟩
set_option maxRecDepth 20000 in
theorem tw_232 : (Jvm.Cond.selects "RoundedNumbers" ({ cls := "RoundedNumbers", name := "scale", desc := "(III)I" } : Jvm.MethodName) ({ cls := "RoundedNumbers", name := "scale", desc := "(III)I" } : Jvm.MethodName)) ∈ tb := List.mem_filter.mpr ⟨List.mem_append_right _ (List.mem_of_getElem? (i := 232) (by decide +kernel)), rfl⟩
set_option maxRecDepth 20000 in
theorem tw_475 : (Jvm.Cond.code ({ cls := "RoundedNumbersModel", name := "scale", desc := "(III)I" } : Jvm.MethodName) prog_4_method_33_code (4 : Nat) (Option.some Jvm.ClassFile.FieldType.int)) ∈ tb := List.mem_filter.mpr ⟨List.mem_append_right _ (List.mem_of_getElem? (i := 475) rfl), rfl⟩
set_option maxRecDepth 20000 in
theorem tw_472 : (Jvm.Cond.methodLink "RoundedNumbersLaw" (63 : Nat) ({ cls := "RoundedNumbersModel", name := "scale", desc := "(III)I" } : Jvm.MethodName)) ∈ tb := List.mem_filter.mpr ⟨List.mem_append_right _ (List.mem_of_getElem? (i := 472) (by decide +kernel)), rfl⟩
set_option maxRecDepth 20000 in
theorem tw_473 : (Jvm.Cond.instanceMethod ({ cls := "RoundedNumbersModel", name := "scale", desc := "(III)I" } : Jvm.MethodName)) ∈ tb := List.mem_filter.mpr ⟨List.mem_append_right _ (List.mem_of_getElem? (i := 473) (by decide +kernel)), rfl⟩
set_option maxRecDepth 20000 in
theorem tw_474 : (Jvm.Cond.selects "RoundedNumbersModel" ({ cls := "RoundedNumbersModel", name := "scale", desc := "(III)I" } : Jvm.MethodName) ({ cls := "RoundedNumbersModel", name := "scale", desc := "(III)I" } : Jvm.MethodName)) ∈ tb := List.mem_filter.mpr ⟨List.mem_append_right _ (List.mem_of_getElem? (i := 474) (by decide +kernel)), rfl⟩
set_option maxRecDepth 20000 in
theorem tw_237 : (Jvm.Cond.code ({ cls := "RoundedNumbers", name := "step", desc := "(IIZZ)I" } : Jvm.MethodName) prog_1_method_13_code (12 : Nat) (Option.some Jvm.ClassFile.FieldType.int)) ∈ tb := List.mem_filter.mpr ⟨List.mem_append_right _ (List.mem_of_getElem? (i := 237) rfl), rfl⟩
set_option maxRecDepth 20000 in
theorem tw_234 : (Jvm.Cond.methodLink "RoundedNumbersLaw" (64 : Nat) ({ cls := "RoundedNumbers", name := "step", desc := "(IIZZ)I" } : Jvm.MethodName)) ∈ tb := List.mem_filter.mpr ⟨List.mem_append_right _ (List.mem_of_getElem? (i := 234) (by decide +kernel)), rfl⟩
set_option maxRecDepth 20000 in
theorem tw_235 : (Jvm.Cond.instanceMethod ({ cls := "RoundedNumbers", name := "step", desc := "(IIZZ)I" } : Jvm.MethodName)) ∈ tb := List.mem_filter.mpr ⟨List.mem_append_right _ (List.mem_of_getElem? (i := 235) (by decide +kernel)), rfl⟩
set_option maxRecDepth 20000 in
theorem tw_236 : (Jvm.Cond.selects "RoundedNumbers" ({ cls := "RoundedNumbers", name := "step", desc := "(IIZZ)I" } : Jvm.MethodName) ({ cls := "RoundedNumbers", name := "step", desc := "(IIZZ)I" } : Jvm.MethodName)) ∈ tb := List.mem_filter.mpr ⟨List.mem_append_right _ (List.mem_of_getElem? (i := 236) (by decide +kernel)), rfl⟩
set_option maxRecDepth 20000 in
theorem tw_479 : (Jvm.Cond.code ({ cls := "RoundedNumbersModel", name := "step", desc := "(IIZZ)I" } : Jvm.MethodName) prog_4_method_34_code (11 : Nat) (Option.some Jvm.ClassFile.FieldType.int)) ∈ tb := List.mem_filter.mpr ⟨List.mem_append_right _ (List.mem_of_getElem? (i := 479) rfl), rfl⟩
set_option maxRecDepth 20000 in
theorem tw_476 : (Jvm.Cond.methodLink "RoundedNumbersLaw" (68 : Nat) ({ cls := "RoundedNumbersModel", name := "step", desc := "(IIZZ)I" } : Jvm.MethodName)) ∈ tb := List.mem_filter.mpr ⟨List.mem_append_right _ (List.mem_of_getElem? (i := 476) (by decide +kernel)), rfl⟩
set_option maxRecDepth 20000 in
theorem tw_477 : (Jvm.Cond.instanceMethod ({ cls := "RoundedNumbersModel", name := "step", desc := "(IIZZ)I" } : Jvm.MethodName)) ∈ tb := List.mem_filter.mpr ⟨List.mem_append_right _ (List.mem_of_getElem? (i := 477) (by decide +kernel)), rfl⟩
set_option maxRecDepth 20000 in
theorem tw_478 : (Jvm.Cond.selects "RoundedNumbersModel" ({ cls := "RoundedNumbersModel", name := "step", desc := "(IIZZ)I" } : Jvm.MethodName) ({ cls := "RoundedNumbersModel", name := "step", desc := "(IIZZ)I" } : Jvm.MethodName)) ∈ tb := List.mem_filter.mpr ⟨List.mem_append_right _ (List.mem_of_getElem? (i := 478) (by decide +kernel)), rfl⟩
set_option maxRecDepth 20000 in
theorem tw_253 : (Jvm.Cond.code ({ cls := "RoundedNumbers", name := "cubeRoot", desc := "(II)I" } : Jvm.MethodName) prog_1_method_14_code (6 : Nat) (Option.some Jvm.ClassFile.FieldType.int)) ∈ tb := List.mem_filter.mpr ⟨List.mem_append_right _ (List.mem_of_getElem? (i := 253) rfl), rfl⟩
set_option maxRecDepth 20000 in
theorem tw_250 : (Jvm.Cond.methodLink "RoundedNumbersLaw" (69 : Nat) ({ cls := "RoundedNumbers", name := "cubeRoot", desc := "(II)I" } : Jvm.MethodName)) ∈ tb := List.mem_filter.mpr ⟨List.mem_append_right _ (List.mem_of_getElem? (i := 250) (by decide +kernel)), rfl⟩
set_option maxRecDepth 20000 in
theorem tw_251 : (Jvm.Cond.instanceMethod ({ cls := "RoundedNumbers", name := "cubeRoot", desc := "(II)I" } : Jvm.MethodName)) ∈ tb := List.mem_filter.mpr ⟨List.mem_append_right _ (List.mem_of_getElem? (i := 251) (by decide +kernel)), rfl⟩
set_option maxRecDepth 20000 in
theorem tw_252 : (Jvm.Cond.selects "RoundedNumbers" ({ cls := "RoundedNumbers", name := "cubeRoot", desc := "(II)I" } : Jvm.MethodName) ({ cls := "RoundedNumbers", name := "cubeRoot", desc := "(II)I" } : Jvm.MethodName)) ∈ tb := List.mem_filter.mpr ⟨List.mem_append_right _ (List.mem_of_getElem? (i := 252) (by decide +kernel)), rfl⟩
set_option maxRecDepth 20000 in
theorem tw_487 : (Jvm.Cond.code ({ cls := "RoundedNumbersModel", name := "cubeRoot", desc := "(II)I" } : Jvm.MethodName) prog_4_method_38_code (6 : Nat) (Option.some Jvm.ClassFile.FieldType.int)) ∈ tb := List.mem_filter.mpr ⟨List.mem_append_right _ (List.mem_of_getElem? (i := 487) rfl), rfl⟩
set_option maxRecDepth 20000 in
theorem tw_484 : (Jvm.Cond.methodLink "RoundedNumbersLaw" (73 : Nat) ({ cls := "RoundedNumbersModel", name := "cubeRoot", desc := "(II)I" } : Jvm.MethodName)) ∈ tb := List.mem_filter.mpr ⟨List.mem_append_right _ (List.mem_of_getElem? (i := 484) (by decide +kernel)), rfl⟩
set_option maxRecDepth 20000 in
theorem tw_485 : (Jvm.Cond.instanceMethod ({ cls := "RoundedNumbersModel", name := "cubeRoot", desc := "(II)I" } : Jvm.MethodName)) ∈ tb := List.mem_filter.mpr ⟨List.mem_append_right _ (List.mem_of_getElem? (i := 485) (by decide +kernel)), rfl⟩
set_option maxRecDepth 20000 in
theorem tw_486 : (Jvm.Cond.selects "RoundedNumbersModel" ({ cls := "RoundedNumbersModel", name := "cubeRoot", desc := "(II)I" } : Jvm.MethodName) ({ cls := "RoundedNumbersModel", name := "cubeRoot", desc := "(II)I" } : Jvm.MethodName)) ∈ tb := List.mem_filter.mpr ⟨List.mem_append_right _ (List.mem_of_getElem? (i := 486) (by decide +kernel)), rfl⟩
set_option maxRecDepth 20000 in
theorem tw_264 : (Jvm.Cond.code ({ cls := "RoundedNumbers", name := "compare", desc := "(II)I" } : Jvm.MethodName) prog_1_method_15_code (5 : Nat) (Option.some Jvm.ClassFile.FieldType.int)) ∈ tb := List.mem_filter.mpr ⟨List.mem_append_right _ (List.mem_of_getElem? (i := 264) rfl), rfl⟩
set_option maxRecDepth 20000 in
theorem tw_261 : (Jvm.Cond.methodLink "RoundedNumbersLaw" (74 : Nat) ({ cls := "RoundedNumbers", name := "compare", desc := "(II)I" } : Jvm.MethodName)) ∈ tb := List.mem_filter.mpr ⟨List.mem_append_right _ (List.mem_of_getElem? (i := 261) (by decide +kernel)), rfl⟩
set_option maxRecDepth 20000 in
theorem tw_262 : (Jvm.Cond.instanceMethod ({ cls := "RoundedNumbers", name := "compare", desc := "(II)I" } : Jvm.MethodName)) ∈ tb := List.mem_filter.mpr ⟨List.mem_append_right _ (List.mem_of_getElem? (i := 262) (by decide +kernel)), rfl⟩
set_option maxRecDepth 20000 in
theorem tw_263 : (Jvm.Cond.selects "RoundedNumbers" ({ cls := "RoundedNumbers", name := "compare", desc := "(II)I" } : Jvm.MethodName) ({ cls := "RoundedNumbers", name := "compare", desc := "(II)I" } : Jvm.MethodName)) ∈ tb := List.mem_filter.mpr ⟨List.mem_append_right _ (List.mem_of_getElem? (i := 263) (by decide +kernel)), rfl⟩
set_option maxRecDepth 20000 in
theorem tw_499 : (Jvm.Cond.code ({ cls := "RoundedNumbersModel", name := "compare", desc := "(II)I" } : Jvm.MethodName) prog_4_method_39_code (4 : Nat) (Option.some Jvm.ClassFile.FieldType.int)) ∈ tb := List.mem_filter.mpr ⟨List.mem_append_right _ (List.mem_of_getElem? (i := 499) rfl), rfl⟩
set_option maxRecDepth 20000 in
theorem tw_496 : (Jvm.Cond.methodLink "RoundedNumbersLaw" (77 : Nat) ({ cls := "RoundedNumbersModel", name := "compare", desc := "(II)I" } : Jvm.MethodName)) ∈ tb := List.mem_filter.mpr ⟨List.mem_append_right _ (List.mem_of_getElem? (i := 496) (by decide +kernel)), rfl⟩
set_option maxRecDepth 20000 in
theorem tw_497 : (Jvm.Cond.instanceMethod ({ cls := "RoundedNumbersModel", name := "compare", desc := "(II)I" } : Jvm.MethodName)) ∈ tb := List.mem_filter.mpr ⟨List.mem_append_right _ (List.mem_of_getElem? (i := 497) (by decide +kernel)), rfl⟩
set_option maxRecDepth 20000 in
theorem tw_498 : (Jvm.Cond.selects "RoundedNumbersModel" ({ cls := "RoundedNumbersModel", name := "compare", desc := "(II)I" } : Jvm.MethodName) ({ cls := "RoundedNumbersModel", name := "compare", desc := "(II)I" } : Jvm.MethodName)) ∈ tb := List.mem_filter.mpr ⟨List.mem_append_right _ (List.mem_of_getElem? (i := 498) (by decide +kernel)), rfl⟩
set_option maxRecDepth 20000 in
theorem tw_271 : (Jvm.Cond.code ({ cls := "RoundedNumbers", name := "odd", desc := "(I)J" } : Jvm.MethodName) prog_1_method_16_code (2 : Nat) (Option.some Jvm.ClassFile.FieldType.long)) ∈ tb := List.mem_filter.mpr ⟨List.mem_append_right _ (List.mem_of_getElem? (i := 271) rfl), rfl⟩
set_option maxRecDepth 20000 in
theorem tw_268 : (Jvm.Cond.methodLink "RoundedNumbersLaw" (78 : Nat) ({ cls := "RoundedNumbers", name := "odd", desc := "(I)J" } : Jvm.MethodName)) ∈ tb := List.mem_filter.mpr ⟨List.mem_append_right _ (List.mem_of_getElem? (i := 268) (by decide +kernel)), rfl⟩
set_option maxRecDepth 20000 in
theorem tw_269 : (Jvm.Cond.instanceMethod ({ cls := "RoundedNumbers", name := "odd", desc := "(I)J" } : Jvm.MethodName)) ∈ tb := List.mem_filter.mpr ⟨List.mem_append_right _ (List.mem_of_getElem? (i := 269) (by decide +kernel)), rfl⟩
set_option maxRecDepth 20000 in
theorem tw_270 : (Jvm.Cond.selects "RoundedNumbers" ({ cls := "RoundedNumbers", name := "odd", desc := "(I)J" } : Jvm.MethodName) ({ cls := "RoundedNumbers", name := "odd", desc := "(I)J" } : Jvm.MethodName)) ∈ tb := List.mem_filter.mpr ⟨List.mem_append_right _ (List.mem_of_getElem? (i := 270) (by decide +kernel)), rfl⟩
set_option maxRecDepth 20000 in
theorem tw_503 : (Jvm.Cond.code ({ cls := "RoundedNumbersModel", name := "odd", desc := "(I)J" } : Jvm.MethodName) prog_4_method_40_code (2 : Nat) (Option.some Jvm.ClassFile.FieldType.long)) ∈ tb := List.mem_filter.mpr ⟨List.mem_append_right _ (List.mem_of_getElem? (i := 503) rfl), rfl⟩
set_option maxRecDepth 20000 in
theorem tw_500 : (Jvm.Cond.methodLink "RoundedNumbersLaw" (82 : Nat) ({ cls := "RoundedNumbersModel", name := "odd", desc := "(I)J" } : Jvm.MethodName)) ∈ tb := List.mem_filter.mpr ⟨List.mem_append_right _ (List.mem_of_getElem? (i := 500) (by decide +kernel)), rfl⟩
set_option maxRecDepth 20000 in
theorem tw_501 : (Jvm.Cond.instanceMethod ({ cls := "RoundedNumbersModel", name := "odd", desc := "(I)J" } : Jvm.MethodName)) ∈ tb := List.mem_filter.mpr ⟨List.mem_append_right _ (List.mem_of_getElem? (i := 501) (by decide +kernel)), rfl⟩
set_option maxRecDepth 20000 in
theorem tw_502 : (Jvm.Cond.selects "RoundedNumbersModel" ({ cls := "RoundedNumbersModel", name := "odd", desc := "(I)J" } : Jvm.MethodName) ({ cls := "RoundedNumbersModel", name := "odd", desc := "(I)J" } : Jvm.MethodName)) ∈ tb := List.mem_filter.mpr ⟨List.mem_append_right _ (List.mem_of_getElem? (i := 502) (by decide +kernel)), rfl⟩
set_option maxRecDepth 20000 in
theorem tw_282 : (Jvm.Cond.code ({ cls := "RoundedNumbers", name := "exponent", desc := "(I)J" } : Jvm.MethodName) prog_1_method_17_code (2 : Nat) (Option.some Jvm.ClassFile.FieldType.long)) ∈ tb := List.mem_filter.mpr ⟨List.mem_append_right _ (List.mem_of_getElem? (i := 282) rfl), rfl⟩
set_option maxRecDepth 20000 in
theorem tw_279 : (Jvm.Cond.methodLink "RoundedNumbersLaw" (83 : Nat) ({ cls := "RoundedNumbers", name := "exponent", desc := "(I)J" } : Jvm.MethodName)) ∈ tb := List.mem_filter.mpr ⟨List.mem_append_right _ (List.mem_of_getElem? (i := 279) (by decide +kernel)), rfl⟩
set_option maxRecDepth 20000 in
theorem tw_280 : (Jvm.Cond.instanceMethod ({ cls := "RoundedNumbers", name := "exponent", desc := "(I)J" } : Jvm.MethodName)) ∈ tb := List.mem_filter.mpr ⟨List.mem_append_right _ (List.mem_of_getElem? (i := 280) (by decide +kernel)), rfl⟩
set_option maxRecDepth 20000 in
theorem tw_281 : (Jvm.Cond.selects "RoundedNumbers" ({ cls := "RoundedNumbers", name := "exponent", desc := "(I)J" } : Jvm.MethodName) ({ cls := "RoundedNumbers", name := "exponent", desc := "(I)J" } : Jvm.MethodName)) ∈ tb := List.mem_filter.mpr ⟨List.mem_append_right _ (List.mem_of_getElem? (i := 281) (by decide +kernel)), rfl⟩
set_option maxRecDepth 20000 in
theorem tw_508 : (Jvm.Cond.code ({ cls := "RoundedNumbersModel", name := "exponent", desc := "(I)J" } : Jvm.MethodName) prog_4_method_41_code (2 : Nat) (Option.some Jvm.ClassFile.FieldType.long)) ∈ tb := List.mem_filter.mpr ⟨List.mem_append_right _ (List.mem_of_getElem? (i := 508) rfl), rfl⟩
set_option maxRecDepth 20000 in
theorem tw_505 : (Jvm.Cond.methodLink "RoundedNumbersLaw" (86 : Nat) ({ cls := "RoundedNumbersModel", name := "exponent", desc := "(I)J" } : Jvm.MethodName)) ∈ tb := List.mem_filter.mpr ⟨List.mem_append_right _ (List.mem_of_getElem? (i := 505) (by decide +kernel)), rfl⟩
set_option maxRecDepth 20000 in
theorem tw_506 : (Jvm.Cond.instanceMethod ({ cls := "RoundedNumbersModel", name := "exponent", desc := "(I)J" } : Jvm.MethodName)) ∈ tb := List.mem_filter.mpr ⟨List.mem_append_right _ (List.mem_of_getElem? (i := 506) (by decide +kernel)), rfl⟩
set_option maxRecDepth 20000 in
theorem tw_507 : (Jvm.Cond.selects "RoundedNumbersModel" ({ cls := "RoundedNumbersModel", name := "exponent", desc := "(I)J" } : Jvm.MethodName) ({ cls := "RoundedNumbersModel", name := "exponent", desc := "(I)J" } : Jvm.MethodName)) ∈ tb := List.mem_filter.mpr ⟨List.mem_append_right _ (List.mem_of_getElem? (i := 507) (by decide +kernel)), rfl⟩
set_option maxRecDepth 20000 in
theorem tw_286 : (Jvm.Cond.code ({ cls := "RoundedNumbers", name := "whole", desc := "(IZ)J" } : Jvm.MethodName) prog_1_method_18_code (11 : Nat) (Option.some Jvm.ClassFile.FieldType.long)) ∈ tb := List.mem_filter.mpr ⟨List.mem_append_right _ (List.mem_of_getElem? (i := 286) rfl), rfl⟩
set_option maxRecDepth 20000 in
theorem tw_283 : (Jvm.Cond.methodLink "RoundedNumbersLaw" (87 : Nat) ({ cls := "RoundedNumbers", name := "whole", desc := "(IZ)J" } : Jvm.MethodName)) ∈ tb := List.mem_filter.mpr ⟨List.mem_append_right _ (List.mem_of_getElem? (i := 283) (by decide +kernel)), rfl⟩
set_option maxRecDepth 20000 in
theorem tw_284 : (Jvm.Cond.instanceMethod ({ cls := "RoundedNumbers", name := "whole", desc := "(IZ)J" } : Jvm.MethodName)) ∈ tb := List.mem_filter.mpr ⟨List.mem_append_right _ (List.mem_of_getElem? (i := 284) (by decide +kernel)), rfl⟩
set_option maxRecDepth 20000 in
theorem tw_285 : (Jvm.Cond.selects "RoundedNumbers" ({ cls := "RoundedNumbers", name := "whole", desc := "(IZ)J" } : Jvm.MethodName) ({ cls := "RoundedNumbers", name := "whole", desc := "(IZ)J" } : Jvm.MethodName)) ∈ tb := List.mem_filter.mpr ⟨List.mem_append_right _ (List.mem_of_getElem? (i := 285) (by decide +kernel)), rfl⟩
set_option maxRecDepth 20000 in
theorem tw_512 : (Jvm.Cond.code ({ cls := "RoundedNumbersModel", name := "whole", desc := "(IZ)J" } : Jvm.MethodName) prog_4_method_42_code (7 : Nat) (Option.some Jvm.ClassFile.FieldType.long)) ∈ tb := List.mem_filter.mpr ⟨List.mem_append_right _ (List.mem_of_getElem? (i := 512) rfl), rfl⟩
set_option maxRecDepth 20000 in
theorem tw_509 : (Jvm.Cond.methodLink "RoundedNumbersLaw" (91 : Nat) ({ cls := "RoundedNumbersModel", name := "whole", desc := "(IZ)J" } : Jvm.MethodName)) ∈ tb := List.mem_filter.mpr ⟨List.mem_append_right _ (List.mem_of_getElem? (i := 509) (by decide +kernel)), rfl⟩
set_option maxRecDepth 20000 in
theorem tw_510 : (Jvm.Cond.instanceMethod ({ cls := "RoundedNumbersModel", name := "whole", desc := "(IZ)J" } : Jvm.MethodName)) ∈ tb := List.mem_filter.mpr ⟨List.mem_append_right _ (List.mem_of_getElem? (i := 510) (by decide +kernel)), rfl⟩
set_option maxRecDepth 20000 in
theorem tw_511 : (Jvm.Cond.selects "RoundedNumbersModel" ({ cls := "RoundedNumbersModel", name := "whole", desc := "(IZ)J" } : Jvm.MethodName) ({ cls := "RoundedNumbersModel", name := "whole", desc := "(IZ)J" } : Jvm.MethodName)) ∈ tb := List.mem_filter.mpr ⟨List.mem_append_right _ (List.mem_of_getElem? (i := 511) (by decide +kernel)), rfl⟩
set_option maxRecDepth 20000 in
theorem tw_303 : (Jvm.Cond.code ({ cls := "RoundedNumbers", name := "count", desc := "(I)I" } : Jvm.MethodName) prog_1_method_19_code (2 : Nat) (Option.some Jvm.ClassFile.FieldType.int)) ∈ tb := List.mem_filter.mpr ⟨List.mem_append_right _ (List.mem_of_getElem? (i := 303) rfl), rfl⟩
set_option maxRecDepth 20000 in
theorem tw_300 : (Jvm.Cond.methodLink "RoundedNumbersLaw" (92 : Nat) ({ cls := "RoundedNumbers", name := "count", desc := "(I)I" } : Jvm.MethodName)) ∈ tb := List.mem_filter.mpr ⟨List.mem_append_right _ (List.mem_of_getElem? (i := 300) (by decide +kernel)), rfl⟩
set_option maxRecDepth 20000 in
theorem tw_301 : (Jvm.Cond.instanceMethod ({ cls := "RoundedNumbers", name := "count", desc := "(I)I" } : Jvm.MethodName)) ∈ tb := List.mem_filter.mpr ⟨List.mem_append_right _ (List.mem_of_getElem? (i := 301) (by decide +kernel)), rfl⟩
set_option maxRecDepth 20000 in
theorem tw_302 : (Jvm.Cond.selects "RoundedNumbers" ({ cls := "RoundedNumbers", name := "count", desc := "(I)I" } : Jvm.MethodName) ({ cls := "RoundedNumbers", name := "count", desc := "(I)I" } : Jvm.MethodName)) ∈ tb := List.mem_filter.mpr ⟨List.mem_append_right _ (List.mem_of_getElem? (i := 302) (by decide +kernel)), rfl⟩
set_option maxRecDepth 20000 in
theorem tw_518 : (Jvm.Cond.code ({ cls := "RoundedNumbersModel", name := "count", desc := "(I)I" } : Jvm.MethodName) prog_4_method_43_code (4 : Nat) (Option.some Jvm.ClassFile.FieldType.int)) ∈ tb := List.mem_filter.mpr ⟨List.mem_append_right _ (List.mem_of_getElem? (i := 518) rfl), rfl⟩
set_option maxRecDepth 20000 in
theorem tw_515 : (Jvm.Cond.methodLink "RoundedNumbersLaw" (96 : Nat) ({ cls := "RoundedNumbersModel", name := "count", desc := "(I)I" } : Jvm.MethodName)) ∈ tb := List.mem_filter.mpr ⟨List.mem_append_right _ (List.mem_of_getElem? (i := 515) (by decide +kernel)), rfl⟩
set_option maxRecDepth 20000 in
theorem tw_516 : (Jvm.Cond.instanceMethod ({ cls := "RoundedNumbersModel", name := "count", desc := "(I)I" } : Jvm.MethodName)) ∈ tb := List.mem_filter.mpr ⟨List.mem_append_right _ (List.mem_of_getElem? (i := 516) (by decide +kernel)), rfl⟩
set_option maxRecDepth 20000 in
theorem tw_517 : (Jvm.Cond.selects "RoundedNumbersModel" ({ cls := "RoundedNumbersModel", name := "count", desc := "(I)I" } : Jvm.MethodName) ({ cls := "RoundedNumbersModel", name := "count", desc := "(I)I" } : Jvm.MethodName)) ∈ tb := List.mem_filter.mpr ⟨List.mem_append_right _ (List.mem_of_getElem? (i := 517) (by decide +kernel)), rfl⟩
theorem tw_17 : (Jvm.Cond.methodLinkNest "RoundedNumbers" (19 : Nat) ({ cls := "RoundedNumbers$Exact", name := "<init>", desc := "()V" } : Jvm.MethodName) "RoundedNumbers") ∈ lw_tbl := List.mem_append_right _ (List.mem_of_getElem? (i := 17) (by decide +kernel))
set_option maxRecDepth 20000 in
theorem tw_8 : (Jvm.Cond.instantiable "RoundedNumbers" (8 : Nat)) ∈ tb := List.mem_filter.mpr ⟨List.mem_append_right _ (List.mem_of_getElem? (i := 8) (by decide +kernel)), rfl⟩
set_option maxRecDepth 20000 in
theorem tw_309 : (Jvm.Cond.instantiable "RoundedNumbersModel" (11 : Nat)) ∈ tb := List.mem_filter.mpr ⟨List.mem_append_right _ (List.mem_of_getElem? (i := 309) (by decide +kernel)), rfl⟩
set_option maxRecDepth 20000 in
theorem tw_7 : (Jvm.Cond.classLink "RoundedNumbersLaw" (7 : Nat) "RoundedNumbers") ∈ tb := List.mem_filter.mpr ⟨List.mem_append_right _ (List.mem_of_getElem? (i := 7) (by decide +kernel)), rfl⟩
set_option maxRecDepth 20000 in
theorem tw_11 : (Jvm.Cond.code ({ cls := "RoundedNumbers", name := "<init>", desc := "()V" } : Jvm.MethodName) prog_1_method_1_code (1 : Nat) (Option.none : Option Jvm.ClassFile.FieldType)) ∈ tb := List.mem_filter.mpr ⟨List.mem_append_right _ (List.mem_of_getElem? (i := 11) rfl), rfl⟩
set_option maxRecDepth 20000 in
theorem tw_9 : (Jvm.Cond.methodLink "RoundedNumbersLaw" (9 : Nat) ({ cls := "RoundedNumbers", name := "<init>", desc := "()V" } : Jvm.MethodName)) ∈ tb := List.mem_filter.mpr ⟨List.mem_append_right _ (List.mem_of_getElem? (i := 9) (by decide +kernel)), rfl⟩
set_option maxRecDepth 20000 in
theorem tw_10 : (Jvm.Cond.instanceMethod ({ cls := "RoundedNumbers", name := "<init>", desc := "()V" } : Jvm.MethodName)) ∈ tb := List.mem_filter.mpr ⟨List.mem_append_right _ (List.mem_of_getElem? (i := 10) (by decide +kernel)), rfl⟩
set_option maxRecDepth 20000 in
theorem tw_308 : (Jvm.Cond.classLink "RoundedNumbersLaw" (10 : Nat) "RoundedNumbersModel") ∈ tb := List.mem_filter.mpr ⟨List.mem_append_right _ (List.mem_of_getElem? (i := 308) (by decide +kernel)), rfl⟩
set_option maxRecDepth 20000 in
theorem tw_312 : (Jvm.Cond.code ({ cls := "RoundedNumbersModel", name := "<init>", desc := "()V" } : Jvm.MethodName) prog_4_method_1_code (1 : Nat) (Option.none : Option Jvm.ClassFile.FieldType)) ∈ tb := List.mem_filter.mpr ⟨List.mem_append_right _ (List.mem_of_getElem? (i := 312) rfl), rfl⟩
set_option maxRecDepth 20000 in
theorem tw_310 : (Jvm.Cond.methodLink "RoundedNumbersLaw" (12 : Nat) ({ cls := "RoundedNumbersModel", name := "<init>", desc := "()V" } : Jvm.MethodName)) ∈ tb := List.mem_filter.mpr ⟨List.mem_append_right _ (List.mem_of_getElem? (i := 310) (by decide +kernel)), rfl⟩
set_option maxRecDepth 20000 in
theorem tw_311 : (Jvm.Cond.instanceMethod ({ cls := "RoundedNumbersModel", name := "<init>", desc := "()V" } : Jvm.MethodName)) ∈ tb := List.mem_filter.mpr ⟨List.mem_append_right _ (List.mem_of_getElem? (i := 311) (by decide +kernel)), rfl⟩
