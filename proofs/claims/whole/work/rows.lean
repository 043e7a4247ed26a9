section
/-- a private method of a class that the tables say can be made, by its rows of tables_1 -/
def lw_okq (q : MethodName × Nat) : Prop := (q.1.cls ≠ "java/lang/invoke/MethodHandle" ∧ q.1.cls ≠ "java/lang/invoke/VarHandle") ∧ Cond.instantiable q.1.cls q.2 ∈ tables_1 ∧ Cond.privateMethod q.1 ∈ tables_1 ∧ Cond.instanceMethod q.1 ∈ tables_1
theorem lw_p0 : lw_okq (⟨"EmberCache$Log", "writeOpenPage", "()V"⟩, 9) := ⟨⟨by decide +kernel, by decide +kernel⟩, List.mem_of_getElem? (i := 66) (by decide +kernel), List.mem_of_getElem? (i := 217) (by decide +kernel), List.mem_of_getElem? (i := 218) (by decide +kernel)⟩
theorem lw_p1 : lw_okq (⟨"EmberCache$Log", "emptyHead", "()V"⟩, 9) := ⟨⟨by decide +kernel, by decide +kernel⟩, List.mem_of_getElem? (i := 66) (by decide +kernel), List.mem_of_getElem? (i := 225) (by decide +kernel), List.mem_of_getElem? (i := 226) (by decide +kernel)⟩
theorem lw_p2 : lw_okq (⟨"EmberCache$Log", "settle", "(I)V"⟩, 9) := ⟨⟨by decide +kernel, by decide +kernel⟩, List.mem_of_getElem? (i := 66) (by decide +kernel), List.mem_of_getElem? (i := 241) (by decide +kernel), List.mem_of_getElem? (i := 242) (by decide +kernel)⟩
theorem lw_p3 : lw_okq (⟨"EmberCache$Log", "gather", "(II)V"⟩, 9) := ⟨⟨by decide +kernel, by decide +kernel⟩, List.mem_of_getElem? (i := 66) (by decide +kernel), List.mem_of_getElem? (i := 246) (by decide +kernel), List.mem_of_getElem? (i := 247) (by decide +kernel)⟩
theorem lw_p4 : lw_okq (⟨"EmberCache$Log", "killGroup", "()V"⟩, 9) := ⟨⟨by decide +kernel, by decide +kernel⟩, List.mem_of_getElem? (i := 66) (by decide +kernel), List.mem_of_getElem? (i := 254) (by decide +kernel), List.mem_of_getElem? (i := 255) (by decide +kernel)⟩
theorem lw_p5 : lw_okq (⟨"EmberCache$SetPages", "layOutOthers", "(LEmberCache$Row;LEmberCache$Row;)V"⟩, 5) := ⟨⟨by decide +kernel, by decide +kernel⟩, List.mem_of_getElem? (i := 17) (by decide +kernel), List.mem_of_getElem? (i := 263) (by decide +kernel), List.mem_of_getElem? (i := 264) (by decide +kernel)⟩
theorem lw_p6 : lw_okq (⟨"EmberCache$SetPages", "dropPass", "(IIZII)I"⟩, 5) := ⟨⟨by decide +kernel, by decide +kernel⟩, List.mem_of_getElem? (i := 17) (by decide +kernel), List.mem_of_getElem? (i := 276) (by decide +kernel), List.mem_of_getElem? (i := 277) (by decide +kernel)⟩
theorem lw_p7 : lw_okq (⟨"EmberCache$SetPages", "refill", "(LEmberCache$Row;)V"⟩, 5) := ⟨⟨by decide +kernel, by decide +kernel⟩, List.mem_of_getElem? (i := 17) (by decide +kernel), List.mem_of_getElem? (i := 284) (by decide +kernel), List.mem_of_getElem? (i := 285) (by decide +kernel)⟩
theorem lw_p8 : lw_okq (⟨"EmberCache$Log", "putAnew", "(LEmberCache$Item;)V"⟩, 9) := ⟨⟨by decide +kernel, by decide +kernel⟩, List.mem_of_getElem? (i := 66) (by decide +kernel), List.mem_of_getElem? (i := 292) (by decide +kernel), List.mem_of_getElem? (i := 293) (by decide +kernel)⟩
theorem lw_p9 : lw_okq (⟨"EmberCacheModel", "inLog", "(J)I"⟩, 29) := ⟨⟨by decide +kernel, by decide +kernel⟩, List.mem_of_getElem? (i := 446) (by decide +kernel), List.mem_of_getElem? (i := 561) (by decide +kernel), List.mem_of_getElem? (i := 562) (by decide +kernel)⟩
theorem lw_p10 : lw_okq (⟨"EmberCacheModel", "append", "(JIII)V"⟩, 29) := ⟨⟨by decide +kernel, by decide +kernel⟩, List.mem_of_getElem? (i := 446) (by decide +kernel), List.mem_of_getElem? (i := 565) (by decide +kernel), List.mem_of_getElem? (i := 566) (by decide +kernel)⟩
theorem lw_p11 : lw_okq (⟨"EmberCacheModel", "writeOpenPage", "()V"⟩, 29) := ⟨⟨by decide +kernel, by decide +kernel⟩, List.mem_of_getElem? (i := 446) (by decide +kernel), List.mem_of_getElem? (i := 569) (by decide +kernel), List.mem_of_getElem? (i := 570) (by decide +kernel)⟩
theorem lw_p12 : lw_okq (⟨"EmberCacheModel", "empty", "(I)V"⟩, 29) := ⟨⟨by decide +kernel, by decide +kernel⟩, List.mem_of_getElem? (i := 446) (by decide +kernel), List.mem_of_getElem? (i := 573) (by decide +kernel), List.mem_of_getElem? (i := 574) (by decide +kernel)⟩
theorem lw_p13 : lw_okq (⟨"EmberCacheModel", "forgetDead", "()V"⟩, 29) := ⟨⟨by decide +kernel, by decide +kernel⟩, List.mem_of_getElem? (i := 446) (by decide +kernel), List.mem_of_getElem? (i := 577) (by decide +kernel), List.mem_of_getElem? (i := 578) (by decide +kernel)⟩
theorem lw_p14 : lw_okq (⟨"EmberCacheModel", "handle", "(I)V"⟩, 29) := ⟨⟨by decide +kernel, by decide +kernel⟩, List.mem_of_getElem? (i := 446) (by decide +kernel), List.mem_of_getElem? (i := 581) (by decide +kernel), List.mem_of_getElem? (i := 582) (by decide +kernel)⟩
theorem lw_p15 : lw_okq (⟨"EmberCacheModel", "move", "(I)V"⟩, 29) := ⟨⟨by decide +kernel, by decide +kernel⟩, List.mem_of_getElem? (i := 446) (by decide +kernel), List.mem_of_getElem? (i := 586) (by decide +kernel), List.mem_of_getElem? (i := 587) (by decide +kernel)⟩
def lw_privs_1 : List (MethodName × Nat) := [(⟨"EmberCache$Log", "writeOpenPage", "()V"⟩, 9), (⟨"EmberCache$Log", "emptyHead", "()V"⟩, 9), (⟨"EmberCache$Log", "settle", "(I)V"⟩, 9), (⟨"EmberCache$Log", "gather", "(II)V"⟩, 9), (⟨"EmberCache$Log", "killGroup", "()V"⟩, 9), (⟨"EmberCache$SetPages", "layOutOthers", "(LEmberCache$Row;LEmberCache$Row;)V"⟩, 5), (⟨"EmberCache$SetPages", "dropPass", "(IIZII)I"⟩, 5), (⟨"EmberCache$SetPages", "refill", "(LEmberCache$Row;)V"⟩, 5), (⟨"EmberCache$Log", "putAnew", "(LEmberCache$Item;)V"⟩, 9), (⟨"EmberCacheModel", "inLog", "(J)I"⟩, 29), (⟨"EmberCacheModel", "append", "(JIII)V"⟩, 29), (⟨"EmberCacheModel", "writeOpenPage", "()V"⟩, 29), (⟨"EmberCacheModel", "empty", "(I)V"⟩, 29), (⟨"EmberCacheModel", "forgetDead", "()V"⟩, 29), (⟨"EmberCacheModel", "handle", "(I)V"⟩, 29), (⟨"EmberCacheModel", "move", "(I)V"⟩, 29)]
theorem lw_r1 : ∀ q ∈ lw_privs_1, lw_okq q := List.forall_mem_cons.mpr ⟨lw_p0, List.forall_mem_cons.mpr ⟨lw_p1, List.forall_mem_cons.mpr ⟨lw_p2, List.forall_mem_cons.mpr ⟨lw_p3, List.forall_mem_cons.mpr ⟨lw_p4, List.forall_mem_cons.mpr ⟨lw_p5, List.forall_mem_cons.mpr ⟨lw_p6, List.forall_mem_cons.mpr ⟨lw_p7, List.forall_mem_cons.mpr ⟨lw_p8, List.forall_mem_cons.mpr ⟨lw_p9, List.forall_mem_cons.mpr ⟨lw_p10, List.forall_mem_cons.mpr ⟨lw_p11, List.forall_mem_cons.mpr ⟨lw_p12, List.forall_mem_cons.mpr ⟨lw_p13, List.forall_mem_cons.mpr ⟨lw_p14, List.forall_mem_cons.mpr ⟨lw_p15, fun _ h => absurd h List.not_mem_nil⟩⟩⟩⟩⟩⟩⟩⟩⟩⟩⟩⟩⟩⟩⟩⟩
theorem lw_p16 : lw_okq (⟨"EmberCacheModel", "addNew", "(JIIIZZ)V"⟩, 29) := ⟨⟨by decide +kernel, by decide +kernel⟩, List.mem_of_getElem? (i := 446) (by decide +kernel), List.mem_of_getElem? (i := 590) (by decide +kernel), List.mem_of_getElem? (i := 591) (by decide +kernel)⟩
theorem lw_p17 : lw_okq (⟨"EmberCacheModel", "placesOfNew", "()I"⟩, 29) := ⟨⟨by decide +kernel, by decide +kernel⟩, List.mem_of_getElem? (i := 446) (by decide +kernel), List.mem_of_getElem? (i := 594) (by decide +kernel), List.mem_of_getElem? (i := 595) (by decide +kernel)⟩
theorem lw_p18 : lw_okq (⟨"EmberCacheModel", "dropOne", "()V"⟩, 29) := ⟨⟨by decide +kernel, by decide +kernel⟩, List.mem_of_getElem? (i := 446) (by decide +kernel), List.mem_of_getElem? (i := 598) (by decide +kernel), List.mem_of_getElem? (i := 599) (by decide +kernel)⟩
theorem lw_p19 : lw_okq (⟨"EmberCacheModel", "writePage", "(I)V"⟩, 29) := ⟨⟨by decide +kernel, by decide +kernel⟩, List.mem_of_getElem? (i := 446) (by decide +kernel), List.mem_of_getElem? (i := 602) (by decide +kernel), List.mem_of_getElem? (i := 603) (by decide +kernel)⟩
theorem lw_p20 : lw_okq (⟨"EmberCacheModel", "takeOut", "(JI)Z"⟩, 29) := ⟨⟨by decide +kernel, by decide +kernel⟩, List.mem_of_getElem? (i := 446) (by decide +kernel), List.mem_of_getElem? (i := 606) (by decide +kernel), List.mem_of_getElem? (i := 607) (by decide +kernel)⟩
theorem lw_p21 : lw_okq (⟨"EmberCacheModel", "mayHave", "(J)Z"⟩, 29) := ⟨⟨by decide +kernel, by decide +kernel⟩, List.mem_of_getElem? (i := 446) (by decide +kernel), List.mem_of_getElem? (i := 610) (by decide +kernel), List.mem_of_getElem? (i := 611) (by decide +kernel)⟩
theorem lw_p22 : lw_okq (⟨"EmberCacheModel", "bitsOf", "(J)J"⟩, 29) := ⟨⟨by decide +kernel, by decide +kernel⟩, List.mem_of_getElem? (i := 446) (by decide +kernel), List.mem_of_getElem? (i := 614) (by decide +kernel), List.mem_of_getElem? (i := 615) (by decide +kernel)⟩
theorem lw_p23 : lw_okq (⟨"EmberCacheModel", "filterOf", "(I)J"⟩, 29) := ⟨⟨by decide +kernel, by decide +kernel⟩, List.mem_of_getElem? (i := 446) (by decide +kernel), List.mem_of_getElem? (i := 618) (by decide +kernel), List.mem_of_getElem? (i := 619) (by decide +kernel)⟩
theorem lw_p24 : lw_okq (⟨"EmberCacheModel", "inPage", "(J)I"⟩, 29) := ⟨⟨by decide +kernel, by decide +kernel⟩, List.mem_of_getElem? (i := 446) (by decide +kernel), List.mem_of_getElem? (i := 622) (by decide +kernel), List.mem_of_getElem? (i := 623) (by decide +kernel)⟩
theorem lw_p25 : lw_okq (⟨"EmberCacheModel", "aliveInLog", "()I"⟩, 29) := ⟨⟨by decide +kernel, by decide +kernel⟩, List.mem_of_getElem? (i := 446) (by decide +kernel), List.mem_of_getElem? (i := 669) (by decide +kernel), List.mem_of_getElem? (i := 670) (by decide +kernel)⟩
theorem lw_p26 : lw_okq (⟨"EmberCacheModel", "inPages", "()I"⟩, 29) := ⟨⟨by decide +kernel, by decide +kernel⟩, List.mem_of_getElem? (i := 446) (by decide +kernel), List.mem_of_getElem? (i := 673) (by decide +kernel), List.mem_of_getElem? (i := 674) (by decide +kernel)⟩
def lw_privs_2 : List (MethodName × Nat) := [(⟨"EmberCacheModel", "addNew", "(JIIIZZ)V"⟩, 29), (⟨"EmberCacheModel", "placesOfNew", "()I"⟩, 29), (⟨"EmberCacheModel", "dropOne", "()V"⟩, 29), (⟨"EmberCacheModel", "writePage", "(I)V"⟩, 29), (⟨"EmberCacheModel", "takeOut", "(JI)Z"⟩, 29), (⟨"EmberCacheModel", "mayHave", "(J)Z"⟩, 29), (⟨"EmberCacheModel", "bitsOf", "(J)J"⟩, 29), (⟨"EmberCacheModel", "filterOf", "(I)J"⟩, 29), (⟨"EmberCacheModel", "inPage", "(J)I"⟩, 29), (⟨"EmberCacheModel", "aliveInLog", "()I"⟩, 29), (⟨"EmberCacheModel", "inPages", "()I"⟩, 29)]
theorem lw_r2 : ∀ q ∈ lw_privs_2, lw_okq q := List.forall_mem_cons.mpr ⟨lw_p16, List.forall_mem_cons.mpr ⟨lw_p17, List.forall_mem_cons.mpr ⟨lw_p18, List.forall_mem_cons.mpr ⟨lw_p19, List.forall_mem_cons.mpr ⟨lw_p20, List.forall_mem_cons.mpr ⟨lw_p21, List.forall_mem_cons.mpr ⟨lw_p22, List.forall_mem_cons.mpr ⟨lw_p23, List.forall_mem_cons.mpr ⟨lw_p24, List.forall_mem_cons.mpr ⟨lw_p25, List.forall_mem_cons.mpr ⟨lw_p26, fun _ h => absurd h List.not_mem_nil⟩⟩⟩⟩⟩⟩⟩⟩⟩⟩⟩
def lw_privs : List (MethodName × Nat) := lw_privs_1 ++ (lw_privs_2)
def lw_tbl : List Cond := k2_sels lw_privs ++ tables_1
theorem lw_privs_ok : ∀ q ∈ lw_privs, lw_okq q := by
  show ∀ q ∈ lw_privs_1 ++ (lw_privs_2), lw_okq q
  exact List.forall_mem_append.mpr ⟨lw_r1, lw_r2⟩
def RX0 : String := "EmberCache$Item"
def TX0 : u_T := fun k => match k with
  | 0 => ("EmberCache$Item", "key", "J", true)
  | 1 => ("EmberCache$Item", "set", "I", true)
  | 2 => ("EmberCache$Item", "bits", "J", true)
  | 3 => ("EmberCache$Item", "places", "I", true)
  | 4 => ("EmberCache$Item", "words", "I", true)
  | 5 => ("EmberCache$Item", "first", "I", true)
  | 6 => ("EmberCache$Item", "step", "I", true)
  | 7 => ("EmberCache$Item", "marked", "Z", false)
  | _ => ("EmberCache$Item", "inLog", "Z", false)
def tyX0 : Nat → FieldType := fun k => match k with
  | 0 => .long
  | 1 => .int
  | 2 => .long
  | 3 => .int
  | 4 => .int
  | 5 => .int
  | 6 => .int
  | 7 => .boolean
  | _ => .boolean
abbrev wsX00 : List Cond := u_ws RX0 TX0 9
theorem nmX0 : ∀ a, a < 9 → ∀ b, b < 9 → a ≠ b → (TX0 a).2.1 ≠ (TX0 b).2.1 := by decide +kernel
theorem tyX0_ok : ∀ k, k < 9 → parseFieldDescriptor (TX0 k).2.2.1 = some (tyX0 k) := by decide +kernel
abbrev cX0_init : ByteArray := prog_2_method_1_code
def yX0_init : MethodName := ⟨RX0, "<init>", "(JIII)V"⟩
def RX1 : String := "EmberCache$Log"
def TX1 : u_T := fun k => match k with
  | 0 => ("EmberCache$Log", "ring", "[LEmberCache$Row;", true)
  | 1 => ("EmberCache$Log", "written", "[I", true)
  | 2 => ("EmberCache$Log", "openPage", "LEmberCache$Row;", false)
  | 3 => ("EmberCache$Log", "takenOut", "LEmberCache$Row;", true)
  | 4 => ("EmberCache$Log", "group", "LEmberCache$Row;", true)
  | 5 => ("EmberCache$Log", "sets", "LEmberCache$SetPages;", true)
  | 6 => ("EmberCache$Log", "tally", "[I", true)
  | 7 => ("EmberCache$Log", "head", "I", false)
  | _ => ("EmberCache$Log", "living", "I", false)
def tyX1 : Nat → FieldType := fun k => match k with
  | 0 => .array (.object "EmberCache$Row")
  | 1 => .array .int
  | 2 => .object "EmberCache$Row"
  | 3 => .object "EmberCache$Row"
  | 4 => .object "EmberCache$Row"
  | 5 => .object "EmberCache$SetPages"
  | 6 => .array .int
  | 7 => .int
  | _ => .int
abbrev wsX10 : List Cond := u_ws RX1 TX1 9
theorem nmX1 : ∀ a, a < 9 → ∀ b, b < 9 → a ≠ b → (TX1 a).2.1 ≠ (TX1 b).2.1 := by decide +kernel
theorem tyX1_ok : ∀ k, k < 9 → parseFieldDescriptor (TX1 k).2.2.1 = some (tyX1 k) := by decide +kernel
abbrev cX1_init : ByteArray := prog_3_method_1_code
def yX1_init : MethodName := ⟨RX1, "<init>", "(LEmberCache$SetPages;[I)V"⟩
abbrev cX1_find : ByteArray := prog_3_method_2_code
def yX1_find : MethodName := ⟨RX1, "find", "(J)LEmberCache$Item;"⟩
abbrev cX1_kill : ByteArray := prog_3_method_3_code
def yX1_kill : MethodName := ⟨RX1, "kill", "(LEmberCache$Item;)Z"⟩
abbrev cX1_append : ByteArray := prog_3_method_4_code
def yX1_append : MethodName := ⟨RX1, "append", "(LEmberCache$Item;)V"⟩
abbrev cX1_writeOpenPage : ByteArray := prog_3_method_5_code
def yX1_writeOpenPage : MethodName := ⟨RX1, "writeOpenPage", "()V"⟩
abbrev cX1_emptyHead : ByteArray := prog_3_method_6_code
def yX1_emptyHead : MethodName := ⟨RX1, "emptyHead", "()V"⟩
abbrev cX1_settle : ByteArray := prog_3_method_7_code
def yX1_settle : MethodName := ⟨RX1, "settle", "(I)V"⟩
abbrev cX1_gather : ByteArray := prog_3_method_8_code
def yX1_gather : MethodName := ⟨RX1, "gather", "(II)V"⟩
abbrev cX1_killGroup : ByteArray := prog_3_method_9_code
def yX1_killGroup : MethodName := ⟨RX1, "killGroup", "()V"⟩
abbrev cX1_putAnew : ByteArray := prog_3_method_10_code
def yX1_putAnew : MethodName := ⟨RX1, "putAnew", "(LEmberCache$Item;)V"⟩
abbrev cX1_wipe : ByteArray := prog_3_method_11_code
def yX1_wipe : MethodName := ⟨RX1, "wipe", "()V"⟩
abbrev cX1_countInSegment : ByteArray := prog_3_method_12_code
def yX1_countInSegment : MethodName := ⟨RX1, "countInSegment", "(I)I"⟩
abbrev cX1_pagesFit : ByteArray := prog_3_method_13_code
def yX1_pagesFit : MethodName := ⟨RX1, "pagesFit", "()Z"⟩
abbrev cX1_countIsRight : ByteArray := prog_3_method_14_code
def yX1_countIsRight : MethodName := ⟨RX1, "countIsRight", "()Z"⟩
abbrev cX1_keysDiffer : ByteArray := prog_3_method_15_code
def yX1_keysDiffer : MethodName := ⟨RX1, "keysDiffer", "()Z"⟩
def RX2 : String := "EmberCache$Row"
def TX2 : u_T := fun k => match k with
  | 0 => ("EmberCache$Row", "items", "[LEmberCache$Item;", true)
  | _ => ("EmberCache$Row", "size", "I", false)
def tyX2 : Nat → FieldType := fun k => match k with
  | 0 => .array (.object "EmberCache$Item")
  | _ => .int
abbrev wsX20 : List Cond := u_ws RX2 TX2 2
theorem nmX2 : ∀ a, a < 2 → ∀ b, b < 2 → a ≠ b → (TX2 a).2.1 ≠ (TX2 b).2.1 := by decide +kernel
theorem tyX2_ok : ∀ k, k < 2 → parseFieldDescriptor (TX2 k).2.2.1 = some (tyX2 k) := by decide +kernel
abbrev cX2_init : ByteArray := prog_4_method_1_code
def yX2_init : MethodName := ⟨RX2, "<init>", "(I)V"⟩
abbrev cX2_at : ByteArray := prog_4_method_2_code
def yX2_at : MethodName := ⟨RX2, "at", "(I)LEmberCache$Item;"⟩
abbrev cX2_add : ByteArray := prog_4_method_3_code
def yX2_add : MethodName := ⟨RX2, "add", "(LEmberCache$Item;)V"⟩
abbrev cX2_addAll : ByteArray := prog_4_method_4_code
def yX2_addAll : MethodName := ⟨RX2, "addAll", "(LEmberCache$Row;)V"⟩
abbrev cX2_addInLog : ByteArray := prog_4_method_5_code
def yX2_addInLog : MethodName := ⟨RX2, "addInLog", "(LEmberCache$Row;II)V"⟩
abbrev cX2_clear : ByteArray := prog_4_method_6_code
def yX2_clear : MethodName := ⟨RX2, "clear", "()V"⟩
abbrev cX2_blank : ByteArray := prog_4_method_7_code
def yX2_blank : MethodName := ⟨RX2, "blank", "(I)V"⟩
abbrev cX2_closeUpOver : ByteArray := prog_4_method_8_code
def yX2_closeUpOver : MethodName := ⟨RX2, "closeUpOver", "(I)V"⟩
abbrev cX2_indexOf : ByteArray := prog_4_method_9_code
def yX2_indexOf : MethodName := ⟨RX2, "indexOf", "(J)I"⟩
abbrev cX2_findInLog : ByteArray := prog_4_method_10_code
def yX2_findInLog : MethodName := ⟨RX2, "findInLog", "(J)LEmberCache$Item;"⟩
abbrev cX2_countInLog : ByteArray := prog_4_method_11_code
def yX2_countInLog : MethodName := ⟨RX2, "countInLog", "()I"⟩
abbrev cX2_places : ByteArray := prog_4_method_12_code
def yX2_places : MethodName := ⟨RX2, "places", "()I"⟩
abbrev cX2_hasRoomFor : ByteArray := prog_4_method_13_code
def yX2_hasRoomFor : MethodName := ⟨RX2, "hasRoomFor", "(LEmberCache$Item;)Z"⟩
abbrev cX2_filterOfKeys : ByteArray := prog_4_method_14_code
def yX2_filterOfKeys : MethodName := ⟨RX2, "filterOfKeys", "()J"⟩
abbrev cX2_belongsTo : ByteArray := prog_4_method_15_code
def yX2_belongsTo : MethodName := ⟨RX2, "belongsTo", "(I)Z"⟩
def RX3 : String := "EmberCache$SetPages"
def TX3 : u_T := fun k => match k with
  | 0 => ("EmberCache$SetPages", "pages", "[LEmberCache$Row;", true)
  | 1 => ("EmberCache$SetPages", "filters", "[J", true)
  | 2 => ("EmberCache$SetPages", "tally", "[I", true)
  | 3 => ("EmberCache$SetPages", "bench", "LEmberCache$Row;", true)
  | _ => ("EmberCache$SetPages", "standing", "I", false)
def tyX3 : Nat → FieldType := fun k => match k with
  | 0 => .array (.object "EmberCache$Row")
  | 1 => .array .long
  | 2 => .array .int
  | 3 => .object "EmberCache$Row"
  | _ => .int
abbrev wsX30 : List Cond := u_ws RX3 TX3 5
theorem nmX3 : ∀ a, a < 5 → ∀ b, b < 5 → a ≠ b → (TX3 a).2.1 ≠ (TX3 b).2.1 := by decide +kernel
theorem tyX3_ok : ∀ k, k < 5 → parseFieldDescriptor (TX3 k).2.2.1 = some (tyX3 k) := by decide +kernel
abbrev cX3_init : ByteArray := prog_5_method_1_code
def yX3_init : MethodName := ⟨RX3, "<init>", "([I)V"⟩
abbrev cX3_find : ByteArray := prog_5_method_2_code
def yX3_find : MethodName := ⟨RX3, "find", "(J)LEmberCache$Item;"⟩
abbrev cX3_read : ByteArray := prog_5_method_3_code
def yX3_read : MethodName := ⟨RX3, "read", "(J)LEmberCache$Item;"⟩
abbrev cX3_takeOut : ByteArray := prog_5_method_4_code
def yX3_takeOut : MethodName := ⟨RX3, "takeOut", "(JI)Z"⟩
abbrev cX3_moveIn : ByteArray := prog_5_method_5_code
def yX3_moveIn : MethodName := ⟨RX3, "moveIn", "(ILEmberCache$Row;)V"⟩
abbrev cX3_layOutOthers : ByteArray := prog_5_method_6_code
def yX3_layOutOthers : MethodName := ⟨RX3, "layOutOthers", "(LEmberCache$Row;LEmberCache$Row;)V"⟩
abbrev cX3_dropPass : ByteArray := prog_5_method_7_code
def yX3_dropPass : MethodName := ⟨RX3, "dropPass", "(IIZII)I"⟩
abbrev cX3_refill : ByteArray := prog_5_method_8_code
def yX3_refill : MethodName := ⟨RX3, "refill", "(LEmberCache$Row;)V"⟩
abbrev cX3_wipe : ByteArray := prog_5_method_9_code
def yX3_wipe : MethodName := ⟨RX3, "wipe", "()V"⟩
abbrev cX3_pagesFit : ByteArray := prog_5_method_10_code
def yX3_pagesFit : MethodName := ⟨RX3, "pagesFit", "()Z"⟩
abbrev cX3_keysBelong : ByteArray := prog_5_method_11_code
def yX3_keysBelong : MethodName := ⟨RX3, "keysBelong", "()Z"⟩
abbrev cX3_filtersAreRight : ByteArray := prog_5_method_12_code
def yX3_filtersAreRight : MethodName := ⟨RX3, "filtersAreRight", "()Z"⟩
abbrev cX3_countIsRight : ByteArray := prog_5_method_13_code
def yX3_countIsRight : MethodName := ⟨RX3, "countIsRight", "()Z"⟩
def RX4 : String := "EmberCache"
def TX4 : u_T := fun k => match k with
  | 0 => ("EmberCache", "tally", "[I", true)
  | 1 => ("EmberCache", "sets", "LEmberCache$SetPages;", true)
  | 2 => ("EmberCache", "log", "LEmberCache$Log;", true)
  | 3 => ("EmberCache", "closed", "Z", false)
  | 4 => ("EmberCache", "gotWords", "I", false)
  | 5 => ("EmberCache", "gotFirst", "I", false)
  | _ => ("EmberCache", "gotStep", "I", false)
def tyX4 : Nat → FieldType := fun k => match k with
  | 0 => .array .int
  | 1 => .object "EmberCache$SetPages"
  | 2 => .object "EmberCache$Log"
  | 3 => .boolean
  | 4 => .int
  | 5 => .int
  | _ => .int
abbrev wsX40 : List Cond := u_ws RX4 TX4 7
theorem nmX4 : ∀ a, a < 7 → ∀ b, b < 7 → a ≠ b → (TX4 a).2.1 ≠ (TX4 b).2.1 := by decide +kernel
theorem tyX4_ok : ∀ k, k < 7 → parseFieldDescriptor (TX4 k).2.2.1 = some (tyX4 k) := by decide +kernel
abbrev cX4_init : ByteArray := prog_1_method_1_code
def yX4_init : MethodName := ⟨RX4, "<init>", "()V"⟩
abbrev cX4_put : ByteArray := prog_1_method_2_code
def yX4_put : MethodName := ⟨RX4, "put", "(JIII)I"⟩
abbrev cX4_get : ByteArray := prog_1_method_3_code
def yX4_get : MethodName := ⟨RX4, "get", "(J)I"⟩
abbrev cX4_got : ByteArray := prog_1_method_4_code
def yX4_got : MethodName := ⟨RX4, "got", "(I)I"⟩
abbrev cX4_remove : ByteArray := prog_1_method_5_code
def yX4_remove : MethodName := ⟨RX4, "remove", "(J)I"⟩
abbrev cX4_mix : ByteArray := prog_1_method_6_code
def yX4_mix : MethodName := ⟨RX4, "mix", "(J)J"⟩
abbrev cX4_unmix : ByteArray := prog_1_method_7_code
def yX4_unmix : MethodName := ⟨RX4, "unmix", "(J)J"⟩
abbrev cX4_setOf : ByteArray := prog_1_method_8_code
def yX4_setOf : MethodName := ⟨RX4, "setOf", "(J)I"⟩
abbrev cX4_where : ByteArray := prog_1_method_9_code
def yX4_where : MethodName := ⟨RX4, "where", "(J)I"⟩
abbrev cX4_mark : ByteArray := prog_1_method_10_code
def yX4_mark : MethodName := ⟨RX4, "mark", "(J)I"⟩
abbrev cX4_stands : ByteArray := prog_1_method_11_code
def yX4_stands : MethodName := ⟨RX4, "stands", "(I)I"⟩
abbrev cX4_key : ByteArray := prog_1_method_12_code
def yX4_key : MethodName := ⟨RX4, "key", "(II)J"⟩
abbrev cX4_filter : ByteArray := prog_1_method_13_code
def yX4_filter : MethodName := ⟨RX4, "filter", "(I)J"⟩
abbrev cX4_alive : ByteArray := prog_1_method_14_code
def yX4_alive : MethodName := ⟨RX4, "alive", "(I)I"⟩
abbrev cX4_count : ByteArray := prog_1_method_15_code
def yX4_count : MethodName := ⟨RX4, "count", "(I)I"⟩
abbrev cX4_close : ByteArray := prog_1_method_16_code
def yX4_close : MethodName := ⟨RX4, "close", "()I"⟩
abbrev cX4_crash : ByteArray := prog_1_method_17_code
def yX4_crash : MethodName := ⟨RX4, "crash", "()I"⟩
abbrev cX4_open : ByteArray := prog_1_method_18_code
def yX4_open : MethodName := ⟨RX4, "open", "()I"⟩
abbrev cX4_check : ByteArray := prog_1_method_19_code
def yX4_check : MethodName := ⟨RX4, "check", "()I"⟩
abbrev cX4_isSet : ByteArray := prog_1_method_20_code
def yX4_isSet : MethodName := ⟨RX4, "isSet", "(I)Z"⟩
abbrev cX4_mixOf : ByteArray := prog_1_method_21_code
def yX4_mixOf : MethodName := ⟨RX4, "mixOf", "(J)J"⟩
abbrev cX4_setOfMix : ByteArray := prog_1_method_22_code
def yX4_setOfMix : MethodName := ⟨RX4, "setOfMix", "(J)I"⟩
abbrev cX4_filterBits : ByteArray := prog_1_method_23_code
def yX4_filterBits : MethodName := ⟨RX4, "filterBits", "(J)J"⟩
def RX5 : String := "EmberCacheModel"
def TX5 : u_T := fun k => match k with
  | 0 => ("EmberCacheModel", "logKey", "[J", true)
  | 1 => ("EmberCacheModel", "logWords", "[I", true)
  | 2 => ("EmberCacheModel", "logFirst", "[I", true)
  | 3 => ("EmberCacheModel", "logStep", "[I", true)
  | 4 => ("EmberCacheModel", "logAlive", "[Z", true)
  | 5 => ("EmberCacheModel", "logMark", "[Z", true)
  | 6 => ("EmberCacheModel", "logWhere", "[I", true)
  | 7 => ("EmberCacheModel", "logged", "I", false)
  | 8 => ("EmberCacheModel", "pages", "[I", true)
  | 9 => ("EmberCacheModel", "head", "I", false)
  | 10 => ("EmberCacheModel", "openPlaces", "I", false)
  | 11 => ("EmberCacheModel", "pageKey", "[J", true)
  | 12 => ("EmberCacheModel", "pageWords", "[I", true)
  | 13 => ("EmberCacheModel", "pageFirst", "[I", true)
  | 14 => ("EmberCacheModel", "pageStep", "[I", true)
  | 15 => ("EmberCacheModel", "pageMark", "[Z", true)
  | 16 => ("EmberCacheModel", "stand", "[I", true)
  | 17 => ("EmberCacheModel", "newKey", "[J", true)
  | 18 => ("EmberCacheModel", "newWords", "[I", true)
  | 19 => ("EmberCacheModel", "newFirst", "[I", true)
  | 20 => ("EmberCacheModel", "newStep", "[I", true)
  | 21 => ("EmberCacheModel", "newMark", "[Z", true)
  | 22 => ("EmberCacheModel", "newStood", "[Z", true)
  | 23 => ("EmberCacheModel", "news", "I", false)
  | 24 => ("EmberCacheModel", "counts", "[I", true)
  | 25 => ("EmberCacheModel", "isShut", "Z", false)
  | 26 => ("EmberCacheModel", "gotWords", "I", false)
  | 27 => ("EmberCacheModel", "gotFirst", "I", false)
  | _ => ("EmberCacheModel", "gotStep", "I", false)
def tyX5 : Nat → FieldType := fun k => match k with
  | 0 => .array .long
  | 1 => .array .int
  | 2 => .array .int
  | 3 => .array .int
  | 4 => .array .boolean
  | 5 => .array .boolean
  | 6 => .array .int
  | 7 => .int
  | 8 => .array .int
  | 9 => .int
  | 10 => .int
  | 11 => .array .long
  | 12 => .array .int
  | 13 => .array .int
  | 14 => .array .int
  | 15 => .array .boolean
  | 16 => .array .int
  | 17 => .array .long
  | 18 => .array .int
  | 19 => .array .int
  | 20 => .array .int
  | 21 => .array .boolean
  | 22 => .array .boolean
  | 23 => .int
  | 24 => .array .int
  | 25 => .boolean
  | 26 => .int
  | 27 => .int
  | _ => .int
abbrev wsX50 : List Cond := u_ws RX5 TX5 29
theorem nmX5 : ∀ a, a < 29 → ∀ b, b < 29 → a ≠ b → (TX5 a).2.1 ≠ (TX5 b).2.1 := by decide +kernel
theorem tyX5_ok : ∀ k, k < 29 → parseFieldDescriptor (TX5 k).2.2.1 = some (tyX5 k) := by decide +kernel
abbrev cX5_init : ByteArray := prog_7_method_1_code
def yX5_init : MethodName := ⟨RX5, "<init>", "()V"⟩
abbrev cX5_mix : ByteArray := prog_7_method_2_code
def yX5_mix : MethodName := ⟨RX5, "mix", "(J)J"⟩
abbrev cX5_unmix : ByteArray := prog_7_method_3_code
def yX5_unmix : MethodName := ⟨RX5, "unmix", "(J)J"⟩
abbrev cX5_setOf : ByteArray := prog_7_method_4_code
def yX5_setOf : MethodName := ⟨RX5, "setOf", "(J)I"⟩
abbrev cX5_bitsOf : ByteArray := prog_7_method_5_code
def yX5_bitsOf : MethodName := ⟨RX5, "bitsOf", "(J)J"⟩
abbrev cX5_filterOf : ByteArray := prog_7_method_6_code
def yX5_filterOf : MethodName := ⟨RX5, "filterOf", "(I)J"⟩
abbrev cX5_mayHave : ByteArray := prog_7_method_7_code
def yX5_mayHave : MethodName := ⟨RX5, "mayHave", "(J)Z"⟩
abbrev cX5_inLog : ByteArray := prog_7_method_8_code
def yX5_inLog : MethodName := ⟨RX5, "inLog", "(J)I"⟩
abbrev cX5_inPage : ByteArray := prog_7_method_9_code
def yX5_inPage : MethodName := ⟨RX5, "inPage", "(J)I"⟩
abbrev cX5_append : ByteArray := prog_7_method_10_code
def yX5_append : MethodName := ⟨RX5, "append", "(JIII)V"⟩
abbrev cX5_writeOpenPage : ByteArray := prog_7_method_11_code
def yX5_writeOpenPage : MethodName := ⟨RX5, "writeOpenPage", "()V"⟩
abbrev cX5_empty : ByteArray := prog_7_method_12_code
def yX5_empty : MethodName := ⟨RX5, "empty", "(I)V"⟩
abbrev cX5_forgetDead : ByteArray := prog_7_method_13_code
def yX5_forgetDead : MethodName := ⟨RX5, "forgetDead", "()V"⟩
abbrev cX5_handle : ByteArray := prog_7_method_14_code
def yX5_handle : MethodName := ⟨RX5, "handle", "(I)V"⟩
abbrev cX5_addNew : ByteArray := prog_7_method_15_code
def yX5_addNew : MethodName := ⟨RX5, "addNew", "(JIIIZZ)V"⟩
abbrev cX5_move : ByteArray := prog_7_method_16_code
def yX5_move : MethodName := ⟨RX5, "move", "(I)V"⟩
abbrev cX5_placesOfNew : ByteArray := prog_7_method_17_code
def yX5_placesOfNew : MethodName := ⟨RX5, "placesOfNew", "()I"⟩
abbrev cX5_dropOne : ByteArray := prog_7_method_18_code
def yX5_dropOne : MethodName := ⟨RX5, "dropOne", "()V"⟩
abbrev cX5_writePage : ByteArray := prog_7_method_19_code
def yX5_writePage : MethodName := ⟨RX5, "writePage", "(I)V"⟩
abbrev cX5_takeOut : ByteArray := prog_7_method_20_code
def yX5_takeOut : MethodName := ⟨RX5, "takeOut", "(JI)Z"⟩
abbrev cX5_put : ByteArray := prog_7_method_21_code
def yX5_put : MethodName := ⟨RX5, "put", "(JIII)I"⟩
abbrev cX5_get : ByteArray := prog_7_method_22_code
def yX5_get : MethodName := ⟨RX5, "get", "(J)I"⟩
abbrev cX5_got : ByteArray := prog_7_method_23_code
def yX5_got : MethodName := ⟨RX5, "got", "(I)I"⟩
abbrev cX5_remove : ByteArray := prog_7_method_24_code
def yX5_remove : MethodName := ⟨RX5, "remove", "(J)I"⟩
abbrev cX5_where : ByteArray := prog_7_method_25_code
def yX5_where : MethodName := ⟨RX5, "where", "(J)I"⟩
abbrev cX5_mark : ByteArray := prog_7_method_26_code
def yX5_mark : MethodName := ⟨RX5, "mark", "(J)I"⟩
abbrev cX5_isSet : ByteArray := prog_7_method_27_code
def yX5_isSet : MethodName := ⟨RX5, "isSet", "(I)Z"⟩
abbrev cX5_stands : ByteArray := prog_7_method_28_code
def yX5_stands : MethodName := ⟨RX5, "stands", "(I)I"⟩
abbrev cX5_key : ByteArray := prog_7_method_29_code
def yX5_key : MethodName := ⟨RX5, "key", "(II)J"⟩
abbrev cX5_filter : ByteArray := prog_7_method_30_code
def yX5_filter : MethodName := ⟨RX5, "filter", "(I)J"⟩
abbrev cX5_alive : ByteArray := prog_7_method_31_code
def yX5_alive : MethodName := ⟨RX5, "alive", "(I)I"⟩
abbrev cX5_aliveInLog : ByteArray := prog_7_method_32_code
def yX5_aliveInLog : MethodName := ⟨RX5, "aliveInLog", "()I"⟩
abbrev cX5_inPages : ByteArray := prog_7_method_33_code
def yX5_inPages : MethodName := ⟨RX5, "inPages", "()I"⟩
abbrev cX5_count : ByteArray := prog_7_method_34_code
def yX5_count : MethodName := ⟨RX5, "count", "(I)I"⟩
abbrev cX5_close : ByteArray := prog_7_method_35_code
def yX5_close : MethodName := ⟨RX5, "close", "()I"⟩
abbrev cX5_crash : ByteArray := prog_7_method_36_code
def yX5_crash : MethodName := ⟨RX5, "crash", "()I"⟩
abbrev cX5_open : ByteArray := prog_7_method_37_code
def yX5_open : MethodName := ⟨RX5, "open", "()I"⟩
abbrev cX5_check : ByteArray := prog_7_method_38_code
def yX5_check : MethodName := ⟨RX5, "check", "()I"⟩
def RJ9 : String := "java/lang/Math"
def TJ9 : u_T := fun k => match k with
  | _ => ("", "", "", false)
def tyJ9 : Nat → FieldType := fun k => match k with
  | _ => .int
abbrev wsJ90 : List Cond := u_ws RJ9 TJ9 0
theorem nmJ9 : ∀ a, a < 0 → ∀ b, b < 0 → a ≠ b → (TJ9 a).2.1 ≠ (TJ9 b).2.1 := by decide +kernel
theorem tyJ9_ok : ∀ k, k < 0 → parseFieldDescriptor (TJ9 k).2.2.1 = some (tyJ9 k) := by decide +kernel
abbrev cJ9_max_7cf53 : ByteArray := prog_8_method_65_code
def yJ9_max_7cf53 : MethodName := ⟨RJ9, "max", "(II)I"⟩
def RL : String := "EmberCacheLaw"
abbrev cL_law : ByteArray := code
def yL_law : MethodName := ⟨RL, "law", "([I)Z"⟩
abbrev classes : List vw_C := [(RX0, TX0, 9), (RX1, TX1, 9), (RX2, TX2, 2), (RX3, TX3, 5), (RX4, TX4, 7), (RX5, TX5, 29)]
def GW : List Cond := lw_tbl.filter goodWord
theorem gw_t {w : Cond} (i : Nat) (h : tables_1[i]? = some w) (hg : goodWord w = true) : w ∈ GW := List.mem_filter.mpr ⟨List.mem_append_right _ (List.mem_of_getElem? h), hg⟩
theorem gw_s {w : Cond} (i : Nat) (h : (k2_sels lw_privs)[i]? = some w) (hg : goodWord w = true) : w ∈ GW := List.mem_filter.mpr ⟨List.mem_append_left _ (List.mem_of_getElem? h), hg⟩
theorem gw_good {w : Cond} (h : w ∈ GW) : goodWord w = true := (List.mem_filter.mp h).2
theorem gw_tbl {w : Cond} (h : w ∈ GW) : w ∈ lw_tbl := (List.mem_filter.mp h).1
theorem gw_in {big : List Cond} {c : Cond} (hb : ∀ w ∈ GW, w ∈ big) (hc : c ∈ GW) : GoodIn big (c :: GW) := by
  intro w hw
  have h : w ∈ GW := by
    rcases List.mem_cons.mp hw with h | h
    · rw [h]; exact hc
    · exact h
  exact ⟨hb w h, good_of_word (gw_good h)⟩
def isN : Cond → Bool
  | .fieldLinkNest .. => true
  | .methodLinkNest .. => true
  | _ => false
def NW : List Cond := tables_1.filter isN
theorem nw_t {w : Cond} (i : Nat) (h : tables_1[i]? = some w) (hg : isN w = true) : w ∈ NW := List.mem_filter.mpr ⟨List.mem_of_getElem? h, hg⟩
theorem gw_0 : Cond.initialized RL ∈ GW := gw_t 0 (by decide +kernel) (by decide +kernel)
theorem gw_1 : Cond.initialized RX4 ∈ GW := gw_t 1 (by decide +kernel) (by decide +kernel)
theorem gw_2 : Cond.initialized RX3 ∈ GW := gw_t 2 (by decide +kernel) (by decide +kernel)
theorem gw_3 : Cond.initialized RX2 ∈ GW := gw_t 3 (by decide +kernel) (by decide +kernel)
theorem gw_4 : Cond.initialized RJ9 ∈ GW := gw_t 4 (by decide +kernel) (by decide +kernel)
theorem gw_5 : Cond.initialized RX1 ∈ GW := gw_t 5 (by decide +kernel) (by decide +kernel)
theorem gw_6 : Cond.initialized RX5 ∈ GW := gw_t 6 (by decide +kernel) (by decide +kernel)
theorem gw_7 : Cond.initialized RX0 ∈ GW := gw_t 7 (by decide +kernel) (by decide +kernel)
theorem gw_8 : Cond.classLink RL (7) RX4 ∈ GW := gw_t 8 (by decide +kernel) (by decide +kernel)
theorem gw_9 : Cond.instantiable RX4 (7) ∈ GW := gw_t 9 (by decide +kernel) (by decide +kernel)
theorem gw_10 : Cond.methodLink RL (9) yX4_init ∈ GW := gw_t 10 (by decide +kernel) (by decide +kernel)
theorem gw_11 : Cond.instanceMethod yX4_init ∈ GW := gw_t 11 (by decide +kernel) (by decide +kernel)
theorem gw_12 : Cond.code yX4_init cX4_init 1 (none) ∈ GW := gw_t 12 (by decide +kernel) (by decide +kernel)
theorem gw_13 : Cond.methodLink RX4 (3) objectInit ∈ GW := gw_t 13 (by decide +kernel) (by decide +kernel)
theorem gw_14 : Cond.instanceMethod objectInit ∈ GW := gw_t 14 (by decide +kernel) (by decide +kernel)
theorem gw_16 : Cond.classLink RX4 (13) RX3 ∈ GW := gw_t 16 (by decide +kernel) (by decide +kernel)
theorem gw_17 : Cond.instantiable RX3 (5) ∈ GW := gw_t 17 (by decide +kernel) (by decide +kernel)
theorem gw_18 : Cond.methodLink RX4 (15) yX3_init ∈ GW := gw_t 18 (by decide +kernel) (by decide +kernel)
theorem gw_19 : Cond.instanceMethod yX3_init ∈ GW := gw_t 19 (by decide +kernel) (by decide +kernel)
theorem gw_20 : Cond.code yX3_init cX3_init 3 (none) ∈ GW := gw_t 20 (by decide +kernel) (by decide +kernel)
theorem gw_21 : Cond.methodLink RX3 (3) objectInit ∈ GW := gw_t 21 (by decide +kernel) (by decide +kernel)
theorem gw_22 : Cond.classLink RX3 (15) RX2 ∈ GW := gw_t 22 (by decide +kernel) (by decide +kernel)
theorem gw_24 : Cond.instantiable RX2 (2) ∈ GW := gw_t 24 (by decide +kernel) (by decide +kernel)
theorem gw_25 : Cond.methodLink RX3 (21) yX2_init ∈ GW := gw_t 25 (by decide +kernel) (by decide +kernel)
theorem gw_26 : Cond.instanceMethod yX2_init ∈ GW := gw_t 26 (by decide +kernel) (by decide +kernel)
theorem gw_27 : Cond.code yX2_init cX2_init 2 (none) ∈ GW := gw_t 27 (by decide +kernel) (by decide +kernel)
theorem gw_28 : Cond.methodLink RX2 (3) objectInit ∈ GW := gw_t 28 (by decide +kernel) (by decide +kernel)
theorem gw_29 : Cond.methodLink RX2 (9) yJ9_max_7cf53 ∈ GW := gw_t 29 (by decide +kernel) (by decide +kernel)
theorem gw_30 : Cond.static yJ9_max_7cf53 ∈ GW := gw_t 30 (by decide +kernel) (by decide +kernel)
theorem gw_31 : Cond.code yJ9_max_7cf53 cJ9_max_7cf53 2 (some .int) ∈ GW := gw_t 31 (by decide +kernel) (by decide +kernel)
theorem gw_32 : Cond.classLink RX2 (15) RX0 ∈ GW := gw_t 32 (by decide +kernel) (by decide +kernel)
theorem gw_34 : Cond.fieldLink RX2 17 "EmberCache$Row" "items" "[LEmberCache$Item;" ∈ GW := gw_t 34 (by decide +kernel) (by decide +kernel)
theorem gw_35 : Cond.fieldLink RX2 23 "EmberCache$Row" "size" "I" ∈ GW := gw_t 35 (by decide +kernel) (by decide +kernel)
theorem nw_36 : Cond.fieldLinkNest RX3 70 "EmberCache$Row" "size" "I" RX4 ∈ NW := nw_t 36 (by decide +kernel) (by decide +kernel)
theorem nw_37 : Cond.fieldLinkNest RX1 79 "EmberCache$Row" "size" "I" RX4 ∈ NW := nw_t 37 (by decide +kernel) (by decide +kernel)
theorem nw_38 : Cond.fieldLinkNest RX4 100 "EmberCache$Row" "size" "I" RX4 ∈ NW := nw_t 38 (by decide +kernel) (by decide +kernel)
theorem gw_44 : Cond.arrayClass Jvm.ClassFile.FieldType.int ∈ GW := gw_t 44 (by decide +kernel) (by decide +kernel)
theorem gw_45 : Cond.fieldLink RX3 17 "EmberCache$SetPages" "pages" "[LEmberCache$Row;" ∈ GW := gw_t 45 (by decide +kernel) (by decide +kernel)
theorem nw_46 : Cond.fieldLinkNest RX4 96 "EmberCache$SetPages" "pages" "[LEmberCache$Row;" RX4 ∈ NW := nw_t 46 (by decide +kernel) (by decide +kernel)
theorem gw_47 : Cond.fieldLink RX3 24 "EmberCache$SetPages" "filters" "[J" ∈ GW := gw_t 47 (by decide +kernel) (by decide +kernel)
theorem nw_48 : Cond.fieldLinkNest RX4 113 "EmberCache$SetPages" "filters" "[J" RX4 ∈ NW := nw_t 48 (by decide +kernel) (by decide +kernel)
theorem gw_49 : Cond.fieldLink RX3 9 "EmberCache$SetPages" "tally" "[I" ∈ GW := gw_t 49 (by decide +kernel) (by decide +kernel)
theorem gw_50 : Cond.fieldLink RX3 28 "EmberCache$SetPages" "bench" "LEmberCache$Row;" ∈ GW := gw_t 50 (by decide +kernel) (by decide +kernel)
theorem gw_51 : Cond.fieldLink RX3 63 "EmberCache$SetPages" "standing" "I" ∈ GW := gw_t 51 (by decide +kernel) (by decide +kernel)
theorem nw_52 : Cond.fieldLinkNest RX4 132 "EmberCache$SetPages" "standing" "I" RX4 ∈ NW := nw_t 52 (by decide +kernel) (by decide +kernel)
theorem gw_64 : Cond.arrayClass Jvm.ClassFile.FieldType.long ∈ GW := gw_t 64 (by decide +kernel) (by decide +kernel)
theorem gw_65 : Cond.classLink RX4 (22) RX1 ∈ GW := gw_t 65 (by decide +kernel) (by decide +kernel)
theorem gw_66 : Cond.instantiable RX1 (9) ∈ GW := gw_t 66 (by decide +kernel) (by decide +kernel)
theorem gw_67 : Cond.methodLink RX4 (24) yX1_init ∈ GW := gw_t 67 (by decide +kernel) (by decide +kernel)
theorem gw_68 : Cond.instanceMethod yX1_init ∈ GW := gw_t 68 (by decide +kernel) (by decide +kernel)
theorem gw_69 : Cond.code yX1_init cX1_init 4 (none) ∈ GW := gw_t 69 (by decide +kernel) (by decide +kernel)
theorem gw_70 : Cond.methodLink RX1 (3) objectInit ∈ GW := gw_t 70 (by decide +kernel) (by decide +kernel)
theorem gw_71 : Cond.classLink RX1 (19) RX2 ∈ GW := gw_t 71 (by decide +kernel) (by decide +kernel)
theorem gw_72 : Cond.methodLink RX1 (25) yX2_init ∈ GW := gw_t 72 (by decide +kernel) (by decide +kernel)
theorem gw_73 : Cond.fieldLink RX1 21 "EmberCache$Log" "ring" "[LEmberCache$Row;" ∈ GW := gw_t 73 (by decide +kernel) (by decide +kernel)
theorem gw_74 : Cond.fieldLink RX1 28 "EmberCache$Log" "written" "[I" ∈ GW := gw_t 74 (by decide +kernel) (by decide +kernel)
theorem nw_75 : Cond.fieldLinkNest RX4 141 "EmberCache$Log" "written" "[I" RX4 ∈ NW := nw_t 75 (by decide +kernel) (by decide +kernel)
theorem gw_76 : Cond.fieldLink RX1 31 "EmberCache$Log" "openPage" "LEmberCache$Row;" ∈ GW := gw_t 76 (by decide +kernel) (by decide +kernel)
theorem nw_77 : Cond.fieldLinkNest RX4 117 "EmberCache$Log" "openPage" "LEmberCache$Row;" RX4 ∈ NW := nw_t 77 (by decide +kernel) (by decide +kernel)
theorem gw_78 : Cond.fieldLink RX1 35 "EmberCache$Log" "takenOut" "LEmberCache$Row;" ∈ GW := gw_t 78 (by decide +kernel) (by decide +kernel)
theorem gw_79 : Cond.fieldLink RX1 38 "EmberCache$Log" "group" "LEmberCache$Row;" ∈ GW := gw_t 79 (by decide +kernel) (by decide +kernel)
theorem gw_80 : Cond.fieldLink RX1 9 "EmberCache$Log" "sets" "LEmberCache$SetPages;" ∈ GW := gw_t 80 (by decide +kernel) (by decide +kernel)
theorem gw_81 : Cond.fieldLink RX1 15 "EmberCache$Log" "tally" "[I" ∈ GW := gw_t 81 (by decide +kernel) (by decide +kernel)
theorem gw_82 : Cond.fieldLink RX1 62 "EmberCache$Log" "head" "I" ∈ GW := gw_t 82 (by decide +kernel) (by decide +kernel)
theorem nw_83 : Cond.fieldLinkNest RX4 138 "EmberCache$Log" "head" "I" RX4 ∈ NW := nw_t 83 (by decide +kernel) (by decide +kernel)
theorem gw_84 : Cond.fieldLink RX1 51 "EmberCache$Log" "living" "I" ∈ GW := gw_t 84 (by decide +kernel) (by decide +kernel)
theorem nw_85 : Cond.fieldLinkNest RX4 129 "EmberCache$Log" "living" "I" RX4 ∈ NW := nw_t 85 (by decide +kernel) (by decide +kernel)
theorem gw_105 : Cond.fieldLink RX4 9 "EmberCache" "tally" "[I" ∈ GW := gw_t 105 (by decide +kernel) (by decide +kernel)
theorem gw_106 : Cond.fieldLink RX4 18 "EmberCache" "sets" "LEmberCache$SetPages;" ∈ GW := gw_t 106 (by decide +kernel) (by decide +kernel)
theorem gw_107 : Cond.fieldLink RX4 27 "EmberCache" "log" "LEmberCache$Log;" ∈ GW := gw_t 107 (by decide +kernel) (by decide +kernel)
theorem gw_108 : Cond.fieldLink RX4 31 "EmberCache" "closed" "Z" ∈ GW := gw_t 108 (by decide +kernel) (by decide +kernel)
theorem gw_109 : Cond.fieldLink RX4 62 "EmberCache" "gotWords" "I" ∈ GW := gw_t 109 (by decide +kernel) (by decide +kernel)
theorem gw_110 : Cond.fieldLink RX4 68 "EmberCache" "gotFirst" "I" ∈ GW := gw_t 110 (by decide +kernel) (by decide +kernel)
theorem gw_111 : Cond.fieldLink RX4 74 "EmberCache" "gotStep" "I" ∈ GW := gw_t 111 (by decide +kernel) (by decide +kernel)
theorem gw_127 : Cond.methodLink RL (15) yX4_put ∈ GW := gw_t 127 (by decide +kernel) (by decide +kernel)
theorem gw_128 : Cond.instanceMethod yX4_put ∈ GW := gw_t 128 (by decide +kernel) (by decide +kernel)
theorem gw_129 : Cond.selects RX4 yX4_put yX4_put ∈ GW := gw_t 129 (by decide +kernel) (by decide +kernel)
theorem gw_130 : Cond.code yX4_put cX4_put 6 (some .int) ∈ GW := gw_t 130 (by decide +kernel) (by decide +kernel)
theorem gw_131 : Cond.methodLink RX4 (35) yX1_find ∈ GW := gw_t 131 (by decide +kernel) (by decide +kernel)
theorem gw_132 : Cond.instanceMethod yX1_find ∈ GW := gw_t 132 (by decide +kernel) (by decide +kernel)
theorem gw_133 : Cond.selects RX1 yX1_find yX1_find ∈ GW := gw_t 133 (by decide +kernel) (by decide +kernel)
theorem gw_134 : Cond.code yX1_find cX1_find 5 (some (.object "EmberCache$Item")) ∈ GW := gw_t 134 (by decide +kernel) (by decide +kernel)
theorem gw_135 : Cond.methodLink RX1 (41) yX2_findInLog ∈ GW := gw_t 135 (by decide +kernel) (by decide +kernel)
theorem gw_136 : Cond.instanceMethod yX2_findInLog ∈ GW := gw_t 136 (by decide +kernel) (by decide +kernel)
theorem gw_137 : Cond.selects RX2 yX2_findInLog yX2_findInLog ∈ GW := gw_t 137 (by decide +kernel) (by decide +kernel)
theorem gw_138 : Cond.code yX2_findInLog cX2_findInLog 5 (some (.object "EmberCache$Item")) ∈ GW := gw_t 138 (by decide +kernel) (by decide +kernel)
theorem gw_139 : Cond.methodLink RX4 (39) yX1_kill ∈ GW := gw_t 139 (by decide +kernel) (by decide +kernel)
theorem gw_140 : Cond.instanceMethod yX1_kill ∈ GW := gw_t 140 (by decide +kernel) (by decide +kernel)
theorem gw_141 : Cond.selects RX1 yX1_kill yX1_kill ∈ GW := gw_t 141 (by decide +kernel) (by decide +kernel)
theorem gw_142 : Cond.code yX1_kill cX1_kill 2 (some .boolean) ∈ GW := gw_t 142 (by decide +kernel) (by decide +kernel)
theorem gw_143 : Cond.classLink RX4 (43) RX0 ∈ GW := gw_t 143 (by decide +kernel) (by decide +kernel)
theorem gw_144 : Cond.instantiable RX0 (9) ∈ GW := gw_t 144 (by decide +kernel) (by decide +kernel)
theorem gw_145 : Cond.methodLink RX4 (45) yX0_init ∈ GW := gw_t 145 (by decide +kernel) (by decide +kernel)
theorem gw_146 : Cond.instanceMethod yX0_init ∈ GW := gw_t 146 (by decide +kernel) (by decide +kernel)
theorem gw_147 : Cond.code yX0_init cX0_init 8 (none) ∈ GW := gw_t 147 (by decide +kernel) (by decide +kernel)
theorem gw_148 : Cond.methodLink RX0 (3) objectInit ∈ GW := gw_t 148 (by decide +kernel) (by decide +kernel)
theorem nw_149 : Cond.methodLinkNest RX0 (9) yX4_mixOf RX4 ∈ NW := nw_t 149 (by decide +kernel) (by decide +kernel)
theorem gw_150 : Cond.static yX4_mixOf ∈ GW := gw_t 150 (by decide +kernel) (by decide +kernel)
theorem gw_151 : Cond.code yX4_mixOf cX4_mixOf 4 (some .long) ∈ GW := gw_t 151 (by decide +kernel) (by decide +kernel)
theorem gw_152 : Cond.constantLong RX4 (166) (-2960836687051489901) ∈ GW := gw_t 152 (by decide +kernel) (by decide +kernel)
theorem nw_153 : Cond.methodLinkNest RX0 (19) yX4_setOfMix RX4 ∈ NW := nw_t 153 (by decide +kernel) (by decide +kernel)
theorem gw_154 : Cond.static yX4_setOfMix ∈ GW := gw_t 154 (by decide +kernel) (by decide +kernel)
theorem gw_155 : Cond.code yX4_setOfMix cX4_setOfMix 2 (some .int) ∈ GW := gw_t 155 (by decide +kernel) (by decide +kernel)
theorem gw_156 : Cond.constantLong RX4 (168) (63) ∈ GW := gw_t 156 (by decide +kernel) (by decide +kernel)
theorem nw_157 : Cond.methodLinkNest RX0 (27) yX4_filterBits RX4 ∈ NW := nw_t 157 (by decide +kernel) (by decide +kernel)
theorem gw_158 : Cond.static yX4_filterBits ∈ GW := gw_t 158 (by decide +kernel) (by decide +kernel)
theorem gw_159 : Cond.code yX4_filterBits cX4_filterBits 4 (some .long) ∈ GW := gw_t 159 (by decide +kernel) (by decide +kernel)
theorem gw_160 : Cond.fieldLink RX0 13 "EmberCache$Item" "key" "J" ∈ GW := gw_t 160 (by decide +kernel) (by decide +kernel)
theorem nw_161 : Cond.fieldLinkNest RX3 95 "EmberCache$Item" "key" "J" RX4 ∈ NW := nw_t 161 (by decide +kernel) (by decide +kernel)
theorem nw_162 : Cond.fieldLinkNest RX1 114 "EmberCache$Item" "key" "J" RX4 ∈ NW := nw_t 162 (by decide +kernel) (by decide +kernel)
theorem nw_163 : Cond.fieldLinkNest RX2 42 "EmberCache$Item" "key" "J" RX4 ∈ NW := nw_t 163 (by decide +kernel) (by decide +kernel)
theorem nw_164 : Cond.fieldLinkNest RX4 109 "EmberCache$Item" "key" "J" RX4 ∈ NW := nw_t 164 (by decide +kernel) (by decide +kernel)
theorem gw_165 : Cond.fieldLink RX0 23 "EmberCache$Item" "set" "I" ∈ GW := gw_t 165 (by decide +kernel) (by decide +kernel)
theorem nw_166 : Cond.fieldLinkNest RX3 54 "EmberCache$Item" "set" "I" RX4 ∈ NW := nw_t 166 (by decide +kernel) (by decide +kernel)
theorem nw_167 : Cond.fieldLinkNest RX2 39 "EmberCache$Item" "set" "I" RX4 ∈ NW := nw_t 167 (by decide +kernel) (by decide +kernel)
theorem nw_168 : Cond.fieldLinkNest RX1 89 "EmberCache$Item" "set" "I" RX4 ∈ NW := nw_t 168 (by decide +kernel) (by decide +kernel)
theorem gw_169 : Cond.fieldLink RX0 30 "EmberCache$Item" "bits" "J" ∈ GW := gw_t 169 (by decide +kernel) (by decide +kernel)
theorem nw_170 : Cond.fieldLinkNest RX2 52 "EmberCache$Item" "bits" "J" RX4 ∈ NW := nw_t 170 (by decide +kernel) (by decide +kernel)
theorem gw_171 : Cond.fieldLink RX0 33 "EmberCache$Item" "places" "I" ∈ GW := gw_t 171 (by decide +kernel) (by decide +kernel)
theorem nw_172 : Cond.fieldLinkNest RX3 107 "EmberCache$Item" "places" "I" RX4 ∈ NW := nw_t 172 (by decide +kernel) (by decide +kernel)
theorem nw_173 : Cond.fieldLinkNest RX2 46 "EmberCache$Item" "places" "I" RX4 ∈ NW := nw_t 173 (by decide +kernel) (by decide +kernel)
theorem gw_174 : Cond.fieldLink RX0 36 "EmberCache$Item" "words" "I" ∈ GW := gw_t 174 (by decide +kernel) (by decide +kernel)
theorem nw_175 : Cond.fieldLinkNest RX4 58 "EmberCache$Item" "words" "I" RX4 ∈ NW := nw_t 175 (by decide +kernel) (by decide +kernel)
theorem gw_176 : Cond.fieldLink RX0 39 "EmberCache$Item" "first" "I" ∈ GW := gw_t 176 (by decide +kernel) (by decide +kernel)
theorem nw_177 : Cond.fieldLinkNest RX4 65 "EmberCache$Item" "first" "I" RX4 ∈ NW := nw_t 177 (by decide +kernel) (by decide +kernel)
theorem gw_178 : Cond.fieldLink RX0 42 "EmberCache$Item" "step" "I" ∈ GW := gw_t 178 (by decide +kernel) (by decide +kernel)
theorem nw_179 : Cond.fieldLinkNest RX4 71 "EmberCache$Item" "step" "I" RX4 ∈ NW := nw_t 179 (by decide +kernel) (by decide +kernel)
theorem nw_180 : Cond.fieldLinkNest RX4 55 "EmberCache$Item" "marked" "Z" RX4 ∈ NW := nw_t 180 (by decide +kernel) (by decide +kernel)
theorem nw_181 : Cond.fieldLinkNest RX3 103 "EmberCache$Item" "marked" "Z" RX4 ∈ NW := nw_t 181 (by decide +kernel) (by decide +kernel)
theorem nw_182 : Cond.fieldLinkNest RX1 105 "EmberCache$Item" "marked" "Z" RX4 ∈ NW := nw_t 182 (by decide +kernel) (by decide +kernel)
theorem nw_183 : Cond.fieldLinkNest RX1 45 "EmberCache$Item" "inLog" "Z" RX4 ∈ NW := nw_t 183 (by decide +kernel) (by decide +kernel)
theorem nw_184 : Cond.fieldLinkNest RX2 35 "EmberCache$Item" "inLog" "Z" RX4 ∈ NW := nw_t 184 (by decide +kernel) (by decide +kernel)
theorem gw_204 : Cond.methodLink RX4 (48) yX1_append ∈ GW := gw_t 204 (by decide +kernel) (by decide +kernel)
theorem gw_205 : Cond.instanceMethod yX1_append ∈ GW := gw_t 205 (by decide +kernel) (by decide +kernel)
theorem gw_206 : Cond.selects RX1 yX1_append yX1_append ∈ GW := gw_t 206 (by decide +kernel) (by decide +kernel)
theorem gw_207 : Cond.code yX1_append cX1_append 3 (none) ∈ GW := gw_t 207 (by decide +kernel) (by decide +kernel)
theorem gw_208 : Cond.methodLink RX1 (55) yX2_hasRoomFor ∈ GW := gw_t 208 (by decide +kernel) (by decide +kernel)
theorem gw_209 : Cond.instanceMethod yX2_hasRoomFor ∈ GW := gw_t 209 (by decide +kernel) (by decide +kernel)
theorem gw_210 : Cond.selects RX2 yX2_hasRoomFor yX2_hasRoomFor ∈ GW := gw_t 210 (by decide +kernel) (by decide +kernel)
theorem gw_211 : Cond.code yX2_hasRoomFor cX2_hasRoomFor 2 (some .boolean) ∈ GW := gw_t 211 (by decide +kernel) (by decide +kernel)
theorem gw_212 : Cond.methodLink RX2 (49) yX2_places ∈ GW := gw_t 212 (by decide +kernel) (by decide +kernel)
theorem gw_213 : Cond.instanceMethod yX2_places ∈ GW := gw_t 213 (by decide +kernel) (by decide +kernel)
theorem gw_214 : Cond.selects RX2 yX2_places yX2_places ∈ GW := gw_t 214 (by decide +kernel) (by decide +kernel)
theorem gw_215 : Cond.code yX2_places cX2_places 4 (some .int) ∈ GW := gw_t 215 (by decide +kernel) (by decide +kernel)
theorem gw_216 : Cond.methodLink RX1 (59) yX1_writeOpenPage ∈ GW := gw_t 216 (by decide +kernel) (by decide +kernel)
theorem gw_218 : Cond.instanceMethod yX1_writeOpenPage ∈ GW := gw_t 218 (by decide +kernel) (by decide +kernel)
theorem gw_219 : Cond.code yX1_writeOpenPage cX1_writeOpenPage 3 (none) ∈ GW := gw_t 219 (by decide +kernel) (by decide +kernel)
theorem gw_220 : Cond.methodLink RX1 (72) yX2_clear ∈ GW := gw_t 220 (by decide +kernel) (by decide +kernel)
theorem gw_221 : Cond.instanceMethod yX2_clear ∈ GW := gw_t 221 (by decide +kernel) (by decide +kernel)
theorem gw_222 : Cond.selects RX2 yX2_clear yX2_clear ∈ GW := gw_t 222 (by decide +kernel) (by decide +kernel)
theorem gw_223 : Cond.code yX2_clear cX2_clear 1 (none) ∈ GW := gw_t 223 (by decide +kernel) (by decide +kernel)
theorem gw_224 : Cond.methodLink RX1 (65) yX1_emptyHead ∈ GW := gw_t 224 (by decide +kernel) (by decide +kernel)
theorem gw_226 : Cond.instanceMethod yX1_emptyHead ∈ GW := gw_t 226 (by decide +kernel) (by decide +kernel)
theorem gw_227 : Cond.code yX1_emptyHead cX1_emptyHead 3 (none) ∈ GW := gw_t 227 (by decide +kernel) (by decide +kernel)
theorem gw_228 : Cond.methodLink RX1 (75) yX2_addAll ∈ GW := gw_t 228 (by decide +kernel) (by decide +kernel)
theorem gw_229 : Cond.instanceMethod yX2_addAll ∈ GW := gw_t 229 (by decide +kernel) (by decide +kernel)
theorem gw_230 : Cond.selects RX2 yX2_addAll yX2_addAll ∈ GW := gw_t 230 (by decide +kernel) (by decide +kernel)
theorem gw_231 : Cond.code yX2_addAll cX2_addAll 3 (none) ∈ GW := gw_t 231 (by decide +kernel) (by decide +kernel)
theorem gw_232 : Cond.methodLink RX2 (27) yX2_at ∈ GW := gw_t 232 (by decide +kernel) (by decide +kernel)
theorem gw_233 : Cond.instanceMethod yX2_at ∈ GW := gw_t 233 (by decide +kernel) (by decide +kernel)
theorem gw_234 : Cond.selects RX2 yX2_at yX2_at ∈ GW := gw_t 234 (by decide +kernel) (by decide +kernel)
theorem gw_235 : Cond.code yX2_at cX2_at 2 (some (.object "EmberCache$Item")) ∈ GW := gw_t 235 (by decide +kernel) (by decide +kernel)
theorem gw_236 : Cond.methodLink RX2 (31) yX2_add ∈ GW := gw_t 236 (by decide +kernel) (by decide +kernel)
theorem gw_237 : Cond.instanceMethod yX2_add ∈ GW := gw_t 237 (by decide +kernel) (by decide +kernel)
theorem gw_238 : Cond.selects RX2 yX2_add yX2_add ∈ GW := gw_t 238 (by decide +kernel) (by decide +kernel)
theorem gw_239 : Cond.code yX2_add cX2_add 2 (none) ∈ GW := gw_t 239 (by decide +kernel) (by decide +kernel)
theorem gw_240 : Cond.methodLink RX1 (82) yX1_settle ∈ GW := gw_t 240 (by decide +kernel) (by decide +kernel)
theorem gw_242 : Cond.instanceMethod yX1_settle ∈ GW := gw_t 242 (by decide +kernel) (by decide +kernel)
theorem gw_243 : Cond.code yX1_settle cX1_settle 3 (none) ∈ GW := gw_t 243 (by decide +kernel) (by decide +kernel)
theorem gw_244 : Cond.methodLink RX1 (85) yX2_at ∈ GW := gw_t 244 (by decide +kernel) (by decide +kernel)
theorem gw_245 : Cond.methodLink RX1 (92) yX1_gather ∈ GW := gw_t 245 (by decide +kernel) (by decide +kernel)
theorem gw_247 : Cond.instanceMethod yX1_gather ∈ GW := gw_t 247 (by decide +kernel) (by decide +kernel)
theorem gw_248 : Cond.code yX1_gather cX1_gather 5 (none) ∈ GW := gw_t 248 (by decide +kernel) (by decide +kernel)
theorem gw_249 : Cond.methodLink RX1 (122) yX2_addInLog ∈ GW := gw_t 249 (by decide +kernel) (by decide +kernel)
theorem gw_250 : Cond.instanceMethod yX2_addInLog ∈ GW := gw_t 250 (by decide +kernel) (by decide +kernel)
theorem gw_251 : Cond.selects RX2 yX2_addInLog yX2_addInLog ∈ GW := gw_t 251 (by decide +kernel) (by decide +kernel)
theorem gw_252 : Cond.code yX2_addInLog cX2_addInLog 6 (none) ∈ GW := gw_t 252 (by decide +kernel) (by decide +kernel)
theorem gw_253 : Cond.methodLink RX1 (96) yX1_killGroup ∈ GW := gw_t 253 (by decide +kernel) (by decide +kernel)
theorem gw_255 : Cond.instanceMethod yX1_killGroup ∈ GW := gw_t 255 (by decide +kernel) (by decide +kernel)
theorem gw_256 : Cond.code yX1_killGroup cX1_killGroup 2 (none) ∈ GW := gw_t 256 (by decide +kernel) (by decide +kernel)
theorem gw_257 : Cond.methodLink RX1 (111) yX1_kill ∈ GW := gw_t 257 (by decide +kernel) (by decide +kernel)
theorem gw_258 : Cond.methodLink RX1 (99) yX3_moveIn ∈ GW := gw_t 258 (by decide +kernel) (by decide +kernel)
theorem gw_259 : Cond.instanceMethod yX3_moveIn ∈ GW := gw_t 259 (by decide +kernel) (by decide +kernel)
theorem gw_260 : Cond.selects RX3 yX3_moveIn yX3_moveIn ∈ GW := gw_t 260 (by decide +kernel) (by decide +kernel)
theorem gw_261 : Cond.code yX3_moveIn cX3_moveIn 6 (none) ∈ GW := gw_t 261 (by decide +kernel) (by decide +kernel)
theorem gw_262 : Cond.methodLink RX3 (73) yX3_layOutOthers ∈ GW := gw_t 262 (by decide +kernel) (by decide +kernel)
theorem gw_264 : Cond.instanceMethod yX3_layOutOthers ∈ GW := gw_t 264 (by decide +kernel) (by decide +kernel)
theorem gw_265 : Cond.code yX3_layOutOthers cX3_layOutOthers 5 (none) ∈ GW := gw_t 265 (by decide +kernel) (by decide +kernel)
theorem gw_266 : Cond.methodLink RX3 (92) yX2_clear ∈ GW := gw_t 266 (by decide +kernel) (by decide +kernel)
theorem gw_267 : Cond.methodLink RX3 (43) yX2_at ∈ GW := gw_t 267 (by decide +kernel) (by decide +kernel)
theorem gw_268 : Cond.methodLink RX3 (40) yX2_indexOf ∈ GW := gw_t 268 (by decide +kernel) (by decide +kernel)
theorem gw_269 : Cond.instanceMethod yX2_indexOf ∈ GW := gw_t 269 (by decide +kernel) (by decide +kernel)
theorem gw_270 : Cond.selects RX2 yX2_indexOf yX2_indexOf ∈ GW := gw_t 270 (by decide +kernel) (by decide +kernel)
theorem gw_271 : Cond.code yX2_indexOf cX2_indexOf 5 (some .int) ∈ GW := gw_t 271 (by decide +kernel) (by decide +kernel)
theorem gw_272 : Cond.methodLink RX3 (99) yX2_add ∈ GW := gw_t 272 (by decide +kernel) (by decide +kernel)
theorem gw_273 : Cond.methodLink RX3 (77) yX2_addAll ∈ GW := gw_t 273 (by decide +kernel) (by decide +kernel)
theorem gw_274 : Cond.methodLink RX3 (81) yX2_places ∈ GW := gw_t 274 (by decide +kernel) (by decide +kernel)
theorem gw_275 : Cond.methodLink RX3 (85) yX3_dropPass ∈ GW := gw_t 275 (by decide +kernel) (by decide +kernel)
theorem gw_277 : Cond.instanceMethod yX3_dropPass ∈ GW := gw_t 277 (by decide +kernel) (by decide +kernel)
theorem gw_278 : Cond.code yX3_dropPass cX3_dropPass 9 (some .int) ∈ GW := gw_t 278 (by decide +kernel) (by decide +kernel)
theorem gw_279 : Cond.methodLink RX3 (109) yX2_blank ∈ GW := gw_t 279 (by decide +kernel) (by decide +kernel)
theorem gw_280 : Cond.instanceMethod yX2_blank ∈ GW := gw_t 280 (by decide +kernel) (by decide +kernel)
theorem gw_281 : Cond.selects RX2 yX2_blank yX2_blank ∈ GW := gw_t 281 (by decide +kernel) (by decide +kernel)
theorem gw_282 : Cond.code yX2_blank cX2_blank 2 (none) ∈ GW := gw_t 282 (by decide +kernel) (by decide +kernel)
theorem gw_283 : Cond.methodLink RX3 (89) yX3_refill ∈ GW := gw_t 283 (by decide +kernel) (by decide +kernel)
theorem gw_285 : Cond.instanceMethod yX3_refill ∈ GW := gw_t 285 (by decide +kernel) (by decide +kernel)
theorem gw_286 : Cond.code yX3_refill cX3_refill 4 (none) ∈ GW := gw_t 286 (by decide +kernel) (by decide +kernel)
theorem gw_287 : Cond.methodLink RX3 (66) yX2_filterOfKeys ∈ GW := gw_t 287 (by decide +kernel) (by decide +kernel)
theorem gw_288 : Cond.instanceMethod yX2_filterOfKeys ∈ GW := gw_t 288 (by decide +kernel) (by decide +kernel)
theorem gw_289 : Cond.selects RX2 yX2_filterOfKeys yX2_filterOfKeys ∈ GW := gw_t 289 (by decide +kernel) (by decide +kernel)
theorem gw_290 : Cond.code yX2_filterOfKeys cX2_filterOfKeys 5 (some .long) ∈ GW := gw_t 290 (by decide +kernel) (by decide +kernel)
theorem gw_291 : Cond.methodLink RX1 (108) yX1_putAnew ∈ GW := gw_t 291 (by decide +kernel) (by decide +kernel)
theorem gw_293 : Cond.instanceMethod yX1_putAnew ∈ GW := gw_t 293 (by decide +kernel) (by decide +kernel)
theorem gw_294 : Cond.code yX1_putAnew cX1_putAnew 2 (none) ∈ GW := gw_t 294 (by decide +kernel) (by decide +kernel)
theorem gw_295 : Cond.methodLink RX1 (68) yX2_add ∈ GW := gw_t 295 (by decide +kernel) (by decide +kernel)
theorem gw_296 : Cond.methodLink RX1 (118) yX3_takeOut ∈ GW := gw_t 296 (by decide +kernel) (by decide +kernel)
theorem gw_297 : Cond.instanceMethod yX3_takeOut ∈ GW := gw_t 297 (by decide +kernel) (by decide +kernel)
theorem gw_298 : Cond.selects RX3 yX3_takeOut yX3_takeOut ∈ GW := gw_t 298 (by decide +kernel) (by decide +kernel)
theorem gw_299 : Cond.code yX3_takeOut cX3_takeOut 6 (some .boolean) ∈ GW := gw_t 299 (by decide +kernel) (by decide +kernel)
theorem gw_300 : Cond.methodLink RX3 (50) yX3_read ∈ GW := gw_t 300 (by decide +kernel) (by decide +kernel)
theorem gw_301 : Cond.instanceMethod yX3_read ∈ GW := gw_t 301 (by decide +kernel) (by decide +kernel)
theorem gw_302 : Cond.selects RX3 yX3_read yX3_read ∈ GW := gw_t 302 (by decide +kernel) (by decide +kernel)
theorem gw_303 : Cond.code yX3_read cX3_read 8 (some (.object "EmberCache$Item")) ∈ GW := gw_t 303 (by decide +kernel) (by decide +kernel)
theorem nw_304 : Cond.methodLinkNest RX3 (32) yX4_mixOf RX4 ∈ NW := nw_t 304 (by decide +kernel) (by decide +kernel)
theorem nw_305 : Cond.methodLinkNest RX3 (36) yX4_setOfMix RX4 ∈ NW := nw_t 305 (by decide +kernel) (by decide +kernel)
theorem nw_306 : Cond.methodLinkNest RX3 (47) yX4_filterBits RX4 ∈ NW := nw_t 306 (by decide +kernel) (by decide +kernel)
theorem gw_307 : Cond.methodLink RX3 (60) yX2_closeUpOver ∈ GW := gw_t 307 (by decide +kernel) (by decide +kernel)
theorem gw_308 : Cond.instanceMethod yX2_closeUpOver ∈ GW := gw_t 308 (by decide +kernel) (by decide +kernel)
theorem gw_309 : Cond.selects RX2 yX2_closeUpOver yX2_closeUpOver ∈ GW := gw_t 309 (by decide +kernel) (by decide +kernel)
theorem gw_310 : Cond.code yX2_closeUpOver cX2_closeUpOver 3 (none) ∈ GW := gw_t 310 (by decide +kernel) (by decide +kernel)
theorem gw_311 : Cond.methodLink RL (20) yX4_get ∈ GW := gw_t 311 (by decide +kernel) (by decide +kernel)
theorem gw_312 : Cond.instanceMethod yX4_get ∈ GW := gw_t 312 (by decide +kernel) (by decide +kernel)
theorem gw_313 : Cond.selects RX4 yX4_get yX4_get ∈ GW := gw_t 313 (by decide +kernel) (by decide +kernel)
theorem gw_314 : Cond.code yX4_get cX4_get 4 (some .int) ∈ GW := gw_t 314 (by decide +kernel) (by decide +kernel)
theorem gw_315 : Cond.methodLink RX4 (52) yX3_read ∈ GW := gw_t 315 (by decide +kernel) (by decide +kernel)
theorem gw_316 : Cond.methodLink RL (25) yX4_got ∈ GW := gw_t 316 (by decide +kernel) (by decide +kernel)
theorem gw_317 : Cond.instanceMethod yX4_got ∈ GW := gw_t 317 (by decide +kernel) (by decide +kernel)
theorem gw_318 : Cond.selects RX4 yX4_got yX4_got ∈ GW := gw_t 318 (by decide +kernel) (by decide +kernel)
theorem gw_319 : Cond.code yX4_got cX4_got 2 (some .int) ∈ GW := gw_t 319 (by decide +kernel) (by decide +kernel)
theorem gw_320 : Cond.methodLink RL (30) yX4_remove ∈ GW := gw_t 320 (by decide +kernel) (by decide +kernel)
theorem gw_321 : Cond.instanceMethod yX4_remove ∈ GW := gw_t 321 (by decide +kernel) (by decide +kernel)
theorem gw_322 : Cond.selects RX4 yX4_remove yX4_remove ∈ GW := gw_t 322 (by decide +kernel) (by decide +kernel)
theorem gw_323 : Cond.code yX4_remove cX4_remove 5 (some .int) ∈ GW := gw_t 323 (by decide +kernel) (by decide +kernel)
theorem gw_324 : Cond.methodLink RX4 (77) yX3_takeOut ∈ GW := gw_t 324 (by decide +kernel) (by decide +kernel)
theorem gw_325 : Cond.methodLink RL (34) yX4_mix ∈ GW := gw_t 325 (by decide +kernel) (by decide +kernel)
theorem gw_326 : Cond.instanceMethod yX4_mix ∈ GW := gw_t 326 (by decide +kernel) (by decide +kernel)
theorem gw_327 : Cond.selects RX4 yX4_mix yX4_mix ∈ GW := gw_t 327 (by decide +kernel) (by decide +kernel)
theorem gw_328 : Cond.code yX4_mix cX4_mix 3 (some .long) ∈ GW := gw_t 328 (by decide +kernel) (by decide +kernel)
theorem gw_329 : Cond.methodLink RX4 (81) yX4_mixOf ∈ GW := gw_t 329 (by decide +kernel) (by decide +kernel)
theorem gw_330 : Cond.methodLink RL (39) yX4_unmix ∈ GW := gw_t 330 (by decide +kernel) (by decide +kernel)
theorem gw_331 : Cond.instanceMethod yX4_unmix ∈ GW := gw_t 331 (by decide +kernel) (by decide +kernel)
theorem gw_332 : Cond.selects RX4 yX4_unmix yX4_unmix ∈ GW := gw_t 332 (by decide +kernel) (by decide +kernel)
theorem gw_333 : Cond.code yX4_unmix cX4_unmix 5 (some .long) ∈ GW := gw_t 333 (by decide +kernel) (by decide +kernel)
theorem gw_334 : Cond.constantLong RX4 (85) (-3463755963560253285) ∈ GW := gw_t 334 (by decide +kernel) (by decide +kernel)
theorem gw_335 : Cond.methodLink RL (43) yX4_setOf ∈ GW := gw_t 335 (by decide +kernel) (by decide +kernel)
theorem gw_336 : Cond.instanceMethod yX4_setOf ∈ GW := gw_t 336 (by decide +kernel) (by decide +kernel)
theorem gw_337 : Cond.selects RX4 yX4_setOf yX4_setOf ∈ GW := gw_t 337 (by decide +kernel) (by decide +kernel)
theorem gw_338 : Cond.code yX4_setOf cX4_setOf 3 (some .int) ∈ GW := gw_t 338 (by decide +kernel) (by decide +kernel)
theorem gw_339 : Cond.methodLink RX4 (87) yX4_setOfMix ∈ GW := gw_t 339 (by decide +kernel) (by decide +kernel)
theorem gw_340 : Cond.methodLink RL (47) yX4_where ∈ GW := gw_t 340 (by decide +kernel) (by decide +kernel)
theorem gw_341 : Cond.instanceMethod yX4_where ∈ GW := gw_t 341 (by decide +kernel) (by decide +kernel)
theorem gw_342 : Cond.selects RX4 yX4_where yX4_where ∈ GW := gw_t 342 (by decide +kernel) (by decide +kernel)
theorem gw_343 : Cond.code yX4_where cX4_where 3 (some .int) ∈ GW := gw_t 343 (by decide +kernel) (by decide +kernel)
theorem gw_344 : Cond.methodLink RX4 (91) yX3_find ∈ GW := gw_t 344 (by decide +kernel) (by decide +kernel)
theorem gw_345 : Cond.instanceMethod yX3_find ∈ GW := gw_t 345 (by decide +kernel) (by decide +kernel)
theorem gw_346 : Cond.selects RX3 yX3_find yX3_find ∈ GW := gw_t 346 (by decide +kernel) (by decide +kernel)
theorem gw_347 : Cond.code yX3_find cX3_find 4 (some (.object "EmberCache$Item")) ∈ GW := gw_t 347 (by decide +kernel) (by decide +kernel)
theorem gw_348 : Cond.methodLink RL (51) yX4_mark ∈ GW := gw_t 348 (by decide +kernel) (by decide +kernel)
theorem gw_349 : Cond.instanceMethod yX4_mark ∈ GW := gw_t 349 (by decide +kernel) (by decide +kernel)
theorem gw_350 : Cond.selects RX4 yX4_mark yX4_mark ∈ GW := gw_t 350 (by decide +kernel) (by decide +kernel)
theorem gw_351 : Cond.code yX4_mark cX4_mark 4 (some .int) ∈ GW := gw_t 351 (by decide +kernel) (by decide +kernel)
theorem gw_352 : Cond.methodLink RL (55) yX4_stands ∈ GW := gw_t 352 (by decide +kernel) (by decide +kernel)
theorem gw_353 : Cond.instanceMethod yX4_stands ∈ GW := gw_t 353 (by decide +kernel) (by decide +kernel)
theorem gw_354 : Cond.selects RX4 yX4_stands yX4_stands ∈ GW := gw_t 354 (by decide +kernel) (by decide +kernel)
theorem gw_355 : Cond.code yX4_stands cX4_stands 2 (some .int) ∈ GW := gw_t 355 (by decide +kernel) (by decide +kernel)
theorem gw_356 : Cond.methodLink RX4 (92) yX4_isSet ∈ GW := gw_t 356 (by decide +kernel) (by decide +kernel)
theorem gw_357 : Cond.static yX4_isSet ∈ GW := gw_t 357 (by decide +kernel) (by decide +kernel)
theorem gw_358 : Cond.code yX4_isSet cX4_isSet 1 (some .boolean) ∈ GW := gw_t 358 (by decide +kernel) (by decide +kernel)
theorem gw_359 : Cond.methodLink RL (59) yX4_key ∈ GW := gw_t 359 (by decide +kernel) (by decide +kernel)
theorem gw_360 : Cond.instanceMethod yX4_key ∈ GW := gw_t 360 (by decide +kernel) (by decide +kernel)
theorem gw_361 : Cond.selects RX4 yX4_key yX4_key ∈ GW := gw_t 361 (by decide +kernel) (by decide +kernel)
theorem gw_362 : Cond.code yX4_key cX4_key 4 (some .long) ∈ GW := gw_t 362 (by decide +kernel) (by decide +kernel)
theorem gw_363 : Cond.methodLink RX4 (105) yX2_at ∈ GW := gw_t 363 (by decide +kernel) (by decide +kernel)
theorem gw_364 : Cond.methodLink RL (64) yX4_filter ∈ GW := gw_t 364 (by decide +kernel) (by decide +kernel)
theorem gw_365 : Cond.instanceMethod yX4_filter ∈ GW := gw_t 365 (by decide +kernel) (by decide +kernel)
theorem gw_366 : Cond.selects RX4 yX4_filter yX4_filter ∈ GW := gw_t 366 (by decide +kernel) (by decide +kernel)
theorem gw_367 : Cond.code yX4_filter cX4_filter 2 (some .long) ∈ GW := gw_t 367 (by decide +kernel) (by decide +kernel)
theorem gw_368 : Cond.methodLink RL (69) yX4_alive ∈ GW := gw_t 368 (by decide +kernel) (by decide +kernel)
theorem gw_369 : Cond.instanceMethod yX4_alive ∈ GW := gw_t 369 (by decide +kernel) (by decide +kernel)
theorem gw_370 : Cond.selects RX4 yX4_alive yX4_alive ∈ GW := gw_t 370 (by decide +kernel) (by decide +kernel)
theorem gw_371 : Cond.code yX4_alive cX4_alive 2 (some .int) ∈ GW := gw_t 371 (by decide +kernel) (by decide +kernel)
theorem gw_372 : Cond.methodLink RX4 (121) yX2_countInLog ∈ GW := gw_t 372 (by decide +kernel) (by decide +kernel)
theorem gw_373 : Cond.instanceMethod yX2_countInLog ∈ GW := gw_t 373 (by decide +kernel) (by decide +kernel)
theorem gw_374 : Cond.selects RX2 yX2_countInLog yX2_countInLog ∈ GW := gw_t 374 (by decide +kernel) (by decide +kernel)
theorem gw_375 : Cond.code yX2_countInLog cX2_countInLog 4 (some .int) ∈ GW := gw_t 375 (by decide +kernel) (by decide +kernel)
theorem gw_376 : Cond.methodLink RX4 (125) yX1_countInSegment ∈ GW := gw_t 376 (by decide +kernel) (by decide +kernel)
theorem gw_377 : Cond.instanceMethod yX1_countInSegment ∈ GW := gw_t 377 (by decide +kernel) (by decide +kernel)
theorem gw_378 : Cond.selects RX1 yX1_countInSegment yX1_countInSegment ∈ GW := gw_t 378 (by decide +kernel) (by decide +kernel)
theorem gw_379 : Cond.code yX1_countInSegment cX1_countInSegment 4 (some .int) ∈ GW := gw_t 379 (by decide +kernel) (by decide +kernel)
theorem gw_380 : Cond.methodLink RX1 (126) yX2_countInLog ∈ GW := gw_t 380 (by decide +kernel) (by decide +kernel)
theorem gw_381 : Cond.methodLink RL (73) yX4_count ∈ GW := gw_t 381 (by decide +kernel) (by decide +kernel)
theorem gw_382 : Cond.instanceMethod yX4_count ∈ GW := gw_t 382 (by decide +kernel) (by decide +kernel)
theorem gw_383 : Cond.selects RX4 yX4_count yX4_count ∈ GW := gw_t 383 (by decide +kernel) (by decide +kernel)
theorem gw_384 : Cond.code yX4_count cX4_count 2 (some .int) ∈ GW := gw_t 384 (by decide +kernel) (by decide +kernel)
theorem gw_385 : Cond.methodLink RX4 (135) yX2_places ∈ GW := gw_t 385 (by decide +kernel) (by decide +kernel)
theorem gw_386 : Cond.methodLink RL (77) yX4_close ∈ GW := gw_t 386 (by decide +kernel) (by decide +kernel)
theorem gw_387 : Cond.instanceMethod yX4_close ∈ GW := gw_t 387 (by decide +kernel) (by decide +kernel)
theorem gw_388 : Cond.selects RX4 yX4_close yX4_close ∈ GW := gw_t 388 (by decide +kernel) (by decide +kernel)
theorem gw_389 : Cond.code yX4_close cX4_close 1 (some .int) ∈ GW := gw_t 389 (by decide +kernel) (by decide +kernel)
theorem gw_390 : Cond.methodLink RL (82) yX4_crash ∈ GW := gw_t 390 (by decide +kernel) (by decide +kernel)
theorem gw_391 : Cond.instanceMethod yX4_crash ∈ GW := gw_t 391 (by decide +kernel) (by decide +kernel)
theorem gw_392 : Cond.selects RX4 yX4_crash yX4_crash ∈ GW := gw_t 392 (by decide +kernel) (by decide +kernel)
theorem gw_393 : Cond.code yX4_crash cX4_crash 2 (some .int) ∈ GW := gw_t 393 (by decide +kernel) (by decide +kernel)
theorem gw_394 : Cond.methodLink RX4 (144) yX1_wipe ∈ GW := gw_t 394 (by decide +kernel) (by decide +kernel)
theorem gw_395 : Cond.instanceMethod yX1_wipe ∈ GW := gw_t 395 (by decide +kernel) (by decide +kernel)
theorem gw_396 : Cond.selects RX1 yX1_wipe yX1_wipe ∈ GW := gw_t 396 (by decide +kernel) (by decide +kernel)
theorem gw_397 : Cond.code yX1_wipe cX1_wipe 2 (none) ∈ GW := gw_t 397 (by decide +kernel) (by decide +kernel)
theorem gw_398 : Cond.methodLink RX4 (147) yX3_wipe ∈ GW := gw_t 398 (by decide +kernel) (by decide +kernel)
theorem gw_399 : Cond.instanceMethod yX3_wipe ∈ GW := gw_t 399 (by decide +kernel) (by decide +kernel)
theorem gw_400 : Cond.selects RX3 yX3_wipe yX3_wipe ∈ GW := gw_t 400 (by decide +kernel) (by decide +kernel)
theorem gw_401 : Cond.code yX3_wipe cX3_wipe 2 (none) ∈ GW := gw_t 401 (by decide +kernel) (by decide +kernel)
theorem gw_402 : Cond.methodLink RL (86) yX4_open ∈ GW := gw_t 402 (by decide +kernel) (by decide +kernel)
theorem gw_403 : Cond.instanceMethod yX4_open ∈ GW := gw_t 403 (by decide +kernel) (by decide +kernel)
theorem gw_404 : Cond.selects RX4 yX4_open yX4_open ∈ GW := gw_t 404 (by decide +kernel) (by decide +kernel)
theorem gw_405 : Cond.code yX4_open cX4_open 1 (some .int) ∈ GW := gw_t 405 (by decide +kernel) (by decide +kernel)
theorem gw_406 : Cond.methodLink RL (90) yX4_check ∈ GW := gw_t 406 (by decide +kernel) (by decide +kernel)
theorem gw_407 : Cond.instanceMethod yX4_check ∈ GW := gw_t 407 (by decide +kernel) (by decide +kernel)
theorem gw_408 : Cond.selects RX4 yX4_check yX4_check ∈ GW := gw_t 408 (by decide +kernel) (by decide +kernel)
theorem gw_409 : Cond.code yX4_check cX4_check 2 (some .int) ∈ GW := gw_t 409 (by decide +kernel) (by decide +kernel)
theorem gw_410 : Cond.methodLink RX4 (148) yX1_keysDiffer ∈ GW := gw_t 410 (by decide +kernel) (by decide +kernel)
theorem gw_411 : Cond.instanceMethod yX1_keysDiffer ∈ GW := gw_t 411 (by decide +kernel) (by decide +kernel)
theorem gw_412 : Cond.selects RX1 yX1_keysDiffer yX1_keysDiffer ∈ GW := gw_t 412 (by decide +kernel) (by decide +kernel)
theorem gw_413 : Cond.code yX1_keysDiffer cX1_keysDiffer 2 (some .boolean) ∈ GW := gw_t 413 (by decide +kernel) (by decide +kernel)
theorem gw_414 : Cond.methodLink RX1 (133) yX2_belongsTo ∈ GW := gw_t 414 (by decide +kernel) (by decide +kernel)
theorem gw_415 : Cond.instanceMethod yX2_belongsTo ∈ GW := gw_t 415 (by decide +kernel) (by decide +kernel)
theorem gw_416 : Cond.selects RX2 yX2_belongsTo yX2_belongsTo ∈ GW := gw_t 416 (by decide +kernel) (by decide +kernel)
theorem gw_417 : Cond.code yX2_belongsTo cX2_belongsTo 4 (some .boolean) ∈ GW := gw_t 417 (by decide +kernel) (by decide +kernel)
theorem gw_418 : Cond.methodLink RX2 (55) yX2_indexOf ∈ GW := gw_t 418 (by decide +kernel) (by decide +kernel)
theorem gw_419 : Cond.methodLink RX4 (152) yX1_pagesFit ∈ GW := gw_t 419 (by decide +kernel) (by decide +kernel)
theorem gw_420 : Cond.instanceMethod yX1_pagesFit ∈ GW := gw_t 420 (by decide +kernel) (by decide +kernel)
theorem gw_421 : Cond.selects RX1 yX1_pagesFit yX1_pagesFit ∈ GW := gw_t 421 (by decide +kernel) (by decide +kernel)
theorem gw_422 : Cond.code yX1_pagesFit cX1_pagesFit 2 (some .boolean) ∈ GW := gw_t 422 (by decide +kernel) (by decide +kernel)
theorem gw_423 : Cond.methodLink RX1 (130) yX2_places ∈ GW := gw_t 423 (by decide +kernel) (by decide +kernel)
theorem gw_424 : Cond.methodLink RX4 (155) yX3_pagesFit ∈ GW := gw_t 424 (by decide +kernel) (by decide +kernel)
theorem gw_425 : Cond.instanceMethod yX3_pagesFit ∈ GW := gw_t 425 (by decide +kernel) (by decide +kernel)
theorem gw_426 : Cond.selects RX3 yX3_pagesFit yX3_pagesFit ∈ GW := gw_t 426 (by decide +kernel) (by decide +kernel)
theorem gw_427 : Cond.code yX3_pagesFit cX3_pagesFit 2 (some .boolean) ∈ GW := gw_t 427 (by decide +kernel) (by decide +kernel)
theorem gw_428 : Cond.methodLink RX4 (156) yX3_keysBelong ∈ GW := gw_t 428 (by decide +kernel) (by decide +kernel)
theorem gw_429 : Cond.instanceMethod yX3_keysBelong ∈ GW := gw_t 429 (by decide +kernel) (by decide +kernel)
theorem gw_430 : Cond.selects RX3 yX3_keysBelong yX3_keysBelong ∈ GW := gw_t 430 (by decide +kernel) (by decide +kernel)
theorem gw_431 : Cond.code yX3_keysBelong cX3_keysBelong 2 (some .boolean) ∈ GW := gw_t 431 (by decide +kernel) (by decide +kernel)
theorem gw_432 : Cond.methodLink RX3 (112) yX2_belongsTo ∈ GW := gw_t 432 (by decide +kernel) (by decide +kernel)
theorem gw_433 : Cond.methodLink RX4 (159) yX3_filtersAreRight ∈ GW := gw_t 433 (by decide +kernel) (by decide +kernel)
theorem gw_434 : Cond.instanceMethod yX3_filtersAreRight ∈ GW := gw_t 434 (by decide +kernel) (by decide +kernel)
theorem gw_435 : Cond.selects RX3 yX3_filtersAreRight yX3_filtersAreRight ∈ GW := gw_t 435 (by decide +kernel) (by decide +kernel)
theorem gw_436 : Cond.code yX3_filtersAreRight cX3_filtersAreRight 2 (some .boolean) ∈ GW := gw_t 436 (by decide +kernel) (by decide +kernel)
theorem gw_437 : Cond.methodLink RX4 (162) yX1_countIsRight ∈ GW := gw_t 437 (by decide +kernel) (by decide +kernel)
theorem gw_438 : Cond.instanceMethod yX1_countIsRight ∈ GW := gw_t 438 (by decide +kernel) (by decide +kernel)
theorem gw_439 : Cond.selects RX1 yX1_countIsRight yX1_countIsRight ∈ GW := gw_t 439 (by decide +kernel) (by decide +kernel)
theorem gw_440 : Cond.code yX1_countIsRight cX1_countIsRight 3 (some .boolean) ∈ GW := gw_t 440 (by decide +kernel) (by decide +kernel)
theorem gw_441 : Cond.methodLink RX4 (165) yX3_countIsRight ∈ GW := gw_t 441 (by decide +kernel) (by decide +kernel)
theorem gw_442 : Cond.instanceMethod yX3_countIsRight ∈ GW := gw_t 442 (by decide +kernel) (by decide +kernel)
theorem gw_443 : Cond.selects RX3 yX3_countIsRight yX3_countIsRight ∈ GW := gw_t 443 (by decide +kernel) (by decide +kernel)
theorem gw_444 : Cond.code yX3_countIsRight cX3_countIsRight 3 (some .boolean) ∈ GW := gw_t 444 (by decide +kernel) (by decide +kernel)
theorem gw_445 : Cond.classLink RL (10) RX5 ∈ GW := gw_t 445 (by decide +kernel) (by decide +kernel)
theorem gw_446 : Cond.instantiable RX5 (29) ∈ GW := gw_t 446 (by decide +kernel) (by decide +kernel)
theorem gw_447 : Cond.methodLink RL (12) yX5_init ∈ GW := gw_t 447 (by decide +kernel) (by decide +kernel)
theorem gw_448 : Cond.instanceMethod yX5_init ∈ GW := gw_t 448 (by decide +kernel) (by decide +kernel)
theorem gw_449 : Cond.code yX5_init cX5_init 1 (none) ∈ GW := gw_t 449 (by decide +kernel) (by decide +kernel)
theorem gw_450 : Cond.methodLink RX5 (1) objectInit ∈ GW := gw_t 450 (by decide +kernel) (by decide +kernel)
theorem gw_451 : Cond.fieldLink RX5 7 "EmberCacheModel" "logKey" "[J" ∈ GW := gw_t 451 (by decide +kernel) (by decide +kernel)
theorem gw_452 : Cond.fieldLink RX5 13 "EmberCacheModel" "logWords" "[I" ∈ GW := gw_t 452 (by decide +kernel) (by decide +kernel)
theorem gw_453 : Cond.fieldLink RX5 17 "EmberCacheModel" "logFirst" "[I" ∈ GW := gw_t 453 (by decide +kernel) (by decide +kernel)
theorem gw_454 : Cond.fieldLink RX5 20 "EmberCacheModel" "logStep" "[I" ∈ GW := gw_t 454 (by decide +kernel) (by decide +kernel)
theorem gw_455 : Cond.fieldLink RX5 23 "EmberCacheModel" "logAlive" "[Z" ∈ GW := gw_t 455 (by decide +kernel) (by decide +kernel)
theorem gw_456 : Cond.fieldLink RX5 27 "EmberCacheModel" "logMark" "[Z" ∈ GW := gw_t 456 (by decide +kernel) (by decide +kernel)
theorem gw_457 : Cond.fieldLink RX5 30 "EmberCacheModel" "logWhere" "[I" ∈ GW := gw_t 457 (by decide +kernel) (by decide +kernel)
theorem gw_458 : Cond.fieldLink RX5 96 "EmberCacheModel" "logged" "I" ∈ GW := gw_t 458 (by decide +kernel) (by decide +kernel)
theorem gw_459 : Cond.fieldLink RX5 33 "EmberCacheModel" "pages" "[I" ∈ GW := gw_t 459 (by decide +kernel) (by decide +kernel)
theorem gw_460 : Cond.fieldLink RX5 106 "EmberCacheModel" "head" "I" ∈ GW := gw_t 460 (by decide +kernel) (by decide +kernel)
theorem gw_461 : Cond.fieldLink RX5 100 "EmberCacheModel" "openPlaces" "I" ∈ GW := gw_t 461 (by decide +kernel) (by decide +kernel)
theorem gw_462 : Cond.fieldLink RX5 36 "EmberCacheModel" "pageKey" "[J" ∈ GW := gw_t 462 (by decide +kernel) (by decide +kernel)
theorem gw_463 : Cond.fieldLink RX5 39 "EmberCacheModel" "pageWords" "[I" ∈ GW := gw_t 463 (by decide +kernel) (by decide +kernel)
theorem gw_464 : Cond.fieldLink RX5 42 "EmberCacheModel" "pageFirst" "[I" ∈ GW := gw_t 464 (by decide +kernel) (by decide +kernel)
theorem gw_465 : Cond.fieldLink RX5 45 "EmberCacheModel" "pageStep" "[I" ∈ GW := gw_t 465 (by decide +kernel) (by decide +kernel)
theorem gw_466 : Cond.fieldLink RX5 48 "EmberCacheModel" "pageMark" "[Z" ∈ GW := gw_t 466 (by decide +kernel) (by decide +kernel)
theorem gw_467 : Cond.fieldLink RX5 51 "EmberCacheModel" "stand" "[I" ∈ GW := gw_t 467 (by decide +kernel) (by decide +kernel)
theorem gw_468 : Cond.fieldLink RX5 54 "EmberCacheModel" "newKey" "[J" ∈ GW := gw_t 468 (by decide +kernel) (by decide +kernel)
theorem gw_469 : Cond.fieldLink RX5 57 "EmberCacheModel" "newWords" "[I" ∈ GW := gw_t 469 (by decide +kernel) (by decide +kernel)
theorem gw_470 : Cond.fieldLink RX5 60 "EmberCacheModel" "newFirst" "[I" ∈ GW := gw_t 470 (by decide +kernel) (by decide +kernel)
theorem gw_471 : Cond.fieldLink RX5 63 "EmberCacheModel" "newStep" "[I" ∈ GW := gw_t 471 (by decide +kernel) (by decide +kernel)
theorem gw_472 : Cond.fieldLink RX5 66 "EmberCacheModel" "newMark" "[Z" ∈ GW := gw_t 472 (by decide +kernel) (by decide +kernel)
theorem gw_473 : Cond.fieldLink RX5 69 "EmberCacheModel" "newStood" "[Z" ∈ GW := gw_t 473 (by decide +kernel) (by decide +kernel)
theorem gw_474 : Cond.fieldLink RX5 130 "EmberCacheModel" "news" "I" ∈ GW := gw_t 474 (by decide +kernel) (by decide +kernel)
theorem gw_475 : Cond.fieldLink RX5 72 "EmberCacheModel" "counts" "[I" ∈ GW := gw_t 475 (by decide +kernel) (by decide +kernel)
theorem gw_476 : Cond.fieldLink RX5 157 "EmberCacheModel" "isShut" "Z" ∈ GW := gw_t 476 (by decide +kernel) (by decide +kernel)
theorem gw_477 : Cond.fieldLink RX5 161 "EmberCacheModel" "gotWords" "I" ∈ GW := gw_t 477 (by decide +kernel) (by decide +kernel)
theorem gw_478 : Cond.fieldLink RX5 164 "EmberCacheModel" "gotFirst" "I" ∈ GW := gw_t 478 (by decide +kernel) (by decide +kernel)
theorem gw_479 : Cond.fieldLink RX5 167 "EmberCacheModel" "gotStep" "I" ∈ GW := gw_t 479 (by decide +kernel) (by decide +kernel)
theorem gw_539 : Cond.arrayClass Jvm.ClassFile.FieldType.boolean ∈ GW := gw_t 539 (by decide +kernel) (by decide +kernel)
theorem gw_540 : Cond.methodLink RL (38) yX5_mix ∈ GW := gw_t 540 (by decide +kernel) (by decide +kernel)
theorem gw_541 : Cond.instanceMethod yX5_mix ∈ GW := gw_t 541 (by decide +kernel) (by decide +kernel)
theorem gw_542 : Cond.selects RX5 yX5_mix yX5_mix ∈ GW := gw_t 542 (by decide +kernel) (by decide +kernel)
theorem gw_543 : Cond.code yX5_mix cX5_mix 5 (some .long) ∈ GW := gw_t 543 (by decide +kernel) (by decide +kernel)
theorem gw_544 : Cond.constantLong RX5 (75) (-2960836687051489901) ∈ GW := gw_t 544 (by decide +kernel) (by decide +kernel)
theorem gw_545 : Cond.methodLink RL (42) yX5_unmix ∈ GW := gw_t 545 (by decide +kernel) (by decide +kernel)
theorem gw_546 : Cond.instanceMethod yX5_unmix ∈ GW := gw_t 546 (by decide +kernel) (by decide +kernel)
theorem gw_547 : Cond.selects RX5 yX5_unmix yX5_unmix ∈ GW := gw_t 547 (by decide +kernel) (by decide +kernel)
theorem gw_548 : Cond.code yX5_unmix cX5_unmix 7 (some .long) ∈ GW := gw_t 548 (by decide +kernel) (by decide +kernel)
theorem gw_549 : Cond.constantLong RX5 (77) (2) ∈ GW := gw_t 549 (by decide +kernel) (by decide +kernel)
theorem gw_550 : Cond.methodLink RL (46) yX5_setOf ∈ GW := gw_t 550 (by decide +kernel) (by decide +kernel)
theorem gw_551 : Cond.instanceMethod yX5_setOf ∈ GW := gw_t 551 (by decide +kernel) (by decide +kernel)
theorem gw_552 : Cond.selects RX5 yX5_setOf yX5_setOf ∈ GW := gw_t 552 (by decide +kernel) (by decide +kernel)
theorem gw_553 : Cond.code yX5_setOf cX5_setOf 3 (some .int) ∈ GW := gw_t 553 (by decide +kernel) (by decide +kernel)
theorem gw_554 : Cond.methodLink RX5 (79) yX5_mix ∈ GW := gw_t 554 (by decide +kernel) (by decide +kernel)
theorem gw_555 : Cond.constantLong RX5 (83) (63) ∈ GW := gw_t 555 (by decide +kernel) (by decide +kernel)
theorem gw_556 : Cond.methodLink RL (19) yX5_put ∈ GW := gw_t 556 (by decide +kernel) (by decide +kernel)
theorem gw_557 : Cond.instanceMethod yX5_put ∈ GW := gw_t 557 (by decide +kernel) (by decide +kernel)
theorem gw_558 : Cond.selects RX5 yX5_put yX5_put ∈ GW := gw_t 558 (by decide +kernel) (by decide +kernel)
theorem gw_559 : Cond.code yX5_put cX5_put 7 (some .int) ∈ GW := gw_t 559 (by decide +kernel) (by decide +kernel)
theorem gw_560 : Cond.methodLink RX5 (133) yX5_inLog ∈ GW := gw_t 560 (by decide +kernel) (by decide +kernel)
theorem gw_562 : Cond.instanceMethod yX5_inLog ∈ GW := gw_t 562 (by decide +kernel) (by decide +kernel)
theorem gw_563 : Cond.code yX5_inLog cX5_inLog 5 (some .int) ∈ GW := gw_t 563 (by decide +kernel) (by decide +kernel)
theorem gw_564 : Cond.methodLink RX5 (122) yX5_append ∈ GW := gw_t 564 (by decide +kernel) (by decide +kernel)
theorem gw_566 : Cond.instanceMethod yX5_append ∈ GW := gw_t 566 (by decide +kernel) (by decide +kernel)
theorem gw_567 : Cond.code yX5_append cX5_append 6 (none) ∈ GW := gw_t 567 (by decide +kernel) (by decide +kernel)
theorem gw_568 : Cond.methodLink RX5 (103) yX5_writeOpenPage ∈ GW := gw_t 568 (by decide +kernel) (by decide +kernel)
theorem gw_570 : Cond.instanceMethod yX5_writeOpenPage ∈ GW := gw_t 570 (by decide +kernel) (by decide +kernel)
theorem gw_571 : Cond.code yX5_writeOpenPage cX5_writeOpenPage 2 (none) ∈ GW := gw_t 571 (by decide +kernel) (by decide +kernel)
theorem gw_572 : Cond.methodLink RX5 (109) yX5_empty ∈ GW := gw_t 572 (by decide +kernel) (by decide +kernel)
theorem gw_574 : Cond.instanceMethod yX5_empty ∈ GW := gw_t 574 (by decide +kernel) (by decide +kernel)
theorem gw_575 : Cond.code yX5_empty cX5_empty 4 (none) ∈ GW := gw_t 575 (by decide +kernel) (by decide +kernel)
theorem gw_576 : Cond.methodLink RX5 (113) yX5_forgetDead ∈ GW := gw_t 576 (by decide +kernel) (by decide +kernel)
theorem gw_578 : Cond.instanceMethod yX5_forgetDead ∈ GW := gw_t 578 (by decide +kernel) (by decide +kernel)
theorem gw_579 : Cond.code yX5_forgetDead cX5_forgetDead 3 (none) ∈ GW := gw_t 579 (by decide +kernel) (by decide +kernel)
theorem gw_580 : Cond.methodLink RX5 (116) yX5_handle ∈ GW := gw_t 580 (by decide +kernel) (by decide +kernel)
theorem gw_582 : Cond.instanceMethod yX5_handle ∈ GW := gw_t 582 (by decide +kernel) (by decide +kernel)
theorem gw_583 : Cond.code yX5_handle cX5_handle 5 (none) ∈ GW := gw_t 583 (by decide +kernel) (by decide +kernel)
theorem gw_584 : Cond.methodLink RX5 (88) yX5_setOf ∈ GW := gw_t 584 (by decide +kernel) (by decide +kernel)
theorem gw_585 : Cond.methodLink RX5 (119) yX5_move ∈ GW := gw_t 585 (by decide +kernel) (by decide +kernel)
theorem gw_587 : Cond.instanceMethod yX5_move ∈ GW := gw_t 587 (by decide +kernel) (by decide +kernel)
theorem gw_588 : Cond.code yX5_move cX5_move 4 (none) ∈ GW := gw_t 588 (by decide +kernel) (by decide +kernel)
theorem gw_589 : Cond.methodLink RX5 (136) yX5_addNew ∈ GW := gw_t 589 (by decide +kernel) (by decide +kernel)
theorem gw_591 : Cond.instanceMethod yX5_addNew ∈ GW := gw_t 591 (by decide +kernel) (by decide +kernel)
theorem gw_592 : Cond.code yX5_addNew cX5_addNew 8 (none) ∈ GW := gw_t 592 (by decide +kernel) (by decide +kernel)
theorem gw_593 : Cond.methodLink RX5 (140) yX5_placesOfNew ∈ GW := gw_t 593 (by decide +kernel) (by decide +kernel)
theorem gw_595 : Cond.instanceMethod yX5_placesOfNew ∈ GW := gw_t 595 (by decide +kernel) (by decide +kernel)
theorem gw_596 : Cond.code yX5_placesOfNew cX5_placesOfNew 3 (some .int) ∈ GW := gw_t 596 (by decide +kernel) (by decide +kernel)
theorem gw_597 : Cond.methodLink RX5 (144) yX5_dropOne ∈ GW := gw_t 597 (by decide +kernel) (by decide +kernel)
theorem gw_599 : Cond.instanceMethod yX5_dropOne ∈ GW := gw_t 599 (by decide +kernel) (by decide +kernel)
theorem gw_600 : Cond.code yX5_dropOne cX5_dropOne 5 (none) ∈ GW := gw_t 600 (by decide +kernel) (by decide +kernel)
theorem gw_601 : Cond.methodLink RX5 (147) yX5_writePage ∈ GW := gw_t 601 (by decide +kernel) (by decide +kernel)
theorem gw_603 : Cond.instanceMethod yX5_writePage ∈ GW := gw_t 603 (by decide +kernel) (by decide +kernel)
theorem gw_604 : Cond.code yX5_writePage cX5_writePage 4 (none) ∈ GW := gw_t 604 (by decide +kernel) (by decide +kernel)
theorem gw_605 : Cond.methodLink RX5 (126) yX5_takeOut ∈ GW := gw_t 605 (by decide +kernel) (by decide +kernel)
theorem gw_607 : Cond.instanceMethod yX5_takeOut ∈ GW := gw_t 607 (by decide +kernel) (by decide +kernel)
theorem gw_608 : Cond.code yX5_takeOut cX5_takeOut 7 (some .boolean) ∈ GW := gw_t 608 (by decide +kernel) (by decide +kernel)
theorem gw_609 : Cond.methodLink RX5 (150) yX5_mayHave ∈ GW := gw_t 609 (by decide +kernel) (by decide +kernel)
theorem gw_611 : Cond.instanceMethod yX5_mayHave ∈ GW := gw_t 611 (by decide +kernel) (by decide +kernel)
theorem gw_612 : Cond.code yX5_mayHave cX5_mayHave 5 (some .boolean) ∈ GW := gw_t 612 (by decide +kernel) (by decide +kernel)
theorem gw_613 : Cond.methodLink RX5 (85) yX5_bitsOf ∈ GW := gw_t 613 (by decide +kernel) (by decide +kernel)
theorem gw_615 : Cond.instanceMethod yX5_bitsOf ∈ GW := gw_t 615 (by decide +kernel) (by decide +kernel)
theorem gw_616 : Cond.code yX5_bitsOf cX5_bitsOf 5 (some .long) ∈ GW := gw_t 616 (by decide +kernel) (by decide +kernel)
theorem gw_617 : Cond.methodLink RX5 (92) yX5_filterOf ∈ GW := gw_t 617 (by decide +kernel) (by decide +kernel)
theorem gw_619 : Cond.instanceMethod yX5_filterOf ∈ GW := gw_t 619 (by decide +kernel) (by decide +kernel)
theorem gw_620 : Cond.code yX5_filterOf cX5_filterOf 5 (some .long) ∈ GW := gw_t 620 (by decide +kernel) (by decide +kernel)
theorem gw_621 : Cond.methodLink RX5 (154) yX5_inPage ∈ GW := gw_t 621 (by decide +kernel) (by decide +kernel)
theorem gw_623 : Cond.instanceMethod yX5_inPage ∈ GW := gw_t 623 (by decide +kernel) (by decide +kernel)
theorem gw_624 : Cond.code yX5_inPage cX5_inPage 5 (some .int) ∈ GW := gw_t 624 (by decide +kernel) (by decide +kernel)
theorem gw_625 : Cond.methodLink RL (24) yX5_get ∈ GW := gw_t 625 (by decide +kernel) (by decide +kernel)
theorem gw_626 : Cond.instanceMethod yX5_get ∈ GW := gw_t 626 (by decide +kernel) (by decide +kernel)
theorem gw_627 : Cond.selects RX5 yX5_get yX5_get ∈ GW := gw_t 627 (by decide +kernel) (by decide +kernel)
theorem gw_628 : Cond.code yX5_get cX5_get 5 (some .int) ∈ GW := gw_t 628 (by decide +kernel) (by decide +kernel)
theorem gw_629 : Cond.methodLink RL (29) yX5_got ∈ GW := gw_t 629 (by decide +kernel) (by decide +kernel)
theorem gw_630 : Cond.instanceMethod yX5_got ∈ GW := gw_t 630 (by decide +kernel) (by decide +kernel)
theorem gw_631 : Cond.selects RX5 yX5_got yX5_got ∈ GW := gw_t 631 (by decide +kernel) (by decide +kernel)
theorem gw_632 : Cond.code yX5_got cX5_got 2 (some .int) ∈ GW := gw_t 632 (by decide +kernel) (by decide +kernel)
theorem gw_633 : Cond.methodLink RL (33) yX5_remove ∈ GW := gw_t 633 (by decide +kernel) (by decide +kernel)
theorem gw_634 : Cond.instanceMethod yX5_remove ∈ GW := gw_t 634 (by decide +kernel) (by decide +kernel)
theorem gw_635 : Cond.selects RX5 yX5_remove yX5_remove ∈ GW := gw_t 635 (by decide +kernel) (by decide +kernel)
theorem gw_636 : Cond.code yX5_remove cX5_remove 5 (some .int) ∈ GW := gw_t 636 (by decide +kernel) (by decide +kernel)
theorem gw_637 : Cond.methodLink RL (50) yX5_where ∈ GW := gw_t 637 (by decide +kernel) (by decide +kernel)
theorem gw_638 : Cond.instanceMethod yX5_where ∈ GW := gw_t 638 (by decide +kernel) (by decide +kernel)
theorem gw_639 : Cond.selects RX5 yX5_where yX5_where ∈ GW := gw_t 639 (by decide +kernel) (by decide +kernel)
theorem gw_640 : Cond.code yX5_where cX5_where 3 (some .int) ∈ GW := gw_t 640 (by decide +kernel) (by decide +kernel)
theorem gw_641 : Cond.methodLink RL (54) yX5_mark ∈ GW := gw_t 641 (by decide +kernel) (by decide +kernel)
theorem gw_642 : Cond.instanceMethod yX5_mark ∈ GW := gw_t 642 (by decide +kernel) (by decide +kernel)
theorem gw_643 : Cond.selects RX5 yX5_mark yX5_mark ∈ GW := gw_t 643 (by decide +kernel) (by decide +kernel)
theorem gw_644 : Cond.code yX5_mark cX5_mark 5 (some .int) ∈ GW := gw_t 644 (by decide +kernel) (by decide +kernel)
theorem gw_645 : Cond.methodLink RL (58) yX5_stands ∈ GW := gw_t 645 (by decide +kernel) (by decide +kernel)
theorem gw_646 : Cond.instanceMethod yX5_stands ∈ GW := gw_t 646 (by decide +kernel) (by decide +kernel)
theorem gw_647 : Cond.selects RX5 yX5_stands yX5_stands ∈ GW := gw_t 647 (by decide +kernel) (by decide +kernel)
theorem gw_648 : Cond.code yX5_stands cX5_stands 2 (some .int) ∈ GW := gw_t 648 (by decide +kernel) (by decide +kernel)
theorem gw_649 : Cond.methodLink RX5 (170) yX5_isSet ∈ GW := gw_t 649 (by decide +kernel) (by decide +kernel)
theorem gw_650 : Cond.static yX5_isSet ∈ GW := gw_t 650 (by decide +kernel) (by decide +kernel)
theorem gw_651 : Cond.code yX5_isSet cX5_isSet 1 (some .boolean) ∈ GW := gw_t 651 (by decide +kernel) (by decide +kernel)
theorem gw_652 : Cond.methodLink RL (63) yX5_key ∈ GW := gw_t 652 (by decide +kernel) (by decide +kernel)
theorem gw_653 : Cond.instanceMethod yX5_key ∈ GW := gw_t 653 (by decide +kernel) (by decide +kernel)
theorem gw_654 : Cond.selects RX5 yX5_key yX5_key ∈ GW := gw_t 654 (by decide +kernel) (by decide +kernel)
theorem gw_655 : Cond.code yX5_key cX5_key 3 (some .long) ∈ GW := gw_t 655 (by decide +kernel) (by decide +kernel)
theorem gw_656 : Cond.methodLink RL (68) yX5_filter ∈ GW := gw_t 656 (by decide +kernel) (by decide +kernel)
theorem gw_657 : Cond.instanceMethod yX5_filter ∈ GW := gw_t 657 (by decide +kernel) (by decide +kernel)
theorem gw_658 : Cond.selects RX5 yX5_filter yX5_filter ∈ GW := gw_t 658 (by decide +kernel) (by decide +kernel)
theorem gw_659 : Cond.code yX5_filter cX5_filter 2 (some .long) ∈ GW := gw_t 659 (by decide +kernel) (by decide +kernel)
theorem gw_660 : Cond.methodLink RL (72) yX5_alive ∈ GW := gw_t 660 (by decide +kernel) (by decide +kernel)
theorem gw_661 : Cond.instanceMethod yX5_alive ∈ GW := gw_t 661 (by decide +kernel) (by decide +kernel)
theorem gw_662 : Cond.selects RX5 yX5_alive yX5_alive ∈ GW := gw_t 662 (by decide +kernel) (by decide +kernel)
theorem gw_663 : Cond.code yX5_alive cX5_alive 4 (some .int) ∈ GW := gw_t 663 (by decide +kernel) (by decide +kernel)
theorem gw_664 : Cond.methodLink RL (76) yX5_count ∈ GW := gw_t 664 (by decide +kernel) (by decide +kernel)
theorem gw_665 : Cond.instanceMethod yX5_count ∈ GW := gw_t 665 (by decide +kernel) (by decide +kernel)
theorem gw_666 : Cond.selects RX5 yX5_count yX5_count ∈ GW := gw_t 666 (by decide +kernel) (by decide +kernel)
theorem gw_667 : Cond.code yX5_count cX5_count 2 (some .int) ∈ GW := gw_t 667 (by decide +kernel) (by decide +kernel)
theorem gw_668 : Cond.methodLink RX5 (174) yX5_aliveInLog ∈ GW := gw_t 668 (by decide +kernel) (by decide +kernel)
theorem gw_670 : Cond.instanceMethod yX5_aliveInLog ∈ GW := gw_t 670 (by decide +kernel) (by decide +kernel)
theorem gw_671 : Cond.code yX5_aliveInLog cX5_aliveInLog 3 (some .int) ∈ GW := gw_t 671 (by decide +kernel) (by decide +kernel)
theorem gw_672 : Cond.methodLink RX5 (177) yX5_inPages ∈ GW := gw_t 672 (by decide +kernel) (by decide +kernel)
theorem gw_674 : Cond.instanceMethod yX5_inPages ∈ GW := gw_t 674 (by decide +kernel) (by decide +kernel)
theorem gw_675 : Cond.code yX5_inPages cX5_inPages 3 (some .int) ∈ GW := gw_t 675 (by decide +kernel) (by decide +kernel)
theorem gw_676 : Cond.methodLink RL (81) yX5_close ∈ GW := gw_t 676 (by decide +kernel) (by decide +kernel)
theorem gw_677 : Cond.instanceMethod yX5_close ∈ GW := gw_t 677 (by decide +kernel) (by decide +kernel)
theorem gw_678 : Cond.selects RX5 yX5_close yX5_close ∈ GW := gw_t 678 (by decide +kernel) (by decide +kernel)
theorem gw_679 : Cond.code yX5_close cX5_close 1 (some .int) ∈ GW := gw_t 679 (by decide +kernel) (by decide +kernel)
theorem gw_680 : Cond.methodLink RL (85) yX5_crash ∈ GW := gw_t 680 (by decide +kernel) (by decide +kernel)
theorem gw_681 : Cond.instanceMethod yX5_crash ∈ GW := gw_t 681 (by decide +kernel) (by decide +kernel)
theorem gw_682 : Cond.selects RX5 yX5_crash yX5_crash ∈ GW := gw_t 682 (by decide +kernel) (by decide +kernel)
theorem gw_683 : Cond.code yX5_crash cX5_crash 3 (some .int) ∈ GW := gw_t 683 (by decide +kernel) (by decide +kernel)
theorem gw_684 : Cond.methodLink RL (89) yX5_open ∈ GW := gw_t 684 (by decide +kernel) (by decide +kernel)
theorem gw_685 : Cond.instanceMethod yX5_open ∈ GW := gw_t 685 (by decide +kernel) (by decide +kernel)
theorem gw_686 : Cond.selects RX5 yX5_open yX5_open ∈ GW := gw_t 686 (by decide +kernel) (by decide +kernel)
theorem gw_687 : Cond.code yX5_open cX5_open 1 (some .int) ∈ GW := gw_t 687 (by decide +kernel) (by decide +kernel)
theorem gw_688 : Cond.methodLink RL (93) yX5_check ∈ GW := gw_t 688 (by decide +kernel) (by decide +kernel)
theorem gw_689 : Cond.instanceMethod yX5_check ∈ GW := gw_t 689 (by decide +kernel) (by decide +kernel)
theorem gw_690 : Cond.selects RX5 yX5_check yX5_check ∈ GW := gw_t 690 (by decide +kernel) (by decide +kernel)
theorem gw_691 : Cond.code yX5_check cX5_check 7 (some .int) ∈ GW := gw_t 691 (by decide +kernel) (by decide +kernel)
theorem gw_692 : Cond.constantLong RL (13) (4294967295) ∈ GW := gw_t 692 (by decide +kernel) (by decide +kernel)
theorem gs_0 : Cond.selects RX1 yX1_writeOpenPage yX1_writeOpenPage ∈ GW := gw_s 0 (by decide +kernel) (by decide +kernel)
theorem gs_1 : Cond.selects RX1 yX1_emptyHead yX1_emptyHead ∈ GW := gw_s 1 (by decide +kernel) (by decide +kernel)
theorem gs_2 : Cond.selects RX1 yX1_settle yX1_settle ∈ GW := gw_s 2 (by decide +kernel) (by decide +kernel)
theorem gs_3 : Cond.selects RX1 yX1_gather yX1_gather ∈ GW := gw_s 3 (by decide +kernel) (by decide +kernel)
theorem gs_4 : Cond.selects RX1 yX1_killGroup yX1_killGroup ∈ GW := gw_s 4 (by decide +kernel) (by decide +kernel)
theorem gs_5 : Cond.selects RX3 yX3_layOutOthers yX3_layOutOthers ∈ GW := gw_s 5 (by decide +kernel) (by decide +kernel)
theorem gs_6 : Cond.selects RX3 yX3_dropPass yX3_dropPass ∈ GW := gw_s 6 (by decide +kernel) (by decide +kernel)
theorem gs_7 : Cond.selects RX3 yX3_refill yX3_refill ∈ GW := gw_s 7 (by decide +kernel) (by decide +kernel)
theorem gs_8 : Cond.selects RX1 yX1_putAnew yX1_putAnew ∈ GW := gw_s 8 (by decide +kernel) (by decide +kernel)
theorem gs_9 : Cond.selects RX5 yX5_inLog yX5_inLog ∈ GW := gw_s 9 (by decide +kernel) (by decide +kernel)
theorem gs_10 : Cond.selects RX5 yX5_append yX5_append ∈ GW := gw_s 10 (by decide +kernel) (by decide +kernel)
theorem gs_11 : Cond.selects RX5 yX5_writeOpenPage yX5_writeOpenPage ∈ GW := gw_s 11 (by decide +kernel) (by decide +kernel)
theorem gs_12 : Cond.selects RX5 yX5_empty yX5_empty ∈ GW := gw_s 12 (by decide +kernel) (by decide +kernel)
theorem gs_13 : Cond.selects RX5 yX5_forgetDead yX5_forgetDead ∈ GW := gw_s 13 (by decide +kernel) (by decide +kernel)
theorem gs_14 : Cond.selects RX5 yX5_handle yX5_handle ∈ GW := gw_s 14 (by decide +kernel) (by decide +kernel)
theorem gs_15 : Cond.selects RX5 yX5_move yX5_move ∈ GW := gw_s 15 (by decide +kernel) (by decide +kernel)
theorem gs_16 : Cond.selects RX5 yX5_addNew yX5_addNew ∈ GW := gw_s 16 (by decide +kernel) (by decide +kernel)
theorem gs_17 : Cond.selects RX5 yX5_placesOfNew yX5_placesOfNew ∈ GW := gw_s 17 (by decide +kernel) (by decide +kernel)
theorem gs_18 : Cond.selects RX5 yX5_dropOne yX5_dropOne ∈ GW := gw_s 18 (by decide +kernel) (by decide +kernel)
theorem gs_19 : Cond.selects RX5 yX5_writePage yX5_writePage ∈ GW := gw_s 19 (by decide +kernel) (by decide +kernel)
theorem gs_20 : Cond.selects RX5 yX5_takeOut yX5_takeOut ∈ GW := gw_s 20 (by decide +kernel) (by decide +kernel)
theorem gs_21 : Cond.selects RX5 yX5_mayHave yX5_mayHave ∈ GW := gw_s 21 (by decide +kernel) (by decide +kernel)
theorem gs_22 : Cond.selects RX5 yX5_bitsOf yX5_bitsOf ∈ GW := gw_s 22 (by decide +kernel) (by decide +kernel)
theorem gs_23 : Cond.selects RX5 yX5_filterOf yX5_filterOf ∈ GW := gw_s 23 (by decide +kernel) (by decide +kernel)
theorem gs_24 : Cond.selects RX5 yX5_inPage yX5_inPage ∈ GW := gw_s 24 (by decide +kernel) (by decide +kernel)
theorem gs_25 : Cond.selects RX5 yX5_aliveInLog yX5_aliveInLog ∈ GW := gw_s 25 (by decide +kernel) (by decide +kernel)
theorem gs_26 : Cond.selects RX5 yX5_inPages yX5_inPages ∈ GW := gw_s 26 (by decide +kernel) (by decide +kernel)
theorem inX0 : ∀ w ∈ u_ws RX0 TX0 9, w ∈ GW := by
  have h : ([185, 187, 189, 191, 193, 195, 197, 199, 201].map (fun i => tables_1[i]?)) = (u_ws RX0 TX0 9).map some := by decide +kernel
  have h2 : (u_ws RX0 TX0 9).all goodWord = true := by decide +kernel
  intro w hw
  obtain ⟨k, hk⟩ := List.getElem?_of_mem hw
  have h3 : ((u_ws RX0 TX0 9).map some)[k]? = some (some w) := by rw [List.getElem?_map, hk]; rfl
  rw [← h, List.getElem?_map] at h3
  obtain ⟨i, hi, he⟩ := Option.map_eq_some_iff.mp h3
  exact gw_t i he (List.all_eq_true.mp h2 w hw)
theorem inX1 : ∀ w ∈ u_ws RX1 TX1 9, w ∈ GW := by
  have h : ([86, 88, 90, 92, 94, 96, 98, 100, 102].map (fun i => tables_1[i]?)) = (u_ws RX1 TX1 9).map some := by decide +kernel
  have h2 : (u_ws RX1 TX1 9).all goodWord = true := by decide +kernel
  intro w hw
  obtain ⟨k, hk⟩ := List.getElem?_of_mem hw
  have h3 : ((u_ws RX1 TX1 9).map some)[k]? = some (some w) := by rw [List.getElem?_map, hk]; rfl
  rw [← h, List.getElem?_map] at h3
  obtain ⟨i, hi, he⟩ := Option.map_eq_some_iff.mp h3
  exact gw_t i he (List.all_eq_true.mp h2 w hw)
theorem inX2 : ∀ w ∈ u_ws RX2 TX2 2, w ∈ GW := by
  have h : ([39, 41].map (fun i => tables_1[i]?)) = (u_ws RX2 TX2 2).map some := by decide +kernel
  have h2 : (u_ws RX2 TX2 2).all goodWord = true := by decide +kernel
  intro w hw
  obtain ⟨k, hk⟩ := List.getElem?_of_mem hw
  have h3 : ((u_ws RX2 TX2 2).map some)[k]? = some (some w) := by rw [List.getElem?_map, hk]; rfl
  rw [← h, List.getElem?_map] at h3
  obtain ⟨i, hi, he⟩ := Option.map_eq_some_iff.mp h3
  exact gw_t i he (List.all_eq_true.mp h2 w hw)
theorem inX3 : ∀ w ∈ u_ws RX3 TX3 5, w ∈ GW := by
  have h : ([53, 55, 57, 59, 61].map (fun i => tables_1[i]?)) = (u_ws RX3 TX3 5).map some := by decide +kernel
  have h2 : (u_ws RX3 TX3 5).all goodWord = true := by decide +kernel
  intro w hw
  obtain ⟨k, hk⟩ := List.getElem?_of_mem hw
  have h3 : ((u_ws RX3 TX3 5).map some)[k]? = some (some w) := by rw [List.getElem?_map, hk]; rfl
  rw [← h, List.getElem?_map] at h3
  obtain ⟨i, hi, he⟩ := Option.map_eq_some_iff.mp h3
  exact gw_t i he (List.all_eq_true.mp h2 w hw)
theorem inX4 : ∀ w ∈ u_ws RX4 TX4 7, w ∈ GW := by
  have h : ([112, 114, 116, 118, 120, 122, 124].map (fun i => tables_1[i]?)) = (u_ws RX4 TX4 7).map some := by decide +kernel
  have h2 : (u_ws RX4 TX4 7).all goodWord = true := by decide +kernel
  intro w hw
  obtain ⟨k, hk⟩ := List.getElem?_of_mem hw
  have h3 : ((u_ws RX4 TX4 7).map some)[k]? = some (some w) := by rw [List.getElem?_map, hk]; rfl
  rw [← h, List.getElem?_map] at h3
  obtain ⟨i, hi, he⟩ := Option.map_eq_some_iff.mp h3
  exact gw_t i he (List.all_eq_true.mp h2 w hw)
theorem inX5 : ∀ w ∈ u_ws RX5 TX5 29, w ∈ GW := by
  have h : ([480, 482, 484, 486, 488, 490, 492, 494, 496, 498, 500, 502, 504, 506, 508, 510, 512, 514, 516, 518, 520, 522, 524, 526, 528, 530, 532, 534, 536].map (fun i => tables_1[i]?)) = (u_ws RX5 TX5 29).map some := by decide +kernel
  have h2 : (u_ws RX5 TX5 29).all goodWord = true := by decide +kernel
  intro w hw
  obtain ⟨k, hk⟩ := List.getElem?_of_mem hw
  have h3 : ((u_ws RX5 TX5 29).map some)[k]? = some (some w) := by rw [List.getElem?_map, hk]; rfl
  rw [← h, List.getElem?_map] at h3
  obtain ⟨i, hi, he⟩ := Option.map_eq_some_iff.mp h3
  exact gw_t i he (List.all_eq_true.mp h2 w hw)
end
section
theorem dX0_init_0 : decode cX0_init 0 = .ok (.aload_n 0, 1) := by decide +kernel
theorem dX0_init_1 : decode cX0_init 1 = .ok (.invokespecial 3, 3) := by decide +kernel
theorem dX0_init_4 : decode cX0_init 4 = .ok (.lload_n 1, 1) := by decide +kernel
theorem dX0_init_5 : decode cX0_init 5 = .ok (.invokestatic 9, 3) := by decide +kernel
theorem dX0_init_8 : decode cX0_init 8 = .ok (.lstore 6, 2) := by decide +kernel
theorem dX0_init_10 : decode cX0_init 10 = .ok (.aload_n 0, 1) := by decide +kernel
theorem dX0_init_11 : decode cX0_init 11 = .ok (.lload_n 1, 1) := by decide +kernel
theorem dX0_init_12 : decode cX0_init 12 = .ok (.putfield 13, 3) := by decide +kernel
theorem dX0_init_15 : decode cX0_init 15 = .ok (.aload_n 0, 1) := by decide +kernel
theorem dX0_init_16 : decode cX0_init 16 = .ok (.lload 6, 2) := by decide +kernel
theorem dX0_init_18 : decode cX0_init 18 = .ok (.invokestatic 19, 3) := by decide +kernel
theorem dX0_init_21 : decode cX0_init 21 = .ok (.putfield 23, 3) := by decide +kernel
theorem dX0_init_24 : decode cX0_init 24 = .ok (.aload_n 0, 1) := by decide +kernel
theorem dX0_init_25 : decode cX0_init 25 = .ok (.lload 6, 2) := by decide +kernel
theorem dX0_init_27 : decode cX0_init 27 = .ok (.invokestatic 27, 3) := by decide +kernel
theorem dX0_init_30 : decode cX0_init 30 = .ok (.putfield 30, 3) := by decide +kernel
theorem dX0_init_33 : decode cX0_init 33 = .ok (.aload_n 0, 1) := by decide +kernel
theorem dX0_init_34 : decode cX0_init 34 = .ok (.iconst 3, 1) := by decide +kernel
theorem dX0_init_35 : decode cX0_init 35 = .ok (.iload_n 3, 1) := by decide +kernel
theorem dX0_init_36 : decode cX0_init 36 = .ok (.iadd, 1) := by decide +kernel
theorem dX0_init_37 : decode cX0_init 37 = .ok (.putfield 33, 3) := by decide +kernel
theorem dX0_init_40 : decode cX0_init 40 = .ok (.aload_n 0, 1) := by decide +kernel
theorem dX0_init_41 : decode cX0_init 41 = .ok (.iload_n 3, 1) := by decide +kernel
theorem dX0_init_42 : decode cX0_init 42 = .ok (.putfield 36, 3) := by decide +kernel
theorem dX0_init_45 : decode cX0_init 45 = .ok (.aload_n 0, 1) := by decide +kernel
theorem dX0_init_46 : decode cX0_init 46 = .ok (.iload 4, 2) := by decide +kernel
theorem dX0_init_48 : decode cX0_init 48 = .ok (.putfield 39, 3) := by decide +kernel
theorem dX0_init_51 : decode cX0_init 51 = .ok (.aload_n 0, 1) := by decide +kernel
theorem dX0_init_52 : decode cX0_init 52 = .ok (.iload 5, 2) := by decide +kernel
theorem dX0_init_54 : decode cX0_init 54 = .ok (.putfield 42, 3) := by decide +kernel
theorem dX0_init_57 : decode cX0_init 57 = .ok (.return_, 1) := by decide +kernel
theorem dX2_init_0 : decode cX2_init 0 = .ok (.aload_n 0, 1) := by decide +kernel
theorem dX2_init_1 : decode cX2_init 1 = .ok (.invokespecial 3, 3) := by decide +kernel
theorem dX2_init_4 : decode cX2_init 4 = .ok (.aload_n 0, 1) := by decide +kernel
theorem dX2_init_5 : decode cX2_init 5 = .ok (.iload_n 1, 1) := by decide +kernel
theorem dX2_init_6 : decode cX2_init 6 = .ok (.iconst 0, 1) := by decide +kernel
theorem dX2_init_7 : decode cX2_init 7 = .ok (.invokestatic 9, 3) := by decide +kernel
theorem dX2_init_10 : decode cX2_init 10 = .ok (.anewarray 15, 3) := by decide +kernel
theorem dX2_init_13 : decode cX2_init 13 = .ok (.putfield 17, 3) := by decide +kernel
theorem dX2_init_16 : decode cX2_init 16 = .ok (.return_, 1) := by decide +kernel
theorem dX2_at_0 : decode cX2_at 0 = .ok (.iload_n 1, 1) := by decide +kernel
theorem dX2_at_1 : decode cX2_at 1 = .ok (.ifCond .lt 20, 3) := by decide +kernel
theorem dX2_at_4 : decode cX2_at 4 = .ok (.iload_n 1, 1) := by decide +kernel
theorem dX2_at_5 : decode cX2_at 5 = .ok (.aload_n 0, 1) := by decide +kernel
theorem dX2_at_6 : decode cX2_at 6 = .ok (.getfield 23, 3) := by decide +kernel
theorem dX2_at_9 : decode cX2_at 9 = .ok (.if_icmp .ge 12, 3) := by decide +kernel
theorem dX2_at_12 : decode cX2_at 12 = .ok (.aload_n 0, 1) := by decide +kernel
theorem dX2_at_13 : decode cX2_at 13 = .ok (.getfield 17, 3) := by decide +kernel
theorem dX2_at_16 : decode cX2_at 16 = .ok (.iload_n 1, 1) := by decide +kernel
theorem dX2_at_17 : decode cX2_at 17 = .ok (.aaload, 1) := by decide +kernel
theorem dX2_at_18 : decode cX2_at 18 = .ok (.goto 4, 3) := by decide +kernel
theorem dX2_at_21 : decode cX2_at 21 = .ok (.aconst_null, 1) := by decide +kernel
theorem dX2_at_22 : decode cX2_at 22 = .ok (.areturn, 1) := by decide +kernel
theorem dX2_add_0 : decode cX2_add 0 = .ok (.aload_n 0, 1) := by decide +kernel
theorem dX2_add_1 : decode cX2_add 1 = .ok (.getfield 23, 3) := by decide +kernel
theorem dX2_add_4 : decode cX2_add 4 = .ok (.aload_n 0, 1) := by decide +kernel
theorem dX2_add_5 : decode cX2_add 5 = .ok (.getfield 17, 3) := by decide +kernel
theorem dX2_add_8 : decode cX2_add 8 = .ok (.arraylength, 1) := by decide +kernel
theorem dX2_add_9 : decode cX2_add 9 = .ok (.if_icmp .ge 23, 3) := by decide +kernel
theorem dX2_add_12 : decode cX2_add 12 = .ok (.aload_n 0, 1) := by decide +kernel
theorem dX2_add_13 : decode cX2_add 13 = .ok (.getfield 17, 3) := by decide +kernel
theorem dX2_add_16 : decode cX2_add 16 = .ok (.aload_n 0, 1) := by decide +kernel
theorem dX2_add_17 : decode cX2_add 17 = .ok (.getfield 23, 3) := by decide +kernel
theorem dX2_add_20 : decode cX2_add 20 = .ok (.aload_n 1, 1) := by decide +kernel
theorem dX2_add_21 : decode cX2_add 21 = .ok (.aastore, 1) := by decide +kernel
theorem dX2_add_22 : decode cX2_add 22 = .ok (.aload_n 0, 1) := by decide +kernel
theorem dX2_add_23 : decode cX2_add 23 = .ok (.dup, 1) := by decide +kernel
theorem dX2_add_24 : decode cX2_add 24 = .ok (.getfield 23, 3) := by decide +kernel
theorem dX2_add_27 : decode cX2_add 27 = .ok (.iconst 1, 1) := by decide +kernel
theorem dX2_add_28 : decode cX2_add 28 = .ok (.iadd, 1) := by decide +kernel
theorem dX2_add_29 : decode cX2_add 29 = .ok (.putfield 23, 3) := by decide +kernel
theorem dX2_add_32 : decode cX2_add 32 = .ok (.return_, 1) := by decide +kernel
theorem dX2_addAll_0 : decode cX2_addAll 0 = .ok (.iconst 0, 1) := by decide +kernel
theorem dX2_addAll_1 : decode cX2_addAll 1 = .ok (.istore_n 2, 1) := by decide +kernel
theorem dX2_addAll_2 : decode cX2_addAll 2 = .ok (.iload_n 2, 1) := by decide +kernel
theorem dX2_addAll_3 : decode cX2_addAll 3 = .ok (.aload_n 1, 1) := by decide +kernel
theorem dX2_addAll_4 : decode cX2_addAll 4 = .ok (.getfield 23, 3) := by decide +kernel
theorem dX2_addAll_7 : decode cX2_addAll 7 = .ok (.if_icmp .ge 18, 3) := by decide +kernel
theorem dX2_addAll_10 : decode cX2_addAll 10 = .ok (.aload_n 0, 1) := by decide +kernel
theorem dX2_addAll_11 : decode cX2_addAll 11 = .ok (.aload_n 1, 1) := by decide +kernel
theorem dX2_addAll_12 : decode cX2_addAll 12 = .ok (.iload_n 2, 1) := by decide +kernel
theorem dX2_addAll_13 : decode cX2_addAll 13 = .ok (.invokevirtual 27, 3) := by decide +kernel
theorem dX2_addAll_16 : decode cX2_addAll 16 = .ok (.invokevirtual 31, 3) := by decide +kernel
theorem dX2_addAll_19 : decode cX2_addAll 19 = .ok (.iinc 2 1, 3) := by decide +kernel
theorem dX2_addAll_22 : decode cX2_addAll 22 = .ok (.goto (-20), 3) := by decide +kernel
theorem dX2_addAll_25 : decode cX2_addAll 25 = .ok (.return_, 1) := by decide +kernel
theorem dX2_addInLog_0 : decode cX2_addInLog 0 = .ok (.iload_n 2, 1) := by decide +kernel
theorem dX2_addInLog_1 : decode cX2_addInLog 1 = .ok (.istore 4, 2) := by decide +kernel
theorem dX2_addInLog_3 : decode cX2_addInLog 3 = .ok (.iload 4, 2) := by decide +kernel
theorem dX2_addInLog_5 : decode cX2_addInLog 5 = .ok (.aload_n 1, 1) := by decide +kernel
theorem dX2_addInLog_6 : decode cX2_addInLog 6 = .ok (.getfield 23, 3) := by decide +kernel
theorem dX2_addInLog_9 : decode cX2_addInLog 9 = .ok (.if_icmp .ge 45, 3) := by decide +kernel
theorem dX2_addInLog_12 : decode cX2_addInLog 12 = .ok (.aload_n 1, 1) := by decide +kernel
theorem dX2_addInLog_13 : decode cX2_addInLog 13 = .ok (.iload 4, 2) := by decide +kernel
theorem dX2_addInLog_15 : decode cX2_addInLog 15 = .ok (.invokevirtual 27, 3) := by decide +kernel
theorem dX2_addInLog_18 : decode cX2_addInLog 18 = .ok (.astore 5, 2) := by decide +kernel
theorem dX2_addInLog_20 : decode cX2_addInLog 20 = .ok (.aload 5, 2) := by decide +kernel
theorem dX2_addInLog_22 : decode cX2_addInLog 22 = .ok (.ifnull 26, 3) := by decide +kernel
theorem dX2_addInLog_25 : decode cX2_addInLog 25 = .ok (.aload 5, 2) := by decide +kernel
theorem dX2_addInLog_27 : decode cX2_addInLog 27 = .ok (.getfield 35, 3) := by decide +kernel
theorem dX2_addInLog_30 : decode cX2_addInLog 30 = .ok (.ifCond .eq 18, 3) := by decide +kernel
theorem dX2_addInLog_33 : decode cX2_addInLog 33 = .ok (.aload 5, 2) := by decide +kernel
theorem dX2_addInLog_35 : decode cX2_addInLog 35 = .ok (.getfield 39, 3) := by decide +kernel
theorem dX2_addInLog_38 : decode cX2_addInLog 38 = .ok (.iload_n 3, 1) := by decide +kernel
theorem dX2_addInLog_39 : decode cX2_addInLog 39 = .ok (.if_icmp .ne 9, 3) := by decide +kernel
theorem dX2_addInLog_42 : decode cX2_addInLog 42 = .ok (.aload_n 0, 1) := by decide +kernel
theorem dX2_addInLog_43 : decode cX2_addInLog 43 = .ok (.aload 5, 2) := by decide +kernel
theorem dX2_addInLog_45 : decode cX2_addInLog 45 = .ok (.invokevirtual 31, 3) := by decide +kernel
theorem dX2_addInLog_48 : decode cX2_addInLog 48 = .ok (.iinc 4 1, 3) := by decide +kernel
theorem dX2_addInLog_51 : decode cX2_addInLog 51 = .ok (.goto (-48), 3) := by decide +kernel
theorem dX2_addInLog_54 : decode cX2_addInLog 54 = .ok (.return_, 1) := by decide +kernel
theorem dX2_clear_0 : decode cX2_clear 0 = .ok (.aload_n 0, 1) := by decide +kernel
theorem dX2_clear_1 : decode cX2_clear 1 = .ok (.iconst 0, 1) := by decide +kernel
theorem dX2_clear_2 : decode cX2_clear 2 = .ok (.putfield 23, 3) := by decide +kernel
theorem dX2_clear_5 : decode cX2_clear 5 = .ok (.return_, 1) := by decide +kernel
theorem dX2_blank_0 : decode cX2_blank 0 = .ok (.iload_n 1, 1) := by decide +kernel
theorem dX2_blank_1 : decode cX2_blank 1 = .ok (.ifCond .lt 18, 3) := by decide +kernel
theorem dX2_blank_4 : decode cX2_blank 4 = .ok (.iload_n 1, 1) := by decide +kernel
theorem dX2_blank_5 : decode cX2_blank 5 = .ok (.aload_n 0, 1) := by decide +kernel
theorem dX2_blank_6 : decode cX2_blank 6 = .ok (.getfield 23, 3) := by decide +kernel
theorem dX2_blank_9 : decode cX2_blank 9 = .ok (.if_icmp .ge 10, 3) := by decide +kernel
theorem dX2_blank_12 : decode cX2_blank 12 = .ok (.aload_n 0, 1) := by decide +kernel
theorem dX2_blank_13 : decode cX2_blank 13 = .ok (.getfield 17, 3) := by decide +kernel
theorem dX2_blank_16 : decode cX2_blank 16 = .ok (.iload_n 1, 1) := by decide +kernel
theorem dX2_blank_17 : decode cX2_blank 17 = .ok (.aconst_null, 1) := by decide +kernel
theorem dX2_blank_18 : decode cX2_blank 18 = .ok (.aastore, 1) := by decide +kernel
theorem dX2_blank_19 : decode cX2_blank 19 = .ok (.return_, 1) := by decide +kernel
theorem dX2_closeUpOver_0 : decode cX2_closeUpOver 0 = .ok (.iload_n 1, 1) := by decide +kernel
theorem dX2_closeUpOver_1 : decode cX2_closeUpOver 1 = .ok (.ifCond .lt 11, 3) := by decide +kernel
theorem dX2_closeUpOver_4 : decode cX2_closeUpOver 4 = .ok (.iload_n 1, 1) := by decide +kernel
theorem dX2_closeUpOver_5 : decode cX2_closeUpOver 5 = .ok (.aload_n 0, 1) := by decide +kernel
theorem dX2_closeUpOver_6 : decode cX2_closeUpOver 6 = .ok (.getfield 23, 3) := by decide +kernel
theorem dX2_closeUpOver_9 : decode cX2_closeUpOver 9 = .ok (.if_icmp .lt 4, 3) := by decide +kernel
theorem dX2_closeUpOver_12 : decode cX2_closeUpOver 12 = .ok (.return_, 1) := by decide +kernel
theorem dX2_closeUpOver_13 : decode cX2_closeUpOver 13 = .ok (.iload_n 1, 1) := by decide +kernel
theorem dX2_closeUpOver_14 : decode cX2_closeUpOver 14 = .ok (.iconst 1, 1) := by decide +kernel
theorem dX2_closeUpOver_15 : decode cX2_closeUpOver 15 = .ok (.iadd, 1) := by decide +kernel
theorem dX2_closeUpOver_16 : decode cX2_closeUpOver 16 = .ok (.istore_n 2, 1) := by decide +kernel
theorem dX2_closeUpOver_17 : decode cX2_closeUpOver 17 = .ok (.iload_n 2, 1) := by decide +kernel
theorem dX2_closeUpOver_18 : decode cX2_closeUpOver 18 = .ok (.aload_n 0, 1) := by decide +kernel
theorem dX2_closeUpOver_19 : decode cX2_closeUpOver 19 = .ok (.getfield 23, 3) := by decide +kernel
theorem dX2_closeUpOver_22 : decode cX2_closeUpOver 22 = .ok (.if_icmp .ge 23, 3) := by decide +kernel
theorem dX2_closeUpOver_25 : decode cX2_closeUpOver 25 = .ok (.aload_n 0, 1) := by decide +kernel
theorem dX2_closeUpOver_26 : decode cX2_closeUpOver 26 = .ok (.getfield 17, 3) := by decide +kernel
theorem dX2_closeUpOver_29 : decode cX2_closeUpOver 29 = .ok (.iload_n 2, 1) := by decide +kernel
theorem dX2_closeUpOver_30 : decode cX2_closeUpOver 30 = .ok (.iconst 1, 1) := by decide +kernel
theorem dX2_closeUpOver_31 : decode cX2_closeUpOver 31 = .ok (.isub, 1) := by decide +kernel
theorem dX2_closeUpOver_32 : decode cX2_closeUpOver 32 = .ok (.aload_n 0, 1) := by decide +kernel
theorem dX2_closeUpOver_33 : decode cX2_closeUpOver 33 = .ok (.getfield 17, 3) := by decide +kernel
theorem dX2_closeUpOver_36 : decode cX2_closeUpOver 36 = .ok (.iload_n 2, 1) := by decide +kernel
theorem dX2_closeUpOver_37 : decode cX2_closeUpOver 37 = .ok (.aaload, 1) := by decide +kernel
theorem dX2_closeUpOver_38 : decode cX2_closeUpOver 38 = .ok (.aastore, 1) := by decide +kernel
theorem dX2_closeUpOver_39 : decode cX2_closeUpOver 39 = .ok (.iinc 2 1, 3) := by decide +kernel
theorem dX2_closeUpOver_42 : decode cX2_closeUpOver 42 = .ok (.goto (-25), 3) := by decide +kernel
theorem dX2_closeUpOver_45 : decode cX2_closeUpOver 45 = .ok (.aload_n 0, 1) := by decide +kernel
theorem dX2_closeUpOver_46 : decode cX2_closeUpOver 46 = .ok (.dup, 1) := by decide +kernel
theorem dX2_closeUpOver_47 : decode cX2_closeUpOver 47 = .ok (.getfield 23, 3) := by decide +kernel
theorem dX2_closeUpOver_50 : decode cX2_closeUpOver 50 = .ok (.iconst 1, 1) := by decide +kernel
theorem dX2_closeUpOver_51 : decode cX2_closeUpOver 51 = .ok (.isub, 1) := by decide +kernel
theorem dX2_closeUpOver_52 : decode cX2_closeUpOver 52 = .ok (.putfield 23, 3) := by decide +kernel
theorem dX2_closeUpOver_55 : decode cX2_closeUpOver 55 = .ok (.return_, 1) := by decide +kernel
theorem dX2_indexOf_0 : decode cX2_indexOf 0 = .ok (.iconst 0, 1) := by decide +kernel
theorem dX2_indexOf_1 : decode cX2_indexOf 1 = .ok (.istore_n 3, 1) := by decide +kernel
theorem dX2_indexOf_2 : decode cX2_indexOf 2 = .ok (.iload_n 3, 1) := by decide +kernel
theorem dX2_indexOf_3 : decode cX2_indexOf 3 = .ok (.aload_n 0, 1) := by decide +kernel
theorem dX2_indexOf_4 : decode cX2_indexOf 4 = .ok (.getfield 23, 3) := by decide +kernel
theorem dX2_indexOf_7 : decode cX2_indexOf 7 = .ok (.if_icmp .ge 34, 3) := by decide +kernel
theorem dX2_indexOf_10 : decode cX2_indexOf 10 = .ok (.aload_n 0, 1) := by decide +kernel
theorem dX2_indexOf_11 : decode cX2_indexOf 11 = .ok (.getfield 17, 3) := by decide +kernel
theorem dX2_indexOf_14 : decode cX2_indexOf 14 = .ok (.iload_n 3, 1) := by decide +kernel
theorem dX2_indexOf_15 : decode cX2_indexOf 15 = .ok (.aaload, 1) := by decide +kernel
theorem dX2_indexOf_16 : decode cX2_indexOf 16 = .ok (.astore 4, 2) := by decide +kernel
theorem dX2_indexOf_18 : decode cX2_indexOf 18 = .ok (.aload 4, 2) := by decide +kernel
theorem dX2_indexOf_20 : decode cX2_indexOf 20 = .ok (.ifnull 15, 3) := by decide +kernel
theorem dX2_indexOf_23 : decode cX2_indexOf 23 = .ok (.aload 4, 2) := by decide +kernel
theorem dX2_indexOf_25 : decode cX2_indexOf 25 = .ok (.getfield 42, 3) := by decide +kernel
theorem dX2_indexOf_28 : decode cX2_indexOf 28 = .ok (.lload_n 1, 1) := by decide +kernel
theorem dX2_indexOf_29 : decode cX2_indexOf 29 = .ok (.lcmp, 1) := by decide +kernel
theorem dX2_indexOf_30 : decode cX2_indexOf 30 = .ok (.ifCond .ne 5, 3) := by decide +kernel
theorem dX2_indexOf_33 : decode cX2_indexOf 33 = .ok (.iload_n 3, 1) := by decide +kernel
theorem dX2_indexOf_34 : decode cX2_indexOf 34 = .ok (.ireturn, 1) := by decide +kernel
theorem dX2_indexOf_35 : decode cX2_indexOf 35 = .ok (.iinc 3 1, 3) := by decide +kernel
theorem dX2_indexOf_38 : decode cX2_indexOf 38 = .ok (.goto (-36), 3) := by decide +kernel
theorem dX2_indexOf_41 : decode cX2_indexOf 41 = .ok (.iconst (-1), 1) := by decide +kernel
theorem dX2_indexOf_42 : decode cX2_indexOf 42 = .ok (.ireturn, 1) := by decide +kernel
theorem dX2_findInLog_0 : decode cX2_findInLog 0 = .ok (.iconst 0, 1) := by decide +kernel
theorem dX2_findInLog_1 : decode cX2_findInLog 1 = .ok (.istore_n 3, 1) := by decide +kernel
theorem dX2_findInLog_2 : decode cX2_findInLog 2 = .ok (.iload_n 3, 1) := by decide +kernel
theorem dX2_findInLog_3 : decode cX2_findInLog 3 = .ok (.aload_n 0, 1) := by decide +kernel
theorem dX2_findInLog_4 : decode cX2_findInLog 4 = .ok (.getfield 23, 3) := by decide +kernel
theorem dX2_findInLog_7 : decode cX2_findInLog 7 = .ok (.if_icmp .ge 43, 3) := by decide +kernel
theorem dX2_findInLog_10 : decode cX2_findInLog 10 = .ok (.aload_n 0, 1) := by decide +kernel
theorem dX2_findInLog_11 : decode cX2_findInLog 11 = .ok (.getfield 17, 3) := by decide +kernel
theorem dX2_findInLog_14 : decode cX2_findInLog 14 = .ok (.iload_n 3, 1) := by decide +kernel
theorem dX2_findInLog_15 : decode cX2_findInLog 15 = .ok (.aaload, 1) := by decide +kernel
theorem dX2_findInLog_16 : decode cX2_findInLog 16 = .ok (.astore 4, 2) := by decide +kernel
theorem dX2_findInLog_18 : decode cX2_findInLog 18 = .ok (.aload 4, 2) := by decide +kernel
theorem dX2_findInLog_20 : decode cX2_findInLog 20 = .ok (.ifnull 24, 3) := by decide +kernel
theorem dX2_findInLog_23 : decode cX2_findInLog 23 = .ok (.aload 4, 2) := by decide +kernel
theorem dX2_findInLog_25 : decode cX2_findInLog 25 = .ok (.getfield 42, 3) := by decide +kernel
theorem dX2_findInLog_28 : decode cX2_findInLog 28 = .ok (.lload_n 1, 1) := by decide +kernel
theorem dX2_findInLog_29 : decode cX2_findInLog 29 = .ok (.lcmp, 1) := by decide +kernel
theorem dX2_findInLog_30 : decode cX2_findInLog 30 = .ok (.ifCond .ne 14, 3) := by decide +kernel
theorem dX2_findInLog_33 : decode cX2_findInLog 33 = .ok (.aload 4, 2) := by decide +kernel
theorem dX2_findInLog_35 : decode cX2_findInLog 35 = .ok (.getfield 35, 3) := by decide +kernel
theorem dX2_findInLog_38 : decode cX2_findInLog 38 = .ok (.ifCond .eq 6, 3) := by decide +kernel
theorem dX2_findInLog_41 : decode cX2_findInLog 41 = .ok (.aload 4, 2) := by decide +kernel
theorem dX2_findInLog_43 : decode cX2_findInLog 43 = .ok (.areturn, 1) := by decide +kernel
theorem dX2_findInLog_44 : decode cX2_findInLog 44 = .ok (.iinc 3 1, 3) := by decide +kernel
theorem dX2_findInLog_47 : decode cX2_findInLog 47 = .ok (.goto (-45), 3) := by decide +kernel
theorem dX2_findInLog_50 : decode cX2_findInLog 50 = .ok (.aconst_null, 1) := by decide +kernel
theorem dX2_findInLog_51 : decode cX2_findInLog 51 = .ok (.areturn, 1) := by decide +kernel
theorem dX2_countInLog_0 : decode cX2_countInLog 0 = .ok (.iconst 0, 1) := by decide +kernel
theorem dX2_countInLog_1 : decode cX2_countInLog 1 = .ok (.istore_n 1, 1) := by decide +kernel
theorem dX2_countInLog_2 : decode cX2_countInLog 2 = .ok (.iconst 0, 1) := by decide +kernel
theorem dX2_countInLog_3 : decode cX2_countInLog 3 = .ok (.istore_n 2, 1) := by decide +kernel
theorem dX2_countInLog_4 : decode cX2_countInLog 4 = .ok (.iload_n 2, 1) := by decide +kernel
theorem dX2_countInLog_5 : decode cX2_countInLog 5 = .ok (.aload_n 0, 1) := by decide +kernel
theorem dX2_countInLog_6 : decode cX2_countInLog 6 = .ok (.getfield 23, 3) := by decide +kernel
theorem dX2_countInLog_9 : decode cX2_countInLog 9 = .ok (.if_icmp .ge 30, 3) := by decide +kernel
theorem dX2_countInLog_12 : decode cX2_countInLog 12 = .ok (.aload_n 0, 1) := by decide +kernel
theorem dX2_countInLog_13 : decode cX2_countInLog 13 = .ok (.getfield 17, 3) := by decide +kernel
theorem dX2_countInLog_16 : decode cX2_countInLog 16 = .ok (.iload_n 2, 1) := by decide +kernel
theorem dX2_countInLog_17 : decode cX2_countInLog 17 = .ok (.aaload, 1) := by decide +kernel
theorem dX2_countInLog_18 : decode cX2_countInLog 18 = .ok (.astore_n 3, 1) := by decide +kernel
theorem dX2_countInLog_19 : decode cX2_countInLog 19 = .ok (.aload_n 3, 1) := by decide +kernel
theorem dX2_countInLog_20 : decode cX2_countInLog 20 = .ok (.ifnull 13, 3) := by decide +kernel
theorem dX2_countInLog_23 : decode cX2_countInLog 23 = .ok (.aload_n 3, 1) := by decide +kernel
theorem dX2_countInLog_24 : decode cX2_countInLog 24 = .ok (.getfield 35, 3) := by decide +kernel
theorem dX2_countInLog_27 : decode cX2_countInLog 27 = .ok (.ifCond .eq 6, 3) := by decide +kernel
theorem dX2_countInLog_30 : decode cX2_countInLog 30 = .ok (.iinc 1 1, 3) := by decide +kernel
theorem dX2_countInLog_33 : decode cX2_countInLog 33 = .ok (.iinc 2 1, 3) := by decide +kernel
theorem dX2_countInLog_36 : decode cX2_countInLog 36 = .ok (.goto (-32), 3) := by decide +kernel
theorem dX2_countInLog_39 : decode cX2_countInLog 39 = .ok (.iload_n 1, 1) := by decide +kernel
theorem dX2_countInLog_40 : decode cX2_countInLog 40 = .ok (.ireturn, 1) := by decide +kernel
theorem dX2_places_0 : decode cX2_places 0 = .ok (.iconst 0, 1) := by decide +kernel
theorem dX2_places_1 : decode cX2_places 1 = .ok (.istore_n 1, 1) := by decide +kernel
theorem dX2_places_2 : decode cX2_places 2 = .ok (.iconst 0, 1) := by decide +kernel
theorem dX2_places_3 : decode cX2_places 3 = .ok (.istore_n 2, 1) := by decide +kernel
theorem dX2_places_4 : decode cX2_places 4 = .ok (.iload_n 2, 1) := by decide +kernel
theorem dX2_places_5 : decode cX2_places 5 = .ok (.aload_n 0, 1) := by decide +kernel
theorem dX2_places_6 : decode cX2_places 6 = .ok (.getfield 23, 3) := by decide +kernel
theorem dX2_places_9 : decode cX2_places 9 = .ok (.if_icmp .ge 27, 3) := by decide +kernel
theorem dX2_places_12 : decode cX2_places 12 = .ok (.aload_n 0, 1) := by decide +kernel
theorem dX2_places_13 : decode cX2_places 13 = .ok (.getfield 17, 3) := by decide +kernel
theorem dX2_places_16 : decode cX2_places 16 = .ok (.iload_n 2, 1) := by decide +kernel
theorem dX2_places_17 : decode cX2_places 17 = .ok (.aaload, 1) := by decide +kernel
theorem dX2_places_18 : decode cX2_places 18 = .ok (.astore_n 3, 1) := by decide +kernel
theorem dX2_places_19 : decode cX2_places 19 = .ok (.aload_n 3, 1) := by decide +kernel
theorem dX2_places_20 : decode cX2_places 20 = .ok (.ifnull 10, 3) := by decide +kernel
theorem dX2_places_23 : decode cX2_places 23 = .ok (.iload_n 1, 1) := by decide +kernel
theorem dX2_places_24 : decode cX2_places 24 = .ok (.aload_n 3, 1) := by decide +kernel
theorem dX2_places_25 : decode cX2_places 25 = .ok (.getfield 46, 3) := by decide +kernel
theorem dX2_places_28 : decode cX2_places 28 = .ok (.iadd, 1) := by decide +kernel
theorem dX2_places_29 : decode cX2_places 29 = .ok (.istore_n 1, 1) := by decide +kernel
theorem dX2_places_30 : decode cX2_places 30 = .ok (.iinc 2 1, 3) := by decide +kernel
theorem dX2_places_33 : decode cX2_places 33 = .ok (.goto (-29), 3) := by decide +kernel
theorem dX2_places_36 : decode cX2_places 36 = .ok (.iload_n 1, 1) := by decide +kernel
theorem dX2_places_37 : decode cX2_places 37 = .ok (.ireturn, 1) := by decide +kernel
theorem dX2_hasRoomFor_0 : decode cX2_hasRoomFor 0 = .ok (.aload_n 0, 1) := by decide +kernel
theorem dX2_hasRoomFor_1 : decode cX2_hasRoomFor 1 = .ok (.invokevirtual 49, 3) := by decide +kernel
theorem dX2_hasRoomFor_4 : decode cX2_hasRoomFor 4 = .ok (.aload_n 1, 1) := by decide +kernel
theorem dX2_hasRoomFor_5 : decode cX2_hasRoomFor 5 = .ok (.getfield 46, 3) := by decide +kernel
theorem dX2_hasRoomFor_8 : decode cX2_hasRoomFor 8 = .ok (.iadd, 1) := by decide +kernel
theorem dX2_hasRoomFor_9 : decode cX2_hasRoomFor 9 = .ok (.bipush 32, 2) := by decide +kernel
theorem dX2_hasRoomFor_11 : decode cX2_hasRoomFor 11 = .ok (.if_icmp .gt 7, 3) := by decide +kernel
theorem dX2_hasRoomFor_14 : decode cX2_hasRoomFor 14 = .ok (.iconst 1, 1) := by decide +kernel
theorem dX2_hasRoomFor_15 : decode cX2_hasRoomFor 15 = .ok (.goto 4, 3) := by decide +kernel
theorem dX2_hasRoomFor_18 : decode cX2_hasRoomFor 18 = .ok (.iconst 0, 1) := by decide +kernel
theorem dX2_hasRoomFor_19 : decode cX2_hasRoomFor 19 = .ok (.ireturn, 1) := by decide +kernel
theorem dX2_filterOfKeys_0 : decode cX2_filterOfKeys 0 = .ok (.lconst 0, 1) := by decide +kernel
theorem dX2_filterOfKeys_1 : decode cX2_filterOfKeys 1 = .ok (.lstore_n 1, 1) := by decide +kernel
theorem dX2_filterOfKeys_2 : decode cX2_filterOfKeys 2 = .ok (.iconst 0, 1) := by decide +kernel
theorem dX2_filterOfKeys_3 : decode cX2_filterOfKeys 3 = .ok (.istore_n 3, 1) := by decide +kernel
theorem dX2_filterOfKeys_4 : decode cX2_filterOfKeys 4 = .ok (.iload_n 3, 1) := by decide +kernel
theorem dX2_filterOfKeys_5 : decode cX2_filterOfKeys 5 = .ok (.aload_n 0, 1) := by decide +kernel
theorem dX2_filterOfKeys_6 : decode cX2_filterOfKeys 6 = .ok (.getfield 23, 3) := by decide +kernel
theorem dX2_filterOfKeys_9 : decode cX2_filterOfKeys 9 = .ok (.if_icmp .ge 30, 3) := by decide +kernel
theorem dX2_filterOfKeys_12 : decode cX2_filterOfKeys 12 = .ok (.aload_n 0, 1) := by decide +kernel
theorem dX2_filterOfKeys_13 : decode cX2_filterOfKeys 13 = .ok (.getfield 17, 3) := by decide +kernel
theorem dX2_filterOfKeys_16 : decode cX2_filterOfKeys 16 = .ok (.iload_n 3, 1) := by decide +kernel
theorem dX2_filterOfKeys_17 : decode cX2_filterOfKeys 17 = .ok (.aaload, 1) := by decide +kernel
theorem dX2_filterOfKeys_18 : decode cX2_filterOfKeys 18 = .ok (.astore 4, 2) := by decide +kernel
theorem dX2_filterOfKeys_20 : decode cX2_filterOfKeys 20 = .ok (.aload 4, 2) := by decide +kernel
theorem dX2_filterOfKeys_22 : decode cX2_filterOfKeys 22 = .ok (.ifnull 11, 3) := by decide +kernel
theorem dX2_filterOfKeys_25 : decode cX2_filterOfKeys 25 = .ok (.lload_n 1, 1) := by decide +kernel
theorem dX2_filterOfKeys_26 : decode cX2_filterOfKeys 26 = .ok (.aload 4, 2) := by decide +kernel
theorem dX2_filterOfKeys_28 : decode cX2_filterOfKeys 28 = .ok (.getfield 52, 3) := by decide +kernel
theorem dX2_filterOfKeys_31 : decode cX2_filterOfKeys 31 = .ok (.lor, 1) := by decide +kernel
theorem dX2_filterOfKeys_32 : decode cX2_filterOfKeys 32 = .ok (.lstore_n 1, 1) := by decide +kernel
theorem dX2_filterOfKeys_33 : decode cX2_filterOfKeys 33 = .ok (.iinc 3 1, 3) := by decide +kernel
theorem dX2_filterOfKeys_36 : decode cX2_filterOfKeys 36 = .ok (.goto (-32), 3) := by decide +kernel
theorem dX2_filterOfKeys_39 : decode cX2_filterOfKeys 39 = .ok (.lload_n 1, 1) := by decide +kernel
theorem dX2_filterOfKeys_40 : decode cX2_filterOfKeys 40 = .ok (.lreturn, 1) := by decide +kernel
theorem dX2_belongsTo_0 : decode cX2_belongsTo 0 = .ok (.iconst 0, 1) := by decide +kernel
theorem dX2_belongsTo_1 : decode cX2_belongsTo 1 = .ok (.istore_n 2, 1) := by decide +kernel
theorem dX2_belongsTo_2 : decode cX2_belongsTo 2 = .ok (.iload_n 2, 1) := by decide +kernel
theorem dX2_belongsTo_3 : decode cX2_belongsTo 3 = .ok (.aload_n 0, 1) := by decide +kernel
theorem dX2_belongsTo_4 : decode cX2_belongsTo 4 = .ok (.getfield 23, 3) := by decide +kernel
theorem dX2_belongsTo_7 : decode cX2_belongsTo 7 = .ok (.if_icmp .ge 42, 3) := by decide +kernel
theorem dX2_belongsTo_10 : decode cX2_belongsTo 10 = .ok (.aload_n 0, 1) := by decide +kernel
theorem dX2_belongsTo_11 : decode cX2_belongsTo 11 = .ok (.getfield 17, 3) := by decide +kernel
theorem dX2_belongsTo_14 : decode cX2_belongsTo 14 = .ok (.iload_n 2, 1) := by decide +kernel
theorem dX2_belongsTo_15 : decode cX2_belongsTo 15 = .ok (.aaload, 1) := by decide +kernel
theorem dX2_belongsTo_16 : decode cX2_belongsTo 16 = .ok (.astore_n 3, 1) := by decide +kernel
theorem dX2_belongsTo_17 : decode cX2_belongsTo 17 = .ok (.aload_n 3, 1) := by decide +kernel
theorem dX2_belongsTo_18 : decode cX2_belongsTo 18 = .ok (.ifnull 23, 3) := by decide +kernel
theorem dX2_belongsTo_21 : decode cX2_belongsTo 21 = .ok (.aload_n 3, 1) := by decide +kernel
theorem dX2_belongsTo_22 : decode cX2_belongsTo 22 = .ok (.getfield 39, 3) := by decide +kernel
theorem dX2_belongsTo_25 : decode cX2_belongsTo 25 = .ok (.iload_n 1, 1) := by decide +kernel
theorem dX2_belongsTo_26 : decode cX2_belongsTo 26 = .ok (.if_icmp .ne 15, 3) := by decide +kernel
theorem dX2_belongsTo_29 : decode cX2_belongsTo 29 = .ok (.aload_n 0, 1) := by decide +kernel
theorem dX2_belongsTo_30 : decode cX2_belongsTo 30 = .ok (.aload_n 3, 1) := by decide +kernel
theorem dX2_belongsTo_31 : decode cX2_belongsTo 31 = .ok (.getfield 42, 3) := by decide +kernel
theorem dX2_belongsTo_34 : decode cX2_belongsTo 34 = .ok (.invokevirtual 55, 3) := by decide +kernel
theorem dX2_belongsTo_37 : decode cX2_belongsTo 37 = .ok (.iload_n 2, 1) := by decide +kernel
theorem dX2_belongsTo_38 : decode cX2_belongsTo 38 = .ok (.if_icmp .eq 5, 3) := by decide +kernel
theorem dX2_belongsTo_41 : decode cX2_belongsTo 41 = .ok (.iconst 0, 1) := by decide +kernel
theorem dX2_belongsTo_42 : decode cX2_belongsTo 42 = .ok (.ireturn, 1) := by decide +kernel
theorem dX2_belongsTo_43 : decode cX2_belongsTo 43 = .ok (.iinc 2 1, 3) := by decide +kernel
theorem dX2_belongsTo_46 : decode cX2_belongsTo 46 = .ok (.goto (-44), 3) := by decide +kernel
theorem dX2_belongsTo_49 : decode cX2_belongsTo 49 = .ok (.iconst 1, 1) := by decide +kernel
theorem dX2_belongsTo_50 : decode cX2_belongsTo 50 = .ok (.ireturn, 1) := by decide +kernel
theorem dX3_init_0 : decode cX3_init 0 = .ok (.aload_n 0, 1) := by decide +kernel
theorem dX3_init_1 : decode cX3_init 1 = .ok (.invokespecial 3, 3) := by decide +kernel
theorem dX3_init_4 : decode cX3_init 4 = .ok (.aload_n 0, 1) := by decide +kernel
theorem dX3_init_5 : decode cX3_init 5 = .ok (.aload_n 1, 1) := by decide +kernel
theorem dX3_init_6 : decode cX3_init 6 = .ok (.putfield 9, 3) := by decide +kernel
theorem dX3_init_9 : decode cX3_init 9 = .ok (.aload_n 0, 1) := by decide +kernel
theorem dX3_init_10 : decode cX3_init 10 = .ok (.bipush 64, 2) := by decide +kernel
theorem dX3_init_12 : decode cX3_init 12 = .ok (.anewarray 15, 3) := by decide +kernel
theorem dX3_init_15 : decode cX3_init 15 = .ok (.putfield 17, 3) := by decide +kernel
theorem dX3_init_18 : decode cX3_init 18 = .ok (.iconst 0, 1) := by decide +kernel
theorem dX3_init_19 : decode cX3_init 19 = .ok (.istore_n 2, 1) := by decide +kernel
theorem dX3_init_20 : decode cX3_init 20 = .ok (.iload_n 2, 1) := by decide +kernel
theorem dX3_init_21 : decode cX3_init 21 = .ok (.bipush 64, 2) := by decide +kernel
theorem dX3_init_23 : decode cX3_init 23 = .ok (.if_icmp .ge 24, 3) := by decide +kernel
theorem dX3_init_26 : decode cX3_init 26 = .ok (.aload_n 0, 1) := by decide +kernel
theorem dX3_init_27 : decode cX3_init 27 = .ok (.getfield 17, 3) := by decide +kernel
theorem dX3_init_30 : decode cX3_init 30 = .ok (.iload_n 2, 1) := by decide +kernel
theorem dX3_init_31 : decode cX3_init 31 = .ok (.new 15, 3) := by decide +kernel
theorem dX3_init_34 : decode cX3_init 34 = .ok (.dup, 1) := by decide +kernel
theorem dX3_init_35 : decode cX3_init 35 = .ok (.bipush 8, 2) := by decide +kernel
theorem dX3_init_37 : decode cX3_init 37 = .ok (.invokespecial 21, 3) := by decide +kernel
theorem dX3_init_40 : decode cX3_init 40 = .ok (.aastore, 1) := by decide +kernel
theorem dX3_init_41 : decode cX3_init 41 = .ok (.iinc 2 1, 3) := by decide +kernel
theorem dX3_init_44 : decode cX3_init 44 = .ok (.goto (-24), 3) := by decide +kernel
theorem dX3_init_47 : decode cX3_init 47 = .ok (.aload_n 0, 1) := by decide +kernel
theorem dX3_init_48 : decode cX3_init 48 = .ok (.bipush 64, 2) := by decide +kernel
theorem dX3_init_50 : decode cX3_init 50 = .ok (.newarray .long, 2) := by decide +kernel
theorem dX3_init_52 : decode cX3_init 52 = .ok (.putfield 24, 3) := by decide +kernel
theorem dX3_init_55 : decode cX3_init 55 = .ok (.aload_n 0, 1) := by decide +kernel
theorem dX3_init_56 : decode cX3_init 56 = .ok (.new 15, 3) := by decide +kernel
theorem dX3_init_59 : decode cX3_init 59 = .ok (.dup, 1) := by decide +kernel
theorem dX3_init_60 : decode cX3_init 60 = .ok (.sipush 272, 3) := by decide +kernel
theorem dX3_init_63 : decode cX3_init 63 = .ok (.invokespecial 21, 3) := by decide +kernel
theorem dX3_init_66 : decode cX3_init 66 = .ok (.putfield 28, 3) := by decide +kernel
theorem dX3_init_69 : decode cX3_init 69 = .ok (.return_, 1) := by decide +kernel
theorem dX3_find_0 : decode cX3_find 0 = .ok (.aload_n 0, 1) := by decide +kernel
theorem dX3_find_1 : decode cX3_find 1 = .ok (.getfield 17, 3) := by decide +kernel
theorem dX3_find_4 : decode cX3_find 4 = .ok (.lload_n 1, 1) := by decide +kernel
theorem dX3_find_5 : decode cX3_find 5 = .ok (.invokestatic 32, 3) := by decide +kernel
theorem dX3_find_8 : decode cX3_find 8 = .ok (.invokestatic 36, 3) := by decide +kernel
theorem dX3_find_11 : decode cX3_find 11 = .ok (.aaload, 1) := by decide +kernel
theorem dX3_find_12 : decode cX3_find 12 = .ok (.astore_n 3, 1) := by decide +kernel
theorem dX3_find_13 : decode cX3_find 13 = .ok (.aload_n 3, 1) := by decide +kernel
theorem dX3_find_14 : decode cX3_find 14 = .ok (.aload_n 3, 1) := by decide +kernel
theorem dX3_find_15 : decode cX3_find 15 = .ok (.lload_n 1, 1) := by decide +kernel
theorem dX3_find_16 : decode cX3_find 16 = .ok (.invokevirtual 40, 3) := by decide +kernel
theorem dX3_find_19 : decode cX3_find 19 = .ok (.invokevirtual 43, 3) := by decide +kernel
theorem dX3_find_22 : decode cX3_find 22 = .ok (.areturn, 1) := by decide +kernel
theorem dX3_read_0 : decode cX3_read 0 = .ok (.lload_n 1, 1) := by decide +kernel
theorem dX3_read_1 : decode cX3_read 1 = .ok (.invokestatic 32, 3) := by decide +kernel
theorem dX3_read_4 : decode cX3_read 4 = .ok (.lstore_n 3, 1) := by decide +kernel
theorem dX3_read_5 : decode cX3_read 5 = .ok (.lload_n 3, 1) := by decide +kernel
theorem dX3_read_6 : decode cX3_read 6 = .ok (.invokestatic 36, 3) := by decide +kernel
theorem dX3_read_9 : decode cX3_read 9 = .ok (.istore 5, 2) := by decide +kernel
theorem dX3_read_11 : decode cX3_read 11 = .ok (.lload_n 3, 1) := by decide +kernel
theorem dX3_read_12 : decode cX3_read 12 = .ok (.invokestatic 47, 3) := by decide +kernel
theorem dX3_read_15 : decode cX3_read 15 = .ok (.lstore 6, 2) := by decide +kernel
theorem dX3_read_17 : decode cX3_read 17 = .ok (.aload_n 0, 1) := by decide +kernel
theorem dX3_read_18 : decode cX3_read 18 = .ok (.getfield 24, 3) := by decide +kernel
theorem dX3_read_21 : decode cX3_read 21 = .ok (.iload 5, 2) := by decide +kernel
theorem dX3_read_23 : decode cX3_read 23 = .ok (.laload, 1) := by decide +kernel
theorem dX3_read_24 : decode cX3_read 24 = .ok (.lload 6, 2) := by decide +kernel
theorem dX3_read_26 : decode cX3_read 26 = .ok (.land, 1) := by decide +kernel
theorem dX3_read_27 : decode cX3_read 27 = .ok (.lload 6, 2) := by decide +kernel
theorem dX3_read_29 : decode cX3_read 29 = .ok (.lcmp, 1) := by decide +kernel
theorem dX3_read_30 : decode cX3_read 30 = .ok (.ifCond .eq 5, 3) := by decide +kernel
theorem dX3_read_33 : decode cX3_read 33 = .ok (.aconst_null, 1) := by decide +kernel
theorem dX3_read_34 : decode cX3_read 34 = .ok (.areturn, 1) := by decide +kernel
theorem dX3_read_35 : decode cX3_read 35 = .ok (.aload_n 0, 1) := by decide +kernel
theorem dX3_read_36 : decode cX3_read 36 = .ok (.getfield 9, 3) := by decide +kernel
theorem dX3_read_39 : decode cX3_read 39 = .ok (.bipush 11, 2) := by decide +kernel
theorem dX3_read_41 : decode cX3_read 41 = .ok (.dup2, 1) := by decide +kernel
theorem dX3_read_42 : decode cX3_read 42 = .ok (.iaload, 1) := by decide +kernel
theorem dX3_read_43 : decode cX3_read 43 = .ok (.iconst 1, 1) := by decide +kernel
theorem dX3_read_44 : decode cX3_read 44 = .ok (.iadd, 1) := by decide +kernel
theorem dX3_read_45 : decode cX3_read 45 = .ok (.iastore, 1) := by decide +kernel
theorem dX3_read_46 : decode cX3_read 46 = .ok (.aload_n 0, 1) := by decide +kernel
theorem dX3_read_47 : decode cX3_read 47 = .ok (.getfield 17, 3) := by decide +kernel
theorem dX3_read_50 : decode cX3_read 50 = .ok (.iload 5, 2) := by decide +kernel
theorem dX3_read_52 : decode cX3_read 52 = .ok (.aaload, 1) := by decide +kernel
theorem dX3_read_53 : decode cX3_read 53 = .ok (.aload_n 0, 1) := by decide +kernel
theorem dX3_read_54 : decode cX3_read 54 = .ok (.getfield 17, 3) := by decide +kernel
theorem dX3_read_57 : decode cX3_read 57 = .ok (.iload 5, 2) := by decide +kernel
theorem dX3_read_59 : decode cX3_read 59 = .ok (.aaload, 1) := by decide +kernel
theorem dX3_read_60 : decode cX3_read 60 = .ok (.lload_n 1, 1) := by decide +kernel
theorem dX3_read_61 : decode cX3_read 61 = .ok (.invokevirtual 40, 3) := by decide +kernel
theorem dX3_read_64 : decode cX3_read 64 = .ok (.invokevirtual 43, 3) := by decide +kernel
theorem dX3_read_67 : decode cX3_read 67 = .ok (.areturn, 1) := by decide +kernel
theorem dX3_takeOut_0 : decode cX3_takeOut 0 = .ok (.aload_n 0, 1) := by decide +kernel
theorem dX3_takeOut_1 : decode cX3_takeOut 1 = .ok (.lload_n 1, 1) := by decide +kernel
theorem dX3_takeOut_2 : decode cX3_takeOut 2 = .ok (.invokevirtual 50, 3) := by decide +kernel
theorem dX3_takeOut_5 : decode cX3_takeOut 5 = .ok (.astore 4, 2) := by decide +kernel
theorem dX3_takeOut_7 : decode cX3_takeOut 7 = .ok (.aload 4, 2) := by decide +kernel
theorem dX3_takeOut_9 : decode cX3_takeOut 9 = .ok (.ifnonnull 5, 3) := by decide +kernel
theorem dX3_takeOut_12 : decode cX3_takeOut 12 = .ok (.iconst 0, 1) := by decide +kernel
theorem dX3_takeOut_13 : decode cX3_takeOut 13 = .ok (.ireturn, 1) := by decide +kernel
theorem dX3_takeOut_14 : decode cX3_takeOut 14 = .ok (.aload_n 0, 1) := by decide +kernel
theorem dX3_takeOut_15 : decode cX3_takeOut 15 = .ok (.getfield 17, 3) := by decide +kernel
theorem dX3_takeOut_18 : decode cX3_takeOut 18 = .ok (.aload 4, 2) := by decide +kernel
theorem dX3_takeOut_20 : decode cX3_takeOut 20 = .ok (.getfield 54, 3) := by decide +kernel
theorem dX3_takeOut_23 : decode cX3_takeOut 23 = .ok (.aaload, 1) := by decide +kernel
theorem dX3_takeOut_24 : decode cX3_takeOut 24 = .ok (.astore 5, 2) := by decide +kernel
theorem dX3_takeOut_26 : decode cX3_takeOut 26 = .ok (.aload 5, 2) := by decide +kernel
theorem dX3_takeOut_28 : decode cX3_takeOut 28 = .ok (.aload 5, 2) := by decide +kernel
theorem dX3_takeOut_30 : decode cX3_takeOut 30 = .ok (.lload_n 1, 1) := by decide +kernel
theorem dX3_takeOut_31 : decode cX3_takeOut 31 = .ok (.invokevirtual 40, 3) := by decide +kernel
theorem dX3_takeOut_34 : decode cX3_takeOut 34 = .ok (.invokevirtual 60, 3) := by decide +kernel
theorem dX3_takeOut_37 : decode cX3_takeOut 37 = .ok (.aload_n 0, 1) := by decide +kernel
theorem dX3_takeOut_38 : decode cX3_takeOut 38 = .ok (.dup, 1) := by decide +kernel
theorem dX3_takeOut_39 : decode cX3_takeOut 39 = .ok (.getfield 63, 3) := by decide +kernel
theorem dX3_takeOut_42 : decode cX3_takeOut 42 = .ok (.iconst 1, 1) := by decide +kernel
theorem dX3_takeOut_43 : decode cX3_takeOut 43 = .ok (.isub, 1) := by decide +kernel
theorem dX3_takeOut_44 : decode cX3_takeOut 44 = .ok (.putfield 63, 3) := by decide +kernel
theorem dX3_takeOut_47 : decode cX3_takeOut 47 = .ok (.aload_n 0, 1) := by decide +kernel
theorem dX3_takeOut_48 : decode cX3_takeOut 48 = .ok (.getfield 24, 3) := by decide +kernel
theorem dX3_takeOut_51 : decode cX3_takeOut 51 = .ok (.aload 4, 2) := by decide +kernel
theorem dX3_takeOut_53 : decode cX3_takeOut 53 = .ok (.getfield 54, 3) := by decide +kernel
theorem dX3_takeOut_56 : decode cX3_takeOut 56 = .ok (.aload 5, 2) := by decide +kernel
theorem dX3_takeOut_58 : decode cX3_takeOut 58 = .ok (.invokevirtual 66, 3) := by decide +kernel
theorem dX3_takeOut_61 : decode cX3_takeOut 61 = .ok (.lastore, 1) := by decide +kernel
theorem dX3_takeOut_62 : decode cX3_takeOut 62 = .ok (.aload_n 0, 1) := by decide +kernel
theorem dX3_takeOut_63 : decode cX3_takeOut 63 = .ok (.getfield 9, 3) := by decide +kernel
theorem dX3_takeOut_66 : decode cX3_takeOut 66 = .ok (.iload_n 3, 1) := by decide +kernel
theorem dX3_takeOut_67 : decode cX3_takeOut 67 = .ok (.dup2, 1) := by decide +kernel
theorem dX3_takeOut_68 : decode cX3_takeOut 68 = .ok (.iaload, 1) := by decide +kernel
theorem dX3_takeOut_69 : decode cX3_takeOut 69 = .ok (.iconst 1, 1) := by decide +kernel
theorem dX3_takeOut_70 : decode cX3_takeOut 70 = .ok (.iadd, 1) := by decide +kernel
theorem dX3_takeOut_71 : decode cX3_takeOut 71 = .ok (.iastore, 1) := by decide +kernel
theorem dX3_takeOut_72 : decode cX3_takeOut 72 = .ok (.iconst 1, 1) := by decide +kernel
theorem dX3_takeOut_73 : decode cX3_takeOut 73 = .ok (.ireturn, 1) := by decide +kernel
theorem dX3_moveIn_0 : decode cX3_moveIn 0 = .ok (.aload_n 0, 1) := by decide +kernel
theorem dX3_moveIn_1 : decode cX3_moveIn 1 = .ok (.getfield 17, 3) := by decide +kernel
theorem dX3_moveIn_4 : decode cX3_moveIn 4 = .ok (.iload_n 1, 1) := by decide +kernel
theorem dX3_moveIn_5 : decode cX3_moveIn 5 = .ok (.aaload, 1) := by decide +kernel
theorem dX3_moveIn_6 : decode cX3_moveIn 6 = .ok (.astore_n 3, 1) := by decide +kernel
theorem dX3_moveIn_7 : decode cX3_moveIn 7 = .ok (.aload_n 0, 1) := by decide +kernel
theorem dX3_moveIn_8 : decode cX3_moveIn 8 = .ok (.getfield 9, 3) := by decide +kernel
theorem dX3_moveIn_11 : decode cX3_moveIn 11 = .ok (.bipush 11, 2) := by decide +kernel
theorem dX3_moveIn_13 : decode cX3_moveIn 13 = .ok (.dup2, 1) := by decide +kernel
theorem dX3_moveIn_14 : decode cX3_moveIn 14 = .ok (.iaload, 1) := by decide +kernel
theorem dX3_moveIn_15 : decode cX3_moveIn 15 = .ok (.iconst 1, 1) := by decide +kernel
theorem dX3_moveIn_16 : decode cX3_moveIn 16 = .ok (.iadd, 1) := by decide +kernel
theorem dX3_moveIn_17 : decode cX3_moveIn 17 = .ok (.iastore, 1) := by decide +kernel
theorem dX3_moveIn_18 : decode cX3_moveIn 18 = .ok (.aload_n 0, 1) := by decide +kernel
theorem dX3_moveIn_19 : decode cX3_moveIn 19 = .ok (.getfield 9, 3) := by decide +kernel
theorem dX3_moveIn_22 : decode cX3_moveIn 22 = .ok (.iconst 5, 1) := by decide +kernel
theorem dX3_moveIn_23 : decode cX3_moveIn 23 = .ok (.dup2, 1) := by decide +kernel
theorem dX3_moveIn_24 : decode cX3_moveIn 24 = .ok (.iaload, 1) := by decide +kernel
theorem dX3_moveIn_25 : decode cX3_moveIn 25 = .ok (.aload_n 2, 1) := by decide +kernel
theorem dX3_moveIn_26 : decode cX3_moveIn 26 = .ok (.getfield 70, 3) := by decide +kernel
theorem dX3_moveIn_29 : decode cX3_moveIn 29 = .ok (.iadd, 1) := by decide +kernel
theorem dX3_moveIn_30 : decode cX3_moveIn 30 = .ok (.iastore, 1) := by decide +kernel
theorem dX3_moveIn_31 : decode cX3_moveIn 31 = .ok (.aload_n 0, 1) := by decide +kernel
theorem dX3_moveIn_32 : decode cX3_moveIn 32 = .ok (.aload_n 3, 1) := by decide +kernel
theorem dX3_moveIn_33 : decode cX3_moveIn 33 = .ok (.aload_n 2, 1) := by decide +kernel
theorem dX3_moveIn_34 : decode cX3_moveIn 34 = .ok (.invokevirtual 73, 3) := by decide +kernel
theorem dX3_moveIn_37 : decode cX3_moveIn 37 = .ok (.aload_n 0, 1) := by decide +kernel
theorem dX3_moveIn_38 : decode cX3_moveIn 38 = .ok (.getfield 28, 3) := by decide +kernel
theorem dX3_moveIn_41 : decode cX3_moveIn 41 = .ok (.getfield 70, 3) := by decide +kernel
theorem dX3_moveIn_44 : decode cX3_moveIn 44 = .ok (.istore 4, 2) := by decide +kernel
theorem dX3_moveIn_46 : decode cX3_moveIn 46 = .ok (.aload_n 0, 1) := by decide +kernel
theorem dX3_moveIn_47 : decode cX3_moveIn 47 = .ok (.getfield 28, 3) := by decide +kernel
theorem dX3_moveIn_50 : decode cX3_moveIn 50 = .ok (.aload_n 2, 1) := by decide +kernel
theorem dX3_moveIn_51 : decode cX3_moveIn 51 = .ok (.invokevirtual 77, 3) := by decide +kernel
theorem dX3_moveIn_54 : decode cX3_moveIn 54 = .ok (.aload_n 0, 1) := by decide +kernel
theorem dX3_moveIn_55 : decode cX3_moveIn 55 = .ok (.getfield 28, 3) := by decide +kernel
theorem dX3_moveIn_58 : decode cX3_moveIn 58 = .ok (.invokevirtual 81, 3) := by decide +kernel
theorem dX3_moveIn_61 : decode cX3_moveIn 61 = .ok (.bipush 32, 2) := by decide +kernel
theorem dX3_moveIn_63 : decode cX3_moveIn 63 = .ok (.isub, 1) := by decide +kernel
theorem dX3_moveIn_64 : decode cX3_moveIn 64 = .ok (.istore 5, 2) := by decide +kernel
theorem dX3_moveIn_66 : decode cX3_moveIn 66 = .ok (.aload_n 0, 1) := by decide +kernel
theorem dX3_moveIn_67 : decode cX3_moveIn 67 = .ok (.iconst 0, 1) := by decide +kernel
theorem dX3_moveIn_68 : decode cX3_moveIn 68 = .ok (.iload 4, 2) := by decide +kernel
theorem dX3_moveIn_70 : decode cX3_moveIn 70 = .ok (.iconst 1, 1) := by decide +kernel
theorem dX3_moveIn_71 : decode cX3_moveIn 71 = .ok (.iload 5, 2) := by decide +kernel
theorem dX3_moveIn_73 : decode cX3_moveIn 73 = .ok (.bipush 6, 2) := by decide +kernel
theorem dX3_moveIn_75 : decode cX3_moveIn 75 = .ok (.invokevirtual 85, 3) := by decide +kernel
theorem dX3_moveIn_78 : decode cX3_moveIn 78 = .ok (.istore 5, 2) := by decide +kernel
theorem dX3_moveIn_80 : decode cX3_moveIn 80 = .ok (.aload_n 0, 1) := by decide +kernel
theorem dX3_moveIn_81 : decode cX3_moveIn 81 = .ok (.iconst 0, 1) := by decide +kernel
theorem dX3_moveIn_82 : decode cX3_moveIn 82 = .ok (.iload 4, 2) := by decide +kernel
theorem dX3_moveIn_84 : decode cX3_moveIn 84 = .ok (.iconst 0, 1) := by decide +kernel
theorem dX3_moveIn_85 : decode cX3_moveIn 85 = .ok (.iload 5, 2) := by decide +kernel
theorem dX3_moveIn_87 : decode cX3_moveIn 87 = .ok (.bipush 7, 2) := by decide +kernel
theorem dX3_moveIn_89 : decode cX3_moveIn 89 = .ok (.invokevirtual 85, 3) := by decide +kernel
theorem dX3_moveIn_92 : decode cX3_moveIn 92 = .ok (.istore 5, 2) := by decide +kernel
theorem dX3_moveIn_94 : decode cX3_moveIn 94 = .ok (.aload_n 0, 1) := by decide +kernel
theorem dX3_moveIn_95 : decode cX3_moveIn 95 = .ok (.iload 4, 2) := by decide +kernel
theorem dX3_moveIn_97 : decode cX3_moveIn 97 = .ok (.aload_n 0, 1) := by decide +kernel
theorem dX3_moveIn_98 : decode cX3_moveIn 98 = .ok (.getfield 28, 3) := by decide +kernel
theorem dX3_moveIn_101 : decode cX3_moveIn 101 = .ok (.getfield 70, 3) := by decide +kernel
theorem dX3_moveIn_104 : decode cX3_moveIn 104 = .ok (.iconst 0, 1) := by decide +kernel
theorem dX3_moveIn_105 : decode cX3_moveIn 105 = .ok (.iload 5, 2) := by decide +kernel
theorem dX3_moveIn_107 : decode cX3_moveIn 107 = .ok (.bipush 8, 2) := by decide +kernel
theorem dX3_moveIn_109 : decode cX3_moveIn 109 = .ok (.invokevirtual 85, 3) := by decide +kernel
theorem dX3_moveIn_112 : decode cX3_moveIn 112 = .ok (.pop, 1) := by decide +kernel
theorem dX3_moveIn_113 : decode cX3_moveIn 113 = .ok (.aload_n 0, 1) := by decide +kernel
theorem dX3_moveIn_114 : decode cX3_moveIn 114 = .ok (.dup, 1) := by decide +kernel
theorem dX3_moveIn_115 : decode cX3_moveIn 115 = .ok (.getfield 63, 3) := by decide +kernel
theorem dX3_moveIn_118 : decode cX3_moveIn 118 = .ok (.aload_n 3, 1) := by decide +kernel
theorem dX3_moveIn_119 : decode cX3_moveIn 119 = .ok (.getfield 70, 3) := by decide +kernel
theorem dX3_moveIn_122 : decode cX3_moveIn 122 = .ok (.isub, 1) := by decide +kernel
theorem dX3_moveIn_123 : decode cX3_moveIn 123 = .ok (.putfield 63, 3) := by decide +kernel
theorem dX3_moveIn_126 : decode cX3_moveIn 126 = .ok (.aload_n 0, 1) := by decide +kernel
theorem dX3_moveIn_127 : decode cX3_moveIn 127 = .ok (.aload_n 3, 1) := by decide +kernel
theorem dX3_moveIn_128 : decode cX3_moveIn 128 = .ok (.invokevirtual 89, 3) := by decide +kernel
theorem dX3_moveIn_131 : decode cX3_moveIn 131 = .ok (.aload_n 0, 1) := by decide +kernel
theorem dX3_moveIn_132 : decode cX3_moveIn 132 = .ok (.dup, 1) := by decide +kernel
theorem dX3_moveIn_133 : decode cX3_moveIn 133 = .ok (.getfield 63, 3) := by decide +kernel
theorem dX3_moveIn_136 : decode cX3_moveIn 136 = .ok (.aload_n 3, 1) := by decide +kernel
theorem dX3_moveIn_137 : decode cX3_moveIn 137 = .ok (.getfield 70, 3) := by decide +kernel
theorem dX3_moveIn_140 : decode cX3_moveIn 140 = .ok (.iadd, 1) := by decide +kernel
theorem dX3_moveIn_141 : decode cX3_moveIn 141 = .ok (.putfield 63, 3) := by decide +kernel
theorem dX3_moveIn_144 : decode cX3_moveIn 144 = .ok (.aload_n 0, 1) := by decide +kernel
theorem dX3_moveIn_145 : decode cX3_moveIn 145 = .ok (.getfield 24, 3) := by decide +kernel
theorem dX3_moveIn_148 : decode cX3_moveIn 148 = .ok (.iload_n 1, 1) := by decide +kernel
theorem dX3_moveIn_149 : decode cX3_moveIn 149 = .ok (.aload_n 3, 1) := by decide +kernel
theorem dX3_moveIn_150 : decode cX3_moveIn 150 = .ok (.invokevirtual 66, 3) := by decide +kernel
theorem dX3_moveIn_153 : decode cX3_moveIn 153 = .ok (.lastore, 1) := by decide +kernel
theorem dX3_moveIn_154 : decode cX3_moveIn 154 = .ok (.aload_n 0, 1) := by decide +kernel
theorem dX3_moveIn_155 : decode cX3_moveIn 155 = .ok (.getfield 9, 3) := by decide +kernel
theorem dX3_moveIn_158 : decode cX3_moveIn 158 = .ok (.iconst 2, 1) := by decide +kernel
theorem dX3_moveIn_159 : decode cX3_moveIn 159 = .ok (.dup2, 1) := by decide +kernel
theorem dX3_moveIn_160 : decode cX3_moveIn 160 = .ok (.iaload, 1) := by decide +kernel
theorem dX3_moveIn_161 : decode cX3_moveIn 161 = .ok (.iconst 1, 1) := by decide +kernel
theorem dX3_moveIn_162 : decode cX3_moveIn 162 = .ok (.iadd, 1) := by decide +kernel
theorem dX3_moveIn_163 : decode cX3_moveIn 163 = .ok (.iastore, 1) := by decide +kernel
theorem dX3_moveIn_164 : decode cX3_moveIn 164 = .ok (.return_, 1) := by decide +kernel
theorem dX3_layOutOthers_0 : decode cX3_layOutOthers 0 = .ok (.aload_n 0, 1) := by decide +kernel
theorem dX3_layOutOthers_1 : decode cX3_layOutOthers 1 = .ok (.getfield 28, 3) := by decide +kernel
theorem dX3_layOutOthers_4 : decode cX3_layOutOthers 4 = .ok (.invokevirtual 92, 3) := by decide +kernel
theorem dX3_layOutOthers_7 : decode cX3_layOutOthers 7 = .ok (.iconst 0, 1) := by decide +kernel
theorem dX3_layOutOthers_8 : decode cX3_layOutOthers 8 = .ok (.istore_n 3, 1) := by decide +kernel
theorem dX3_layOutOthers_9 : decode cX3_layOutOthers 9 = .ok (.iload_n 3, 1) := by decide +kernel
theorem dX3_layOutOthers_10 : decode cX3_layOutOthers 10 = .ok (.aload_n 1, 1) := by decide +kernel
theorem dX3_layOutOthers_11 : decode cX3_layOutOthers 11 = .ok (.getfield 70, 3) := by decide +kernel
theorem dX3_layOutOthers_14 : decode cX3_layOutOthers 14 = .ok (.if_icmp .ge 42, 3) := by decide +kernel
theorem dX3_layOutOthers_17 : decode cX3_layOutOthers 17 = .ok (.aload_n 1, 1) := by decide +kernel
theorem dX3_layOutOthers_18 : decode cX3_layOutOthers 18 = .ok (.iload_n 3, 1) := by decide +kernel
theorem dX3_layOutOthers_19 : decode cX3_layOutOthers 19 = .ok (.invokevirtual 43, 3) := by decide +kernel
theorem dX3_layOutOthers_22 : decode cX3_layOutOthers 22 = .ok (.astore 4, 2) := by decide +kernel
theorem dX3_layOutOthers_24 : decode cX3_layOutOthers 24 = .ok (.aload 4, 2) := by decide +kernel
theorem dX3_layOutOthers_26 : decode cX3_layOutOthers 26 = .ok (.ifnull 24, 3) := by decide +kernel
theorem dX3_layOutOthers_29 : decode cX3_layOutOthers 29 = .ok (.aload_n 2, 1) := by decide +kernel
theorem dX3_layOutOthers_30 : decode cX3_layOutOthers 30 = .ok (.aload 4, 2) := by decide +kernel
theorem dX3_layOutOthers_32 : decode cX3_layOutOthers 32 = .ok (.getfield 95, 3) := by decide +kernel
theorem dX3_layOutOthers_35 : decode cX3_layOutOthers 35 = .ok (.invokevirtual 40, 3) := by decide +kernel
theorem dX3_layOutOthers_38 : decode cX3_layOutOthers 38 = .ok (.ifCond .ge 12, 3) := by decide +kernel
theorem dX3_layOutOthers_41 : decode cX3_layOutOthers 41 = .ok (.aload_n 0, 1) := by decide +kernel
theorem dX3_layOutOthers_42 : decode cX3_layOutOthers 42 = .ok (.getfield 28, 3) := by decide +kernel
theorem dX3_layOutOthers_45 : decode cX3_layOutOthers 45 = .ok (.aload 4, 2) := by decide +kernel
theorem dX3_layOutOthers_47 : decode cX3_layOutOthers 47 = .ok (.invokevirtual 99, 3) := by decide +kernel
theorem dX3_layOutOthers_50 : decode cX3_layOutOthers 50 = .ok (.iinc 3 1, 3) := by decide +kernel
theorem dX3_layOutOthers_53 : decode cX3_layOutOthers 53 = .ok (.goto (-44), 3) := by decide +kernel
theorem dX3_layOutOthers_56 : decode cX3_layOutOthers 56 = .ok (.return_, 1) := by decide +kernel
theorem dX3_dropPass_0 : decode cX3_dropPass 0 = .ok (.iload 4, 2) := by decide +kernel
theorem dX3_dropPass_2 : decode cX3_dropPass 2 = .ok (.istore 6, 2) := by decide +kernel
theorem dX3_dropPass_4 : decode cX3_dropPass 4 = .ok (.iload_n 1, 1) := by decide +kernel
theorem dX3_dropPass_5 : decode cX3_dropPass 5 = .ok (.istore 7, 2) := by decide +kernel
theorem dX3_dropPass_7 : decode cX3_dropPass 7 = .ok (.iload 7, 2) := by decide +kernel
theorem dX3_dropPass_9 : decode cX3_dropPass 9 = .ok (.iload_n 2, 1) := by decide +kernel
theorem dX3_dropPass_10 : decode cX3_dropPass 10 = .ok (.if_icmp .ge 72, 3) := by decide +kernel
theorem dX3_dropPass_13 : decode cX3_dropPass 13 = .ok (.iload 6, 2) := by decide +kernel
theorem dX3_dropPass_15 : decode cX3_dropPass 15 = .ok (.ifCond .le 67, 3) := by decide +kernel
theorem dX3_dropPass_18 : decode cX3_dropPass 18 = .ok (.aload_n 0, 1) := by decide +kernel
theorem dX3_dropPass_19 : decode cX3_dropPass 19 = .ok (.getfield 28, 3) := by decide +kernel
theorem dX3_dropPass_22 : decode cX3_dropPass 22 = .ok (.iload 7, 2) := by decide +kernel
theorem dX3_dropPass_24 : decode cX3_dropPass 24 = .ok (.invokevirtual 43, 3) := by decide +kernel
theorem dX3_dropPass_27 : decode cX3_dropPass 27 = .ok (.astore 8, 2) := by decide +kernel
theorem dX3_dropPass_29 : decode cX3_dropPass 29 = .ok (.aload 8, 2) := by decide +kernel
theorem dX3_dropPass_31 : decode cX3_dropPass 31 = .ok (.ifnull 45, 3) := by decide +kernel
theorem dX3_dropPass_34 : decode cX3_dropPass 34 = .ok (.iload_n 3, 1) := by decide +kernel
theorem dX3_dropPass_35 : decode cX3_dropPass 35 = .ok (.ifCond .eq 11, 3) := by decide +kernel
theorem dX3_dropPass_38 : decode cX3_dropPass 38 = .ok (.aload 8, 2) := by decide +kernel
theorem dX3_dropPass_40 : decode cX3_dropPass 40 = .ok (.getfield 103, 3) := by decide +kernel
theorem dX3_dropPass_43 : decode cX3_dropPass 43 = .ok (.ifCond .ne 33, 3) := by decide +kernel
theorem dX3_dropPass_46 : decode cX3_dropPass 46 = .ok (.iload 6, 2) := by decide +kernel
theorem dX3_dropPass_48 : decode cX3_dropPass 48 = .ok (.aload 8, 2) := by decide +kernel
theorem dX3_dropPass_50 : decode cX3_dropPass 50 = .ok (.getfield 107, 3) := by decide +kernel
theorem dX3_dropPass_53 : decode cX3_dropPass 53 = .ok (.isub, 1) := by decide +kernel
theorem dX3_dropPass_54 : decode cX3_dropPass 54 = .ok (.istore 6, 2) := by decide +kernel
theorem dX3_dropPass_56 : decode cX3_dropPass 56 = .ok (.aload_n 0, 1) := by decide +kernel
theorem dX3_dropPass_57 : decode cX3_dropPass 57 = .ok (.getfield 28, 3) := by decide +kernel
theorem dX3_dropPass_60 : decode cX3_dropPass 60 = .ok (.iload 7, 2) := by decide +kernel
theorem dX3_dropPass_62 : decode cX3_dropPass 62 = .ok (.invokevirtual 109, 3) := by decide +kernel
theorem dX3_dropPass_65 : decode cX3_dropPass 65 = .ok (.aload_n 0, 1) := by decide +kernel
theorem dX3_dropPass_66 : decode cX3_dropPass 66 = .ok (.getfield 9, 3) := by decide +kernel
theorem dX3_dropPass_69 : decode cX3_dropPass 69 = .ok (.iload 5, 2) := by decide +kernel
theorem dX3_dropPass_71 : decode cX3_dropPass 71 = .ok (.dup2, 1) := by decide +kernel
theorem dX3_dropPass_72 : decode cX3_dropPass 72 = .ok (.iaload, 1) := by decide +kernel
theorem dX3_dropPass_73 : decode cX3_dropPass 73 = .ok (.iconst 1, 1) := by decide +kernel
theorem dX3_dropPass_74 : decode cX3_dropPass 74 = .ok (.iadd, 1) := by decide +kernel
theorem dX3_dropPass_75 : decode cX3_dropPass 75 = .ok (.iastore, 1) := by decide +kernel
theorem dX3_dropPass_76 : decode cX3_dropPass 76 = .ok (.iinc 7 1, 3) := by decide +kernel
theorem dX3_dropPass_79 : decode cX3_dropPass 79 = .ok (.goto (-72), 3) := by decide +kernel
theorem dX3_dropPass_82 : decode cX3_dropPass 82 = .ok (.iload 6, 2) := by decide +kernel
theorem dX3_dropPass_84 : decode cX3_dropPass 84 = .ok (.ireturn, 1) := by decide +kernel
theorem dX3_refill_0 : decode cX3_refill 0 = .ok (.aload_n 1, 1) := by decide +kernel
theorem dX3_refill_1 : decode cX3_refill 1 = .ok (.invokevirtual 92, 3) := by decide +kernel
theorem dX3_refill_4 : decode cX3_refill 4 = .ok (.iconst 0, 1) := by decide +kernel
theorem dX3_refill_5 : decode cX3_refill 5 = .ok (.istore_n 2, 1) := by decide +kernel
theorem dX3_refill_6 : decode cX3_refill 6 = .ok (.iload_n 2, 1) := by decide +kernel
theorem dX3_refill_7 : decode cX3_refill 7 = .ok (.aload_n 0, 1) := by decide +kernel
theorem dX3_refill_8 : decode cX3_refill 8 = .ok (.getfield 28, 3) := by decide +kernel
theorem dX3_refill_11 : decode cX3_refill 11 = .ok (.getfield 70, 3) := by decide +kernel
theorem dX3_refill_14 : decode cX3_refill 14 = .ok (.if_icmp .ge 32, 3) := by decide +kernel
theorem dX3_refill_17 : decode cX3_refill 17 = .ok (.aload_n 0, 1) := by decide +kernel
theorem dX3_refill_18 : decode cX3_refill 18 = .ok (.getfield 28, 3) := by decide +kernel
theorem dX3_refill_21 : decode cX3_refill 21 = .ok (.iload_n 2, 1) := by decide +kernel
theorem dX3_refill_22 : decode cX3_refill 22 = .ok (.invokevirtual 43, 3) := by decide +kernel
theorem dX3_refill_25 : decode cX3_refill 25 = .ok (.astore_n 3, 1) := by decide +kernel
theorem dX3_refill_26 : decode cX3_refill 26 = .ok (.aload_n 3, 1) := by decide +kernel
theorem dX3_refill_27 : decode cX3_refill 27 = .ok (.ifnull 13, 3) := by decide +kernel
theorem dX3_refill_30 : decode cX3_refill 30 = .ok (.aload_n 3, 1) := by decide +kernel
theorem dX3_refill_31 : decode cX3_refill 31 = .ok (.iconst 0, 1) := by decide +kernel
theorem dX3_refill_32 : decode cX3_refill 32 = .ok (.putfield 103, 3) := by decide +kernel
theorem dX3_refill_35 : decode cX3_refill 35 = .ok (.aload_n 1, 1) := by decide +kernel
theorem dX3_refill_36 : decode cX3_refill 36 = .ok (.aload_n 3, 1) := by decide +kernel
theorem dX3_refill_37 : decode cX3_refill 37 = .ok (.invokevirtual 99, 3) := by decide +kernel
theorem dX3_refill_40 : decode cX3_refill 40 = .ok (.iinc 2 1, 3) := by decide +kernel
theorem dX3_refill_43 : decode cX3_refill 43 = .ok (.goto (-37), 3) := by decide +kernel
theorem dX3_refill_46 : decode cX3_refill 46 = .ok (.return_, 1) := by decide +kernel
theorem dX3_wipe_0 : decode cX3_wipe 0 = .ok (.iconst 0, 1) := by decide +kernel
theorem dX3_wipe_1 : decode cX3_wipe 1 = .ok (.istore_n 1, 1) := by decide +kernel
theorem dX3_wipe_2 : decode cX3_wipe 2 = .ok (.iload_n 1, 1) := by decide +kernel
theorem dX3_wipe_3 : decode cX3_wipe 3 = .ok (.bipush 64, 2) := by decide +kernel
theorem dX3_wipe_5 : decode cX3_wipe 5 = .ok (.if_icmp .ge 25, 3) := by decide +kernel
theorem dX3_wipe_8 : decode cX3_wipe 8 = .ok (.aload_n 0, 1) := by decide +kernel
theorem dX3_wipe_9 : decode cX3_wipe 9 = .ok (.getfield 17, 3) := by decide +kernel
theorem dX3_wipe_12 : decode cX3_wipe 12 = .ok (.iload_n 1, 1) := by decide +kernel
theorem dX3_wipe_13 : decode cX3_wipe 13 = .ok (.aaload, 1) := by decide +kernel
theorem dX3_wipe_14 : decode cX3_wipe 14 = .ok (.invokevirtual 92, 3) := by decide +kernel
theorem dX3_wipe_17 : decode cX3_wipe 17 = .ok (.aload_n 0, 1) := by decide +kernel
theorem dX3_wipe_18 : decode cX3_wipe 18 = .ok (.getfield 24, 3) := by decide +kernel
theorem dX3_wipe_21 : decode cX3_wipe 21 = .ok (.iload_n 1, 1) := by decide +kernel
theorem dX3_wipe_22 : decode cX3_wipe 22 = .ok (.lconst 0, 1) := by decide +kernel
theorem dX3_wipe_23 : decode cX3_wipe 23 = .ok (.lastore, 1) := by decide +kernel
theorem dX3_wipe_24 : decode cX3_wipe 24 = .ok (.iinc 1 1, 3) := by decide +kernel
theorem dX3_wipe_27 : decode cX3_wipe 27 = .ok (.goto (-25), 3) := by decide +kernel
theorem dX3_wipe_30 : decode cX3_wipe 30 = .ok (.aload_n 0, 1) := by decide +kernel
theorem dX3_wipe_31 : decode cX3_wipe 31 = .ok (.iconst 0, 1) := by decide +kernel
theorem dX3_wipe_32 : decode cX3_wipe 32 = .ok (.putfield 63, 3) := by decide +kernel
theorem dX3_wipe_35 : decode cX3_wipe 35 = .ok (.return_, 1) := by decide +kernel
theorem dX3_pagesFit_0 : decode cX3_pagesFit 0 = .ok (.iconst 0, 1) := by decide +kernel
theorem dX3_pagesFit_1 : decode cX3_pagesFit 1 = .ok (.istore_n 1, 1) := by decide +kernel
theorem dX3_pagesFit_2 : decode cX3_pagesFit 2 = .ok (.iload_n 1, 1) := by decide +kernel
theorem dX3_pagesFit_3 : decode cX3_pagesFit 3 = .ok (.bipush 64, 2) := by decide +kernel
theorem dX3_pagesFit_5 : decode cX3_pagesFit 5 = .ok (.if_icmp .ge 25, 3) := by decide +kernel
theorem dX3_pagesFit_8 : decode cX3_pagesFit 8 = .ok (.aload_n 0, 1) := by decide +kernel
theorem dX3_pagesFit_9 : decode cX3_pagesFit 9 = .ok (.getfield 17, 3) := by decide +kernel
theorem dX3_pagesFit_12 : decode cX3_pagesFit 12 = .ok (.iload_n 1, 1) := by decide +kernel
theorem dX3_pagesFit_13 : decode cX3_pagesFit 13 = .ok (.aaload, 1) := by decide +kernel
theorem dX3_pagesFit_14 : decode cX3_pagesFit 14 = .ok (.invokevirtual 81, 3) := by decide +kernel
theorem dX3_pagesFit_17 : decode cX3_pagesFit 17 = .ok (.bipush 32, 2) := by decide +kernel
theorem dX3_pagesFit_19 : decode cX3_pagesFit 19 = .ok (.if_icmp .le 5, 3) := by decide +kernel
theorem dX3_pagesFit_22 : decode cX3_pagesFit 22 = .ok (.iconst 0, 1) := by decide +kernel
theorem dX3_pagesFit_23 : decode cX3_pagesFit 23 = .ok (.ireturn, 1) := by decide +kernel
theorem dX3_pagesFit_24 : decode cX3_pagesFit 24 = .ok (.iinc 1 1, 3) := by decide +kernel
theorem dX3_pagesFit_27 : decode cX3_pagesFit 27 = .ok (.goto (-25), 3) := by decide +kernel
theorem dX3_pagesFit_30 : decode cX3_pagesFit 30 = .ok (.iconst 1, 1) := by decide +kernel
theorem dX3_pagesFit_31 : decode cX3_pagesFit 31 = .ok (.ireturn, 1) := by decide +kernel
theorem dX3_keysBelong_0 : decode cX3_keysBelong 0 = .ok (.iconst 0, 1) := by decide +kernel
theorem dX3_keysBelong_1 : decode cX3_keysBelong 1 = .ok (.istore_n 1, 1) := by decide +kernel
theorem dX3_keysBelong_2 : decode cX3_keysBelong 2 = .ok (.iload_n 1, 1) := by decide +kernel
theorem dX3_keysBelong_3 : decode cX3_keysBelong 3 = .ok (.bipush 64, 2) := by decide +kernel
theorem dX3_keysBelong_5 : decode cX3_keysBelong 5 = .ok (.if_icmp .ge 24, 3) := by decide +kernel
theorem dX3_keysBelong_8 : decode cX3_keysBelong 8 = .ok (.aload_n 0, 1) := by decide +kernel
theorem dX3_keysBelong_9 : decode cX3_keysBelong 9 = .ok (.getfield 17, 3) := by decide +kernel
theorem dX3_keysBelong_12 : decode cX3_keysBelong 12 = .ok (.iload_n 1, 1) := by decide +kernel
theorem dX3_keysBelong_13 : decode cX3_keysBelong 13 = .ok (.aaload, 1) := by decide +kernel
theorem dX3_keysBelong_14 : decode cX3_keysBelong 14 = .ok (.iload_n 1, 1) := by decide +kernel
theorem dX3_keysBelong_15 : decode cX3_keysBelong 15 = .ok (.invokevirtual 112, 3) := by decide +kernel
theorem dX3_keysBelong_18 : decode cX3_keysBelong 18 = .ok (.ifCond .ne 5, 3) := by decide +kernel
theorem dX3_keysBelong_21 : decode cX3_keysBelong 21 = .ok (.iconst 0, 1) := by decide +kernel
theorem dX3_keysBelong_22 : decode cX3_keysBelong 22 = .ok (.ireturn, 1) := by decide +kernel
theorem dX3_keysBelong_23 : decode cX3_keysBelong 23 = .ok (.iinc 1 1, 3) := by decide +kernel
theorem dX3_keysBelong_26 : decode cX3_keysBelong 26 = .ok (.goto (-24), 3) := by decide +kernel
theorem dX3_keysBelong_29 : decode cX3_keysBelong 29 = .ok (.iconst 1, 1) := by decide +kernel
theorem dX3_keysBelong_30 : decode cX3_keysBelong 30 = .ok (.ireturn, 1) := by decide +kernel
theorem dX3_filtersAreRight_0 : decode cX3_filtersAreRight 0 = .ok (.iconst 0, 1) := by decide +kernel
theorem dX3_filtersAreRight_1 : decode cX3_filtersAreRight 1 = .ok (.istore_n 1, 1) := by decide +kernel
theorem dX3_filtersAreRight_2 : decode cX3_filtersAreRight 2 = .ok (.iload_n 1, 1) := by decide +kernel
theorem dX3_filtersAreRight_3 : decode cX3_filtersAreRight 3 = .ok (.bipush 64, 2) := by decide +kernel
theorem dX3_filtersAreRight_5 : decode cX3_filtersAreRight 5 = .ok (.if_icmp .ge 30, 3) := by decide +kernel
theorem dX3_filtersAreRight_8 : decode cX3_filtersAreRight 8 = .ok (.aload_n 0, 1) := by decide +kernel
theorem dX3_filtersAreRight_9 : decode cX3_filtersAreRight 9 = .ok (.getfield 24, 3) := by decide +kernel
theorem dX3_filtersAreRight_12 : decode cX3_filtersAreRight 12 = .ok (.iload_n 1, 1) := by decide +kernel
theorem dX3_filtersAreRight_13 : decode cX3_filtersAreRight 13 = .ok (.laload, 1) := by decide +kernel
theorem dX3_filtersAreRight_14 : decode cX3_filtersAreRight 14 = .ok (.aload_n 0, 1) := by decide +kernel
theorem dX3_filtersAreRight_15 : decode cX3_filtersAreRight 15 = .ok (.getfield 17, 3) := by decide +kernel
theorem dX3_filtersAreRight_18 : decode cX3_filtersAreRight 18 = .ok (.iload_n 1, 1) := by decide +kernel
theorem dX3_filtersAreRight_19 : decode cX3_filtersAreRight 19 = .ok (.aaload, 1) := by decide +kernel
theorem dX3_filtersAreRight_20 : decode cX3_filtersAreRight 20 = .ok (.invokevirtual 66, 3) := by decide +kernel
theorem dX3_filtersAreRight_23 : decode cX3_filtersAreRight 23 = .ok (.lcmp, 1) := by decide +kernel
theorem dX3_filtersAreRight_24 : decode cX3_filtersAreRight 24 = .ok (.ifCond .eq 5, 3) := by decide +kernel
theorem dX3_filtersAreRight_27 : decode cX3_filtersAreRight 27 = .ok (.iconst 0, 1) := by decide +kernel
theorem dX3_filtersAreRight_28 : decode cX3_filtersAreRight 28 = .ok (.ireturn, 1) := by decide +kernel
theorem dX3_filtersAreRight_29 : decode cX3_filtersAreRight 29 = .ok (.iinc 1 1, 3) := by decide +kernel
theorem dX3_filtersAreRight_32 : decode cX3_filtersAreRight 32 = .ok (.goto (-30), 3) := by decide +kernel
theorem dX3_filtersAreRight_35 : decode cX3_filtersAreRight 35 = .ok (.iconst 1, 1) := by decide +kernel
theorem dX3_filtersAreRight_36 : decode cX3_filtersAreRight 36 = .ok (.ireturn, 1) := by decide +kernel
theorem dX3_countIsRight_0 : decode cX3_countIsRight 0 = .ok (.iconst 0, 1) := by decide +kernel
theorem dX3_countIsRight_1 : decode cX3_countIsRight 1 = .ok (.istore_n 1, 1) := by decide +kernel
theorem dX3_countIsRight_2 : decode cX3_countIsRight 2 = .ok (.iconst 0, 1) := by decide +kernel
theorem dX3_countIsRight_3 : decode cX3_countIsRight 3 = .ok (.istore_n 2, 1) := by decide +kernel
theorem dX3_countIsRight_4 : decode cX3_countIsRight 4 = .ok (.iload_n 2, 1) := by decide +kernel
theorem dX3_countIsRight_5 : decode cX3_countIsRight 5 = .ok (.bipush 64, 2) := by decide +kernel
theorem dX3_countIsRight_7 : decode cX3_countIsRight 7 = .ok (.if_icmp .ge 21, 3) := by decide +kernel
theorem dX3_countIsRight_10 : decode cX3_countIsRight 10 = .ok (.iload_n 1, 1) := by decide +kernel
theorem dX3_countIsRight_11 : decode cX3_countIsRight 11 = .ok (.aload_n 0, 1) := by decide +kernel
theorem dX3_countIsRight_12 : decode cX3_countIsRight 12 = .ok (.getfield 17, 3) := by decide +kernel
theorem dX3_countIsRight_15 : decode cX3_countIsRight 15 = .ok (.iload_n 2, 1) := by decide +kernel
theorem dX3_countIsRight_16 : decode cX3_countIsRight 16 = .ok (.aaload, 1) := by decide +kernel
theorem dX3_countIsRight_17 : decode cX3_countIsRight 17 = .ok (.getfield 70, 3) := by decide +kernel
theorem dX3_countIsRight_20 : decode cX3_countIsRight 20 = .ok (.iadd, 1) := by decide +kernel
theorem dX3_countIsRight_21 : decode cX3_countIsRight 21 = .ok (.istore_n 1, 1) := by decide +kernel
theorem dX3_countIsRight_22 : decode cX3_countIsRight 22 = .ok (.iinc 2 1, 3) := by decide +kernel
theorem dX3_countIsRight_25 : decode cX3_countIsRight 25 = .ok (.goto (-21), 3) := by decide +kernel
theorem dX3_countIsRight_28 : decode cX3_countIsRight 28 = .ok (.iload_n 1, 1) := by decide +kernel
theorem dX3_countIsRight_29 : decode cX3_countIsRight 29 = .ok (.aload_n 0, 1) := by decide +kernel
theorem dX3_countIsRight_30 : decode cX3_countIsRight 30 = .ok (.getfield 63, 3) := by decide +kernel
theorem dX3_countIsRight_33 : decode cX3_countIsRight 33 = .ok (.if_icmp .ne 7, 3) := by decide +kernel
theorem dX3_countIsRight_36 : decode cX3_countIsRight 36 = .ok (.iconst 1, 1) := by decide +kernel
theorem dX3_countIsRight_37 : decode cX3_countIsRight 37 = .ok (.goto 4, 3) := by decide +kernel
theorem dX3_countIsRight_40 : decode cX3_countIsRight 40 = .ok (.iconst 0, 1) := by decide +kernel
theorem dX3_countIsRight_41 : decode cX3_countIsRight 41 = .ok (.ireturn, 1) := by decide +kernel
end
section
theorem dX1_init_0 : decode cX1_init 0 = .ok (.aload_n 0, 1) := by decide +kernel
theorem dX1_init_1 : decode cX1_init 1 = .ok (.invokespecial 3, 3) := by decide +kernel
theorem dX1_init_4 : decode cX1_init 4 = .ok (.aload_n 0, 1) := by decide +kernel
theorem dX1_init_5 : decode cX1_init 5 = .ok (.aload_n 1, 1) := by decide +kernel
theorem dX1_init_6 : decode cX1_init 6 = .ok (.putfield 9, 3) := by decide +kernel
theorem dX1_init_9 : decode cX1_init 9 = .ok (.aload_n 0, 1) := by decide +kernel
theorem dX1_init_10 : decode cX1_init 10 = .ok (.aload_n 2, 1) := by decide +kernel
theorem dX1_init_11 : decode cX1_init 11 = .ok (.putfield 15, 3) := by decide +kernel
theorem dX1_init_14 : decode cX1_init 14 = .ok (.aload_n 0, 1) := by decide +kernel
theorem dX1_init_15 : decode cX1_init 15 = .ok (.bipush 32, 2) := by decide +kernel
theorem dX1_init_17 : decode cX1_init 17 = .ok (.anewarray 19, 3) := by decide +kernel
theorem dX1_init_20 : decode cX1_init 20 = .ok (.putfield 21, 3) := by decide +kernel
theorem dX1_init_23 : decode cX1_init 23 = .ok (.iconst 0, 1) := by decide +kernel
theorem dX1_init_24 : decode cX1_init 24 = .ok (.istore_n 3, 1) := by decide +kernel
theorem dX1_init_25 : decode cX1_init 25 = .ok (.iload_n 3, 1) := by decide +kernel
theorem dX1_init_26 : decode cX1_init 26 = .ok (.bipush 32, 2) := by decide +kernel
theorem dX1_init_28 : decode cX1_init 28 = .ok (.if_icmp .ge 24, 3) := by decide +kernel
theorem dX1_init_31 : decode cX1_init 31 = .ok (.aload_n 0, 1) := by decide +kernel
theorem dX1_init_32 : decode cX1_init 32 = .ok (.getfield 21, 3) := by decide +kernel
theorem dX1_init_35 : decode cX1_init 35 = .ok (.iload_n 3, 1) := by decide +kernel
theorem dX1_init_36 : decode cX1_init 36 = .ok (.new 19, 3) := by decide +kernel
theorem dX1_init_39 : decode cX1_init 39 = .ok (.dup, 1) := by decide +kernel
theorem dX1_init_40 : decode cX1_init 40 = .ok (.bipush 8, 2) := by decide +kernel
theorem dX1_init_42 : decode cX1_init 42 = .ok (.invokespecial 25, 3) := by decide +kernel
theorem dX1_init_45 : decode cX1_init 45 = .ok (.aastore, 1) := by decide +kernel
theorem dX1_init_46 : decode cX1_init 46 = .ok (.iinc 3 1, 3) := by decide +kernel
theorem dX1_init_49 : decode cX1_init 49 = .ok (.goto (-24), 3) := by decide +kernel
theorem dX1_init_52 : decode cX1_init 52 = .ok (.aload_n 0, 1) := by decide +kernel
theorem dX1_init_53 : decode cX1_init 53 = .ok (.bipush 8, 2) := by decide +kernel
theorem dX1_init_55 : decode cX1_init 55 = .ok (.newarray .int, 2) := by decide +kernel
theorem dX1_init_57 : decode cX1_init 57 = .ok (.putfield 28, 3) := by decide +kernel
theorem dX1_init_60 : decode cX1_init 60 = .ok (.aload_n 0, 1) := by decide +kernel
theorem dX1_init_61 : decode cX1_init 61 = .ok (.new 19, 3) := by decide +kernel
theorem dX1_init_64 : decode cX1_init 64 = .ok (.dup, 1) := by decide +kernel
theorem dX1_init_65 : decode cX1_init 65 = .ok (.bipush 8, 2) := by decide +kernel
theorem dX1_init_67 : decode cX1_init 67 = .ok (.invokespecial 25, 3) := by decide +kernel
theorem dX1_init_70 : decode cX1_init 70 = .ok (.putfield 31, 3) := by decide +kernel
theorem dX1_init_73 : decode cX1_init 73 = .ok (.aload_n 0, 1) := by decide +kernel
theorem dX1_init_74 : decode cX1_init 74 = .ok (.new 19, 3) := by decide +kernel
theorem dX1_init_77 : decode cX1_init 77 = .ok (.dup, 1) := by decide +kernel
theorem dX1_init_78 : decode cX1_init 78 = .ok (.bipush 32, 2) := by decide +kernel
theorem dX1_init_80 : decode cX1_init 80 = .ok (.invokespecial 25, 3) := by decide +kernel
theorem dX1_init_83 : decode cX1_init 83 = .ok (.putfield 35, 3) := by decide +kernel
theorem dX1_init_86 : decode cX1_init 86 = .ok (.aload_n 0, 1) := by decide +kernel
theorem dX1_init_87 : decode cX1_init 87 = .ok (.new 19, 3) := by decide +kernel
theorem dX1_init_90 : decode cX1_init 90 = .ok (.dup, 1) := by decide +kernel
theorem dX1_init_91 : decode cX1_init 91 = .ok (.sipush 264, 3) := by decide +kernel
theorem dX1_init_94 : decode cX1_init 94 = .ok (.invokespecial 25, 3) := by decide +kernel
theorem dX1_init_97 : decode cX1_init 97 = .ok (.putfield 38, 3) := by decide +kernel
theorem dX1_init_100 : decode cX1_init 100 = .ok (.return_, 1) := by decide +kernel
theorem dX1_find_0 : decode cX1_find 0 = .ok (.aload_n 0, 1) := by decide +kernel
theorem dX1_find_1 : decode cX1_find 1 = .ok (.getfield 31, 3) := by decide +kernel
theorem dX1_find_4 : decode cX1_find 4 = .ok (.lload_n 1, 1) := by decide +kernel
theorem dX1_find_5 : decode cX1_find 5 = .ok (.invokevirtual 41, 3) := by decide +kernel
theorem dX1_find_8 : decode cX1_find 8 = .ok (.astore_n 3, 1) := by decide +kernel
theorem dX1_find_9 : decode cX1_find 9 = .ok (.iconst 0, 1) := by decide +kernel
theorem dX1_find_10 : decode cX1_find 10 = .ok (.istore 4, 2) := by decide +kernel
theorem dX1_find_12 : decode cX1_find 12 = .ok (.iload 4, 2) := by decide +kernel
theorem dX1_find_14 : decode cX1_find 14 = .ok (.bipush 32, 2) := by decide +kernel
theorem dX1_find_16 : decode cX1_find 16 = .ok (.if_icmp .ge 25, 3) := by decide +kernel
theorem dX1_find_19 : decode cX1_find 19 = .ok (.aload_n 3, 1) := by decide +kernel
theorem dX1_find_20 : decode cX1_find 20 = .ok (.ifnonnull 21, 3) := by decide +kernel
theorem dX1_find_23 : decode cX1_find 23 = .ok (.aload_n 0, 1) := by decide +kernel
theorem dX1_find_24 : decode cX1_find 24 = .ok (.getfield 21, 3) := by decide +kernel
theorem dX1_find_27 : decode cX1_find 27 = .ok (.iload 4, 2) := by decide +kernel
theorem dX1_find_29 : decode cX1_find 29 = .ok (.aaload, 1) := by decide +kernel
theorem dX1_find_30 : decode cX1_find 30 = .ok (.lload_n 1, 1) := by decide +kernel
theorem dX1_find_31 : decode cX1_find 31 = .ok (.invokevirtual 41, 3) := by decide +kernel
theorem dX1_find_34 : decode cX1_find 34 = .ok (.astore_n 3, 1) := by decide +kernel
theorem dX1_find_35 : decode cX1_find 35 = .ok (.iinc 4 1, 3) := by decide +kernel
theorem dX1_find_38 : decode cX1_find 38 = .ok (.goto (-26), 3) := by decide +kernel
theorem dX1_find_41 : decode cX1_find 41 = .ok (.aload_n 3, 1) := by decide +kernel
theorem dX1_find_42 : decode cX1_find 42 = .ok (.areturn, 1) := by decide +kernel
theorem dX1_kill_0 : decode cX1_kill 0 = .ok (.aload_n 1, 1) := by decide +kernel
theorem dX1_kill_1 : decode cX1_kill 1 = .ok (.ifnull 10, 3) := by decide +kernel
theorem dX1_kill_4 : decode cX1_kill 4 = .ok (.aload_n 1, 1) := by decide +kernel
theorem dX1_kill_5 : decode cX1_kill 5 = .ok (.getfield 45, 3) := by decide +kernel
theorem dX1_kill_8 : decode cX1_kill 8 = .ok (.ifCond .ne 5, 3) := by decide +kernel
theorem dX1_kill_11 : decode cX1_kill 11 = .ok (.iconst 0, 1) := by decide +kernel
theorem dX1_kill_12 : decode cX1_kill 12 = .ok (.ireturn, 1) := by decide +kernel
theorem dX1_kill_13 : decode cX1_kill 13 = .ok (.aload_n 1, 1) := by decide +kernel
theorem dX1_kill_14 : decode cX1_kill 14 = .ok (.iconst 0, 1) := by decide +kernel
theorem dX1_kill_15 : decode cX1_kill 15 = .ok (.putfield 45, 3) := by decide +kernel
theorem dX1_kill_18 : decode cX1_kill 18 = .ok (.aload_n 0, 1) := by decide +kernel
theorem dX1_kill_19 : decode cX1_kill 19 = .ok (.dup, 1) := by decide +kernel
theorem dX1_kill_20 : decode cX1_kill 20 = .ok (.getfield 51, 3) := by decide +kernel
theorem dX1_kill_23 : decode cX1_kill 23 = .ok (.iconst 1, 1) := by decide +kernel
theorem dX1_kill_24 : decode cX1_kill 24 = .ok (.isub, 1) := by decide +kernel
theorem dX1_kill_25 : decode cX1_kill 25 = .ok (.putfield 51, 3) := by decide +kernel
theorem dX1_kill_28 : decode cX1_kill 28 = .ok (.iconst 1, 1) := by decide +kernel
theorem dX1_kill_29 : decode cX1_kill 29 = .ok (.ireturn, 1) := by decide +kernel
theorem dX1_append_0 : decode cX1_append 0 = .ok (.iconst 0, 1) := by decide +kernel
theorem dX1_append_1 : decode cX1_append 1 = .ok (.istore_n 2, 1) := by decide +kernel
theorem dX1_append_2 : decode cX1_append 2 = .ok (.iload_n 2, 1) := by decide +kernel
theorem dX1_append_3 : decode cX1_append 3 = .ok (.sipush 1000, 3) := by decide +kernel
theorem dX1_append_6 : decode cX1_append 6 = .ok (.if_icmp .ge 64, 3) := by decide +kernel
theorem dX1_append_9 : decode cX1_append 9 = .ok (.aload_n 0, 1) := by decide +kernel
theorem dX1_append_10 : decode cX1_append 10 = .ok (.getfield 31, 3) := by decide +kernel
theorem dX1_append_13 : decode cX1_append 13 = .ok (.aload_n 1, 1) := by decide +kernel
theorem dX1_append_14 : decode cX1_append 14 = .ok (.invokevirtual 55, 3) := by decide +kernel
theorem dX1_append_17 : decode cX1_append 17 = .ok (.ifCond .ne 53, 3) := by decide +kernel
theorem dX1_append_20 : decode cX1_append 20 = .ok (.aload_n 0, 1) := by decide +kernel
theorem dX1_append_21 : decode cX1_append 21 = .ok (.invokevirtual 59, 3) := by decide +kernel
theorem dX1_append_24 : decode cX1_append 24 = .ok (.aload_n 0, 1) := by decide +kernel
theorem dX1_append_25 : decode cX1_append 25 = .ok (.getfield 28, 3) := by decide +kernel
theorem dX1_append_28 : decode cX1_append 28 = .ok (.aload_n 0, 1) := by decide +kernel
theorem dX1_append_29 : decode cX1_append 29 = .ok (.getfield 62, 3) := by decide +kernel
theorem dX1_append_32 : decode cX1_append 32 = .ok (.iaload, 1) := by decide +kernel
theorem dX1_append_33 : decode cX1_append 33 = .ok (.iconst 4, 1) := by decide +kernel
theorem dX1_append_34 : decode cX1_append 34 = .ok (.if_icmp .lt 30, 3) := by decide +kernel
theorem dX1_append_37 : decode cX1_append 37 = .ok (.aload_n 0, 1) := by decide +kernel
theorem dX1_append_38 : decode cX1_append 38 = .ok (.getfield 15, 3) := by decide +kernel
theorem dX1_append_41 : decode cX1_append 41 = .ok (.iconst 0, 1) := by decide +kernel
theorem dX1_append_42 : decode cX1_append 42 = .ok (.dup2, 1) := by decide +kernel
theorem dX1_append_43 : decode cX1_append 43 = .ok (.iaload, 1) := by decide +kernel
theorem dX1_append_44 : decode cX1_append 44 = .ok (.iconst 1, 1) := by decide +kernel
theorem dX1_append_45 : decode cX1_append 45 = .ok (.iadd, 1) := by decide +kernel
theorem dX1_append_46 : decode cX1_append 46 = .ok (.iastore, 1) := by decide +kernel
theorem dX1_append_47 : decode cX1_append 47 = .ok (.aload_n 0, 1) := by decide +kernel
theorem dX1_append_48 : decode cX1_append 48 = .ok (.aload_n 0, 1) := by decide +kernel
theorem dX1_append_49 : decode cX1_append 49 = .ok (.getfield 62, 3) := by decide +kernel
theorem dX1_append_52 : decode cX1_append 52 = .ok (.iconst 1, 1) := by decide +kernel
theorem dX1_append_53 : decode cX1_append 53 = .ok (.iadd, 1) := by decide +kernel
theorem dX1_append_54 : decode cX1_append 54 = .ok (.bipush 8, 2) := by decide +kernel
theorem dX1_append_56 : decode cX1_append 56 = .ok (.irem, 1) := by decide +kernel
theorem dX1_append_57 : decode cX1_append 57 = .ok (.putfield 62, 3) := by decide +kernel
theorem dX1_append_60 : decode cX1_append 60 = .ok (.aload_n 0, 1) := by decide +kernel
theorem dX1_append_61 : decode cX1_append 61 = .ok (.invokevirtual 65, 3) := by decide +kernel
theorem dX1_append_64 : decode cX1_append 64 = .ok (.iinc 2 1, 3) := by decide +kernel
theorem dX1_append_67 : decode cX1_append 67 = .ok (.goto (-65), 3) := by decide +kernel
theorem dX1_append_70 : decode cX1_append 70 = .ok (.aload_n 1, 1) := by decide +kernel
theorem dX1_append_71 : decode cX1_append 71 = .ok (.iconst 1, 1) := by decide +kernel
theorem dX1_append_72 : decode cX1_append 72 = .ok (.putfield 45, 3) := by decide +kernel
theorem dX1_append_75 : decode cX1_append 75 = .ok (.aload_n 0, 1) := by decide +kernel
theorem dX1_append_76 : decode cX1_append 76 = .ok (.dup, 1) := by decide +kernel
theorem dX1_append_77 : decode cX1_append 77 = .ok (.getfield 51, 3) := by decide +kernel
theorem dX1_append_80 : decode cX1_append 80 = .ok (.iconst 1, 1) := by decide +kernel
theorem dX1_append_81 : decode cX1_append 81 = .ok (.iadd, 1) := by decide +kernel
theorem dX1_append_82 : decode cX1_append 82 = .ok (.putfield 51, 3) := by decide +kernel
theorem dX1_append_85 : decode cX1_append 85 = .ok (.aload_n 0, 1) := by decide +kernel
theorem dX1_append_86 : decode cX1_append 86 = .ok (.getfield 31, 3) := by decide +kernel
theorem dX1_append_89 : decode cX1_append 89 = .ok (.aload_n 1, 1) := by decide +kernel
theorem dX1_append_90 : decode cX1_append 90 = .ok (.invokevirtual 68, 3) := by decide +kernel
theorem dX1_append_93 : decode cX1_append 93 = .ok (.return_, 1) := by decide +kernel
theorem dX1_writeOpenPage_0 : decode cX1_writeOpenPage 0 = .ok (.aload_n 0, 1) := by decide +kernel
theorem dX1_writeOpenPage_1 : decode cX1_writeOpenPage 1 = .ok (.getfield 28, 3) := by decide +kernel
theorem dX1_writeOpenPage_4 : decode cX1_writeOpenPage 4 = .ok (.aload_n 0, 1) := by decide +kernel
theorem dX1_writeOpenPage_5 : decode cX1_writeOpenPage 5 = .ok (.getfield 62, 3) := by decide +kernel
theorem dX1_writeOpenPage_8 : decode cX1_writeOpenPage 8 = .ok (.iaload, 1) := by decide +kernel
theorem dX1_writeOpenPage_9 : decode cX1_writeOpenPage 9 = .ok (.iconst 4, 1) := by decide +kernel
theorem dX1_writeOpenPage_10 : decode cX1_writeOpenPage 10 = .ok (.if_icmp .ge 65, 3) := by decide +kernel
theorem dX1_writeOpenPage_13 : decode cX1_writeOpenPage 13 = .ok (.aload_n 0, 1) := by decide +kernel
theorem dX1_writeOpenPage_14 : decode cX1_writeOpenPage 14 = .ok (.getfield 62, 3) := by decide +kernel
theorem dX1_writeOpenPage_17 : decode cX1_writeOpenPage 17 = .ok (.iconst 4, 1) := by decide +kernel
theorem dX1_writeOpenPage_18 : decode cX1_writeOpenPage 18 = .ok (.imul, 1) := by decide +kernel
theorem dX1_writeOpenPage_19 : decode cX1_writeOpenPage 19 = .ok (.aload_n 0, 1) := by decide +kernel
theorem dX1_writeOpenPage_20 : decode cX1_writeOpenPage 20 = .ok (.getfield 28, 3) := by decide +kernel
theorem dX1_writeOpenPage_23 : decode cX1_writeOpenPage 23 = .ok (.aload_n 0, 1) := by decide +kernel
theorem dX1_writeOpenPage_24 : decode cX1_writeOpenPage 24 = .ok (.getfield 62, 3) := by decide +kernel
theorem dX1_writeOpenPage_27 : decode cX1_writeOpenPage 27 = .ok (.iaload, 1) := by decide +kernel
theorem dX1_writeOpenPage_28 : decode cX1_writeOpenPage 28 = .ok (.iadd, 1) := by decide +kernel
theorem dX1_writeOpenPage_29 : decode cX1_writeOpenPage 29 = .ok (.istore_n 1, 1) := by decide +kernel
theorem dX1_writeOpenPage_30 : decode cX1_writeOpenPage 30 = .ok (.aload_n 0, 1) := by decide +kernel
theorem dX1_writeOpenPage_31 : decode cX1_writeOpenPage 31 = .ok (.getfield 21, 3) := by decide +kernel
theorem dX1_writeOpenPage_34 : decode cX1_writeOpenPage 34 = .ok (.iload_n 1, 1) := by decide +kernel
theorem dX1_writeOpenPage_35 : decode cX1_writeOpenPage 35 = .ok (.aaload, 1) := by decide +kernel
theorem dX1_writeOpenPage_36 : decode cX1_writeOpenPage 36 = .ok (.astore_n 2, 1) := by decide +kernel
theorem dX1_writeOpenPage_37 : decode cX1_writeOpenPage 37 = .ok (.aload_n 0, 1) := by decide +kernel
theorem dX1_writeOpenPage_38 : decode cX1_writeOpenPage 38 = .ok (.getfield 21, 3) := by decide +kernel
theorem dX1_writeOpenPage_41 : decode cX1_writeOpenPage 41 = .ok (.iload_n 1, 1) := by decide +kernel
theorem dX1_writeOpenPage_42 : decode cX1_writeOpenPage 42 = .ok (.aload_n 0, 1) := by decide +kernel
theorem dX1_writeOpenPage_43 : decode cX1_writeOpenPage 43 = .ok (.getfield 31, 3) := by decide +kernel
theorem dX1_writeOpenPage_46 : decode cX1_writeOpenPage 46 = .ok (.aastore, 1) := by decide +kernel
theorem dX1_writeOpenPage_47 : decode cX1_writeOpenPage 47 = .ok (.aload_n 0, 1) := by decide +kernel
theorem dX1_writeOpenPage_48 : decode cX1_writeOpenPage 48 = .ok (.aload_n 2, 1) := by decide +kernel
theorem dX1_writeOpenPage_49 : decode cX1_writeOpenPage 49 = .ok (.putfield 31, 3) := by decide +kernel
theorem dX1_writeOpenPage_52 : decode cX1_writeOpenPage 52 = .ok (.aload_n 0, 1) := by decide +kernel
theorem dX1_writeOpenPage_53 : decode cX1_writeOpenPage 53 = .ok (.getfield 28, 3) := by decide +kernel
theorem dX1_writeOpenPage_56 : decode cX1_writeOpenPage 56 = .ok (.aload_n 0, 1) := by decide +kernel
theorem dX1_writeOpenPage_57 : decode cX1_writeOpenPage 57 = .ok (.getfield 62, 3) := by decide +kernel
theorem dX1_writeOpenPage_60 : decode cX1_writeOpenPage 60 = .ok (.dup2, 1) := by decide +kernel
theorem dX1_writeOpenPage_61 : decode cX1_writeOpenPage 61 = .ok (.iaload, 1) := by decide +kernel
theorem dX1_writeOpenPage_62 : decode cX1_writeOpenPage 62 = .ok (.iconst 1, 1) := by decide +kernel
theorem dX1_writeOpenPage_63 : decode cX1_writeOpenPage 63 = .ok (.iadd, 1) := by decide +kernel
theorem dX1_writeOpenPage_64 : decode cX1_writeOpenPage 64 = .ok (.iastore, 1) := by decide +kernel
theorem dX1_writeOpenPage_65 : decode cX1_writeOpenPage 65 = .ok (.aload_n 0, 1) := by decide +kernel
theorem dX1_writeOpenPage_66 : decode cX1_writeOpenPage 66 = .ok (.getfield 15, 3) := by decide +kernel
theorem dX1_writeOpenPage_69 : decode cX1_writeOpenPage 69 = .ok (.iconst 1, 1) := by decide +kernel
theorem dX1_writeOpenPage_70 : decode cX1_writeOpenPage 70 = .ok (.dup2, 1) := by decide +kernel
theorem dX1_writeOpenPage_71 : decode cX1_writeOpenPage 71 = .ok (.iaload, 1) := by decide +kernel
theorem dX1_writeOpenPage_72 : decode cX1_writeOpenPage 72 = .ok (.iconst 1, 1) := by decide +kernel
theorem dX1_writeOpenPage_73 : decode cX1_writeOpenPage 73 = .ok (.iadd, 1) := by decide +kernel
theorem dX1_writeOpenPage_74 : decode cX1_writeOpenPage 74 = .ok (.iastore, 1) := by decide +kernel
theorem dX1_writeOpenPage_75 : decode cX1_writeOpenPage 75 = .ok (.aload_n 0, 1) := by decide +kernel
theorem dX1_writeOpenPage_76 : decode cX1_writeOpenPage 76 = .ok (.getfield 31, 3) := by decide +kernel
theorem dX1_writeOpenPage_79 : decode cX1_writeOpenPage 79 = .ok (.invokevirtual 72, 3) := by decide +kernel
theorem dX1_writeOpenPage_82 : decode cX1_writeOpenPage 82 = .ok (.return_, 1) := by decide +kernel
theorem dX1_emptyHead_0 : decode cX1_emptyHead 0 = .ok (.aload_n 0, 1) := by decide +kernel
theorem dX1_emptyHead_1 : decode cX1_emptyHead 1 = .ok (.getfield 35, 3) := by decide +kernel
theorem dX1_emptyHead_4 : decode cX1_emptyHead 4 = .ok (.invokevirtual 72, 3) := by decide +kernel
theorem dX1_emptyHead_7 : decode cX1_emptyHead 7 = .ok (.iconst 0, 1) := by decide +kernel
theorem dX1_emptyHead_8 : decode cX1_emptyHead 8 = .ok (.istore_n 1, 1) := by decide +kernel
theorem dX1_emptyHead_9 : decode cX1_emptyHead 9 = .ok (.iload_n 1, 1) := by decide +kernel
theorem dX1_emptyHead_10 : decode cX1_emptyHead 10 = .ok (.iconst 4, 1) := by decide +kernel
theorem dX1_emptyHead_11 : decode cX1_emptyHead 11 = .ok (.if_icmp .ge 35, 3) := by decide +kernel
theorem dX1_emptyHead_14 : decode cX1_emptyHead 14 = .ok (.aload_n 0, 1) := by decide +kernel
theorem dX1_emptyHead_15 : decode cX1_emptyHead 15 = .ok (.getfield 21, 3) := by decide +kernel
theorem dX1_emptyHead_18 : decode cX1_emptyHead 18 = .ok (.aload_n 0, 1) := by decide +kernel
theorem dX1_emptyHead_19 : decode cX1_emptyHead 19 = .ok (.getfield 62, 3) := by decide +kernel
theorem dX1_emptyHead_22 : decode cX1_emptyHead 22 = .ok (.iconst 4, 1) := by decide +kernel
theorem dX1_emptyHead_23 : decode cX1_emptyHead 23 = .ok (.imul, 1) := by decide +kernel
theorem dX1_emptyHead_24 : decode cX1_emptyHead 24 = .ok (.iload_n 1, 1) := by decide +kernel
theorem dX1_emptyHead_25 : decode cX1_emptyHead 25 = .ok (.iadd, 1) := by decide +kernel
theorem dX1_emptyHead_26 : decode cX1_emptyHead 26 = .ok (.aaload, 1) := by decide +kernel
theorem dX1_emptyHead_27 : decode cX1_emptyHead 27 = .ok (.astore_n 2, 1) := by decide +kernel
theorem dX1_emptyHead_28 : decode cX1_emptyHead 28 = .ok (.aload_n 0, 1) := by decide +kernel
theorem dX1_emptyHead_29 : decode cX1_emptyHead 29 = .ok (.getfield 35, 3) := by decide +kernel
theorem dX1_emptyHead_32 : decode cX1_emptyHead 32 = .ok (.aload_n 2, 1) := by decide +kernel
theorem dX1_emptyHead_33 : decode cX1_emptyHead 33 = .ok (.invokevirtual 75, 3) := by decide +kernel
theorem dX1_emptyHead_36 : decode cX1_emptyHead 36 = .ok (.aload_n 2, 1) := by decide +kernel
theorem dX1_emptyHead_37 : decode cX1_emptyHead 37 = .ok (.invokevirtual 72, 3) := by decide +kernel
theorem dX1_emptyHead_40 : decode cX1_emptyHead 40 = .ok (.iinc 1 1, 3) := by decide +kernel
theorem dX1_emptyHead_43 : decode cX1_emptyHead 43 = .ok (.goto (-34), 3) := by decide +kernel
theorem dX1_emptyHead_46 : decode cX1_emptyHead 46 = .ok (.aload_n 0, 1) := by decide +kernel
theorem dX1_emptyHead_47 : decode cX1_emptyHead 47 = .ok (.getfield 28, 3) := by decide +kernel
theorem dX1_emptyHead_50 : decode cX1_emptyHead 50 = .ok (.aload_n 0, 1) := by decide +kernel
theorem dX1_emptyHead_51 : decode cX1_emptyHead 51 = .ok (.getfield 62, 3) := by decide +kernel
theorem dX1_emptyHead_54 : decode cX1_emptyHead 54 = .ok (.iconst 0, 1) := by decide +kernel
theorem dX1_emptyHead_55 : decode cX1_emptyHead 55 = .ok (.iastore, 1) := by decide +kernel
theorem dX1_emptyHead_56 : decode cX1_emptyHead 56 = .ok (.iconst 0, 1) := by decide +kernel
theorem dX1_emptyHead_57 : decode cX1_emptyHead 57 = .ok (.istore_n 1, 1) := by decide +kernel
theorem dX1_emptyHead_58 : decode cX1_emptyHead 58 = .ok (.iload_n 1, 1) := by decide +kernel
theorem dX1_emptyHead_59 : decode cX1_emptyHead 59 = .ok (.aload_n 0, 1) := by decide +kernel
theorem dX1_emptyHead_60 : decode cX1_emptyHead 60 = .ok (.getfield 35, 3) := by decide +kernel
theorem dX1_emptyHead_63 : decode cX1_emptyHead 63 = .ok (.getfield 79, 3) := by decide +kernel
theorem dX1_emptyHead_66 : decode cX1_emptyHead 66 = .ok (.if_icmp .ge 14, 3) := by decide +kernel
theorem dX1_emptyHead_69 : decode cX1_emptyHead 69 = .ok (.aload_n 0, 1) := by decide +kernel
theorem dX1_emptyHead_70 : decode cX1_emptyHead 70 = .ok (.iload_n 1, 1) := by decide +kernel
theorem dX1_emptyHead_71 : decode cX1_emptyHead 71 = .ok (.invokevirtual 82, 3) := by decide +kernel
theorem dX1_emptyHead_74 : decode cX1_emptyHead 74 = .ok (.iinc 1 1, 3) := by decide +kernel
theorem dX1_emptyHead_77 : decode cX1_emptyHead 77 = .ok (.goto (-19), 3) := by decide +kernel
theorem dX1_emptyHead_80 : decode cX1_emptyHead 80 = .ok (.aload_n 0, 1) := by decide +kernel
theorem dX1_emptyHead_81 : decode cX1_emptyHead 81 = .ok (.getfield 35, 3) := by decide +kernel
theorem dX1_emptyHead_84 : decode cX1_emptyHead 84 = .ok (.invokevirtual 72, 3) := by decide +kernel
theorem dX1_emptyHead_87 : decode cX1_emptyHead 87 = .ok (.return_, 1) := by decide +kernel
theorem dX1_settle_0 : decode cX1_settle 0 = .ok (.aload_n 0, 1) := by decide +kernel
theorem dX1_settle_1 : decode cX1_settle 1 = .ok (.getfield 35, 3) := by decide +kernel
theorem dX1_settle_4 : decode cX1_settle 4 = .ok (.iload_n 1, 1) := by decide +kernel
theorem dX1_settle_5 : decode cX1_settle 5 = .ok (.invokevirtual 85, 3) := by decide +kernel
theorem dX1_settle_8 : decode cX1_settle 8 = .ok (.astore_n 2, 1) := by decide +kernel
theorem dX1_settle_9 : decode cX1_settle 9 = .ok (.aload_n 2, 1) := by decide +kernel
theorem dX1_settle_10 : decode cX1_settle 10 = .ok (.ifnull 10, 3) := by decide +kernel
theorem dX1_settle_13 : decode cX1_settle 13 = .ok (.aload_n 2, 1) := by decide +kernel
theorem dX1_settle_14 : decode cX1_settle 14 = .ok (.getfield 45, 3) := by decide +kernel
theorem dX1_settle_17 : decode cX1_settle 17 = .ok (.ifCond .ne 4, 3) := by decide +kernel
theorem dX1_settle_20 : decode cX1_settle 20 = .ok (.return_, 1) := by decide +kernel
theorem dX1_settle_21 : decode cX1_settle 21 = .ok (.aload_n 0, 1) := by decide +kernel
theorem dX1_settle_22 : decode cX1_settle 22 = .ok (.aload_n 2, 1) := by decide +kernel
theorem dX1_settle_23 : decode cX1_settle 23 = .ok (.getfield 89, 3) := by decide +kernel
theorem dX1_settle_26 : decode cX1_settle 26 = .ok (.iload_n 1, 1) := by decide +kernel
theorem dX1_settle_27 : decode cX1_settle 27 = .ok (.invokevirtual 92, 3) := by decide +kernel
theorem dX1_settle_30 : decode cX1_settle 30 = .ok (.aload_n 0, 1) := by decide +kernel
theorem dX1_settle_31 : decode cX1_settle 31 = .ok (.getfield 38, 3) := by decide +kernel
theorem dX1_settle_34 : decode cX1_settle 34 = .ok (.getfield 79, 3) := by decide +kernel
theorem dX1_settle_37 : decode cX1_settle 37 = .ok (.iconst 2, 1) := by decide +kernel
theorem dX1_settle_38 : decode cX1_settle 38 = .ok (.if_icmp .lt 25, 3) := by decide +kernel
theorem dX1_settle_41 : decode cX1_settle 41 = .ok (.aload_n 0, 1) := by decide +kernel
theorem dX1_settle_42 : decode cX1_settle 42 = .ok (.invokevirtual 96, 3) := by decide +kernel
theorem dX1_settle_45 : decode cX1_settle 45 = .ok (.aload_n 0, 1) := by decide +kernel
theorem dX1_settle_46 : decode cX1_settle 46 = .ok (.getfield 9, 3) := by decide +kernel
theorem dX1_settle_49 : decode cX1_settle 49 = .ok (.aload_n 2, 1) := by decide +kernel
theorem dX1_settle_50 : decode cX1_settle 50 = .ok (.getfield 89, 3) := by decide +kernel
theorem dX1_settle_53 : decode cX1_settle 53 = .ok (.aload_n 0, 1) := by decide +kernel
theorem dX1_settle_54 : decode cX1_settle 54 = .ok (.getfield 38, 3) := by decide +kernel
theorem dX1_settle_57 : decode cX1_settle 57 = .ok (.invokevirtual 99, 3) := by decide +kernel
theorem dX1_settle_60 : decode cX1_settle 60 = .ok (.goto 48, 3) := by decide +kernel
theorem dX1_settle_63 : decode cX1_settle 63 = .ok (.aload_n 2, 1) := by decide +kernel
theorem dX1_settle_64 : decode cX1_settle 64 = .ok (.getfield 105, 3) := by decide +kernel
theorem dX1_settle_67 : decode cX1_settle 67 = .ok (.ifCond .eq 11, 3) := by decide +kernel
theorem dX1_settle_70 : decode cX1_settle 70 = .ok (.aload_n 0, 1) := by decide +kernel
theorem dX1_settle_71 : decode cX1_settle 71 = .ok (.aload_n 2, 1) := by decide +kernel
theorem dX1_settle_72 : decode cX1_settle 72 = .ok (.invokevirtual 108, 3) := by decide +kernel
theorem dX1_settle_75 : decode cX1_settle 75 = .ok (.goto 33, 3) := by decide +kernel
theorem dX1_settle_78 : decode cX1_settle 78 = .ok (.aload_n 0, 1) := by decide +kernel
theorem dX1_settle_79 : decode cX1_settle 79 = .ok (.aload_n 2, 1) := by decide +kernel
theorem dX1_settle_80 : decode cX1_settle 80 = .ok (.invokevirtual 111, 3) := by decide +kernel
theorem dX1_settle_83 : decode cX1_settle 83 = .ok (.pop, 1) := by decide +kernel
theorem dX1_settle_84 : decode cX1_settle 84 = .ok (.aload_n 0, 1) := by decide +kernel
theorem dX1_settle_85 : decode cX1_settle 85 = .ok (.getfield 15, 3) := by decide +kernel
theorem dX1_settle_88 : decode cX1_settle 88 = .ok (.bipush 9, 2) := by decide +kernel
theorem dX1_settle_90 : decode cX1_settle 90 = .ok (.dup2, 1) := by decide +kernel
theorem dX1_settle_91 : decode cX1_settle 91 = .ok (.iaload, 1) := by decide +kernel
theorem dX1_settle_92 : decode cX1_settle 92 = .ok (.iconst 1, 1) := by decide +kernel
theorem dX1_settle_93 : decode cX1_settle 93 = .ok (.iadd, 1) := by decide +kernel
theorem dX1_settle_94 : decode cX1_settle 94 = .ok (.iastore, 1) := by decide +kernel
theorem dX1_settle_95 : decode cX1_settle 95 = .ok (.aload_n 0, 1) := by decide +kernel
theorem dX1_settle_96 : decode cX1_settle 96 = .ok (.getfield 9, 3) := by decide +kernel
theorem dX1_settle_99 : decode cX1_settle 99 = .ok (.aload_n 2, 1) := by decide +kernel
theorem dX1_settle_100 : decode cX1_settle 100 = .ok (.getfield 114, 3) := by decide +kernel
theorem dX1_settle_103 : decode cX1_settle 103 = .ok (.iconst 3, 1) := by decide +kernel
theorem dX1_settle_104 : decode cX1_settle 104 = .ok (.invokevirtual 118, 3) := by decide +kernel
theorem dX1_settle_107 : decode cX1_settle 107 = .ok (.pop, 1) := by decide +kernel
theorem dX1_settle_108 : decode cX1_settle 108 = .ok (.return_, 1) := by decide +kernel
theorem dX1_gather_0 : decode cX1_gather 0 = .ok (.aload_n 0, 1) := by decide +kernel
theorem dX1_gather_1 : decode cX1_gather 1 = .ok (.getfield 38, 3) := by decide +kernel
theorem dX1_gather_4 : decode cX1_gather 4 = .ok (.invokevirtual 72, 3) := by decide +kernel
theorem dX1_gather_7 : decode cX1_gather 7 = .ok (.aload_n 0, 1) := by decide +kernel
theorem dX1_gather_8 : decode cX1_gather 8 = .ok (.getfield 38, 3) := by decide +kernel
theorem dX1_gather_11 : decode cX1_gather 11 = .ok (.aload_n 0, 1) := by decide +kernel
theorem dX1_gather_12 : decode cX1_gather 12 = .ok (.getfield 35, 3) := by decide +kernel
theorem dX1_gather_15 : decode cX1_gather 15 = .ok (.iload_n 2, 1) := by decide +kernel
theorem dX1_gather_16 : decode cX1_gather 16 = .ok (.iload_n 1, 1) := by decide +kernel
theorem dX1_gather_17 : decode cX1_gather 17 = .ok (.invokevirtual 122, 3) := by decide +kernel
theorem dX1_gather_20 : decode cX1_gather 20 = .ok (.aload_n 0, 1) := by decide +kernel
theorem dX1_gather_21 : decode cX1_gather 21 = .ok (.getfield 62, 3) := by decide +kernel
theorem dX1_gather_24 : decode cX1_gather 24 = .ok (.iconst 1, 1) := by decide +kernel
theorem dX1_gather_25 : decode cX1_gather 25 = .ok (.iadd, 1) := by decide +kernel
theorem dX1_gather_26 : decode cX1_gather 26 = .ok (.iconst 4, 1) := by decide +kernel
theorem dX1_gather_27 : decode cX1_gather 27 = .ok (.imul, 1) := by decide +kernel
theorem dX1_gather_28 : decode cX1_gather 28 = .ok (.istore_n 3, 1) := by decide +kernel
theorem dX1_gather_29 : decode cX1_gather 29 = .ok (.iconst 0, 1) := by decide +kernel
theorem dX1_gather_30 : decode cX1_gather 30 = .ok (.istore 4, 2) := by decide +kernel
theorem dX1_gather_32 : decode cX1_gather 32 = .ok (.iload 4, 2) := by decide +kernel
theorem dX1_gather_34 : decode cX1_gather 34 = .ok (.bipush 32, 2) := by decide +kernel
theorem dX1_gather_36 : decode cX1_gather 36 = .ok (.if_icmp .ge 30, 3) := by decide +kernel
theorem dX1_gather_39 : decode cX1_gather 39 = .ok (.aload_n 0, 1) := by decide +kernel
theorem dX1_gather_40 : decode cX1_gather 40 = .ok (.getfield 38, 3) := by decide +kernel
theorem dX1_gather_43 : decode cX1_gather 43 = .ok (.aload_n 0, 1) := by decide +kernel
theorem dX1_gather_44 : decode cX1_gather 44 = .ok (.getfield 21, 3) := by decide +kernel
theorem dX1_gather_47 : decode cX1_gather 47 = .ok (.iload_n 3, 1) := by decide +kernel
theorem dX1_gather_48 : decode cX1_gather 48 = .ok (.iload 4, 2) := by decide +kernel
theorem dX1_gather_50 : decode cX1_gather 50 = .ok (.iadd, 1) := by decide +kernel
theorem dX1_gather_51 : decode cX1_gather 51 = .ok (.bipush 32, 2) := by decide +kernel
theorem dX1_gather_53 : decode cX1_gather 53 = .ok (.irem, 1) := by decide +kernel
theorem dX1_gather_54 : decode cX1_gather 54 = .ok (.aaload, 1) := by decide +kernel
theorem dX1_gather_55 : decode cX1_gather 55 = .ok (.iconst 0, 1) := by decide +kernel
theorem dX1_gather_56 : decode cX1_gather 56 = .ok (.iload_n 1, 1) := by decide +kernel
theorem dX1_gather_57 : decode cX1_gather 57 = .ok (.invokevirtual 122, 3) := by decide +kernel
theorem dX1_gather_60 : decode cX1_gather 60 = .ok (.iinc 4 1, 3) := by decide +kernel
theorem dX1_gather_63 : decode cX1_gather 63 = .ok (.goto (-31), 3) := by decide +kernel
theorem dX1_gather_66 : decode cX1_gather 66 = .ok (.aload_n 0, 1) := by decide +kernel
theorem dX1_gather_67 : decode cX1_gather 67 = .ok (.getfield 38, 3) := by decide +kernel
theorem dX1_gather_70 : decode cX1_gather 70 = .ok (.aload_n 0, 1) := by decide +kernel
theorem dX1_gather_71 : decode cX1_gather 71 = .ok (.getfield 31, 3) := by decide +kernel
theorem dX1_gather_74 : decode cX1_gather 74 = .ok (.iconst 0, 1) := by decide +kernel
theorem dX1_gather_75 : decode cX1_gather 75 = .ok (.iload_n 1, 1) := by decide +kernel
theorem dX1_gather_76 : decode cX1_gather 76 = .ok (.invokevirtual 122, 3) := by decide +kernel
theorem dX1_gather_79 : decode cX1_gather 79 = .ok (.return_, 1) := by decide +kernel
theorem dX1_killGroup_0 : decode cX1_killGroup 0 = .ok (.iconst 0, 1) := by decide +kernel
theorem dX1_killGroup_1 : decode cX1_killGroup 1 = .ok (.istore_n 1, 1) := by decide +kernel
theorem dX1_killGroup_2 : decode cX1_killGroup 2 = .ok (.iload_n 1, 1) := by decide +kernel
theorem dX1_killGroup_3 : decode cX1_killGroup 3 = .ok (.aload_n 0, 1) := by decide +kernel
theorem dX1_killGroup_4 : decode cX1_killGroup 4 = .ok (.getfield 38, 3) := by decide +kernel
theorem dX1_killGroup_7 : decode cX1_killGroup 7 = .ok (.getfield 79, 3) := by decide +kernel
theorem dX1_killGroup_10 : decode cX1_killGroup 10 = .ok (.if_icmp .ge 22, 3) := by decide +kernel
theorem dX1_killGroup_13 : decode cX1_killGroup 13 = .ok (.aload_n 0, 1) := by decide +kernel
theorem dX1_killGroup_14 : decode cX1_killGroup 14 = .ok (.aload_n 0, 1) := by decide +kernel
theorem dX1_killGroup_15 : decode cX1_killGroup 15 = .ok (.getfield 38, 3) := by decide +kernel
theorem dX1_killGroup_18 : decode cX1_killGroup 18 = .ok (.iload_n 1, 1) := by decide +kernel
theorem dX1_killGroup_19 : decode cX1_killGroup 19 = .ok (.invokevirtual 85, 3) := by decide +kernel
theorem dX1_killGroup_22 : decode cX1_killGroup 22 = .ok (.invokevirtual 111, 3) := by decide +kernel
theorem dX1_killGroup_25 : decode cX1_killGroup 25 = .ok (.pop, 1) := by decide +kernel
theorem dX1_killGroup_26 : decode cX1_killGroup 26 = .ok (.iinc 1 1, 3) := by decide +kernel
theorem dX1_killGroup_29 : decode cX1_killGroup 29 = .ok (.goto (-27), 3) := by decide +kernel
theorem dX1_killGroup_32 : decode cX1_killGroup 32 = .ok (.return_, 1) := by decide +kernel
theorem dX1_putAnew_0 : decode cX1_putAnew 0 = .ok (.aload_n 1, 1) := by decide +kernel
theorem dX1_putAnew_1 : decode cX1_putAnew 1 = .ok (.iconst 0, 1) := by decide +kernel
theorem dX1_putAnew_2 : decode cX1_putAnew 2 = .ok (.putfield 105, 3) := by decide +kernel
theorem dX1_putAnew_5 : decode cX1_putAnew 5 = .ok (.aload_n 0, 1) := by decide +kernel
theorem dX1_putAnew_6 : decode cX1_putAnew 6 = .ok (.getfield 15, 3) := by decide +kernel
theorem dX1_putAnew_9 : decode cX1_putAnew 9 = .ok (.bipush 10, 2) := by decide +kernel
theorem dX1_putAnew_11 : decode cX1_putAnew 11 = .ok (.dup2, 1) := by decide +kernel
theorem dX1_putAnew_12 : decode cX1_putAnew 12 = .ok (.iaload, 1) := by decide +kernel
theorem dX1_putAnew_13 : decode cX1_putAnew 13 = .ok (.iconst 1, 1) := by decide +kernel
theorem dX1_putAnew_14 : decode cX1_putAnew 14 = .ok (.iadd, 1) := by decide +kernel
theorem dX1_putAnew_15 : decode cX1_putAnew 15 = .ok (.iastore, 1) := by decide +kernel
theorem dX1_putAnew_16 : decode cX1_putAnew 16 = .ok (.aload_n 0, 1) := by decide +kernel
theorem dX1_putAnew_17 : decode cX1_putAnew 17 = .ok (.getfield 31, 3) := by decide +kernel
theorem dX1_putAnew_20 : decode cX1_putAnew 20 = .ok (.aload_n 1, 1) := by decide +kernel
theorem dX1_putAnew_21 : decode cX1_putAnew 21 = .ok (.invokevirtual 55, 3) := by decide +kernel
theorem dX1_putAnew_24 : decode cX1_putAnew 24 = .ok (.ifCond .ne 7, 3) := by decide +kernel
theorem dX1_putAnew_27 : decode cX1_putAnew 27 = .ok (.aload_n 0, 1) := by decide +kernel
theorem dX1_putAnew_28 : decode cX1_putAnew 28 = .ok (.invokevirtual 59, 3) := by decide +kernel
theorem dX1_putAnew_31 : decode cX1_putAnew 31 = .ok (.aload_n 0, 1) := by decide +kernel
theorem dX1_putAnew_32 : decode cX1_putAnew 32 = .ok (.getfield 31, 3) := by decide +kernel
theorem dX1_putAnew_35 : decode cX1_putAnew 35 = .ok (.aload_n 1, 1) := by decide +kernel
theorem dX1_putAnew_36 : decode cX1_putAnew 36 = .ok (.invokevirtual 68, 3) := by decide +kernel
theorem dX1_putAnew_39 : decode cX1_putAnew 39 = .ok (.return_, 1) := by decide +kernel
theorem dX1_wipe_0 : decode cX1_wipe 0 = .ok (.iconst 0, 1) := by decide +kernel
theorem dX1_wipe_1 : decode cX1_wipe 1 = .ok (.istore_n 1, 1) := by decide +kernel
theorem dX1_wipe_2 : decode cX1_wipe 2 = .ok (.iload_n 1, 1) := by decide +kernel
theorem dX1_wipe_3 : decode cX1_wipe 3 = .ok (.bipush 32, 2) := by decide +kernel
theorem dX1_wipe_5 : decode cX1_wipe 5 = .ok (.if_icmp .ge 18, 3) := by decide +kernel
theorem dX1_wipe_8 : decode cX1_wipe 8 = .ok (.aload_n 0, 1) := by decide +kernel
theorem dX1_wipe_9 : decode cX1_wipe 9 = .ok (.getfield 21, 3) := by decide +kernel
theorem dX1_wipe_12 : decode cX1_wipe 12 = .ok (.iload_n 1, 1) := by decide +kernel
theorem dX1_wipe_13 : decode cX1_wipe 13 = .ok (.aaload, 1) := by decide +kernel
theorem dX1_wipe_14 : decode cX1_wipe 14 = .ok (.invokevirtual 72, 3) := by decide +kernel
theorem dX1_wipe_17 : decode cX1_wipe 17 = .ok (.iinc 1 1, 3) := by decide +kernel
theorem dX1_wipe_20 : decode cX1_wipe 20 = .ok (.goto (-18), 3) := by decide +kernel
theorem dX1_wipe_23 : decode cX1_wipe 23 = .ok (.iconst 0, 1) := by decide +kernel
theorem dX1_wipe_24 : decode cX1_wipe 24 = .ok (.istore_n 1, 1) := by decide +kernel
theorem dX1_wipe_25 : decode cX1_wipe 25 = .ok (.iload_n 1, 1) := by decide +kernel
theorem dX1_wipe_26 : decode cX1_wipe 26 = .ok (.bipush 8, 2) := by decide +kernel
theorem dX1_wipe_28 : decode cX1_wipe 28 = .ok (.if_icmp .ge 16, 3) := by decide +kernel
theorem dX1_wipe_31 : decode cX1_wipe 31 = .ok (.aload_n 0, 1) := by decide +kernel
theorem dX1_wipe_32 : decode cX1_wipe 32 = .ok (.getfield 28, 3) := by decide +kernel
theorem dX1_wipe_35 : decode cX1_wipe 35 = .ok (.iload_n 1, 1) := by decide +kernel
theorem dX1_wipe_36 : decode cX1_wipe 36 = .ok (.iconst 0, 1) := by decide +kernel
theorem dX1_wipe_37 : decode cX1_wipe 37 = .ok (.iastore, 1) := by decide +kernel
theorem dX1_wipe_38 : decode cX1_wipe 38 = .ok (.iinc 1 1, 3) := by decide +kernel
theorem dX1_wipe_41 : decode cX1_wipe 41 = .ok (.goto (-16), 3) := by decide +kernel
theorem dX1_wipe_44 : decode cX1_wipe 44 = .ok (.aload_n 0, 1) := by decide +kernel
theorem dX1_wipe_45 : decode cX1_wipe 45 = .ok (.getfield 31, 3) := by decide +kernel
theorem dX1_wipe_48 : decode cX1_wipe 48 = .ok (.invokevirtual 72, 3) := by decide +kernel
theorem dX1_wipe_51 : decode cX1_wipe 51 = .ok (.aload_n 0, 1) := by decide +kernel
theorem dX1_wipe_52 : decode cX1_wipe 52 = .ok (.iconst 0, 1) := by decide +kernel
theorem dX1_wipe_53 : decode cX1_wipe 53 = .ok (.putfield 62, 3) := by decide +kernel
theorem dX1_wipe_56 : decode cX1_wipe 56 = .ok (.aload_n 0, 1) := by decide +kernel
theorem dX1_wipe_57 : decode cX1_wipe 57 = .ok (.iconst 0, 1) := by decide +kernel
theorem dX1_wipe_58 : decode cX1_wipe 58 = .ok (.putfield 51, 3) := by decide +kernel
theorem dX1_wipe_61 : decode cX1_wipe 61 = .ok (.return_, 1) := by decide +kernel
theorem dX1_countInSegment_0 : decode cX1_countInSegment 0 = .ok (.iload_n 1, 1) := by decide +kernel
theorem dX1_countInSegment_1 : decode cX1_countInSegment 1 = .ok (.ifCond .lt 9, 3) := by decide +kernel
theorem dX1_countInSegment_4 : decode cX1_countInSegment 4 = .ok (.iload_n 1, 1) := by decide +kernel
theorem dX1_countInSegment_5 : decode cX1_countInSegment 5 = .ok (.bipush 8, 2) := by decide +kernel
theorem dX1_countInSegment_7 : decode cX1_countInSegment 7 = .ok (.if_icmp .lt 5, 3) := by decide +kernel
theorem dX1_countInSegment_10 : decode cX1_countInSegment 10 = .ok (.iconst 0, 1) := by decide +kernel
theorem dX1_countInSegment_11 : decode cX1_countInSegment 11 = .ok (.ireturn, 1) := by decide +kernel
theorem dX1_countInSegment_12 : decode cX1_countInSegment 12 = .ok (.iconst 0, 1) := by decide +kernel
theorem dX1_countInSegment_13 : decode cX1_countInSegment 13 = .ok (.istore_n 2, 1) := by decide +kernel
theorem dX1_countInSegment_14 : decode cX1_countInSegment 14 = .ok (.iconst 0, 1) := by decide +kernel
theorem dX1_countInSegment_15 : decode cX1_countInSegment 15 = .ok (.istore_n 3, 1) := by decide +kernel
theorem dX1_countInSegment_16 : decode cX1_countInSegment 16 = .ok (.iload_n 3, 1) := by decide +kernel
theorem dX1_countInSegment_17 : decode cX1_countInSegment 17 = .ok (.iconst 4, 1) := by decide +kernel
theorem dX1_countInSegment_18 : decode cX1_countInSegment 18 = .ok (.if_icmp .ge 25, 3) := by decide +kernel
theorem dX1_countInSegment_21 : decode cX1_countInSegment 21 = .ok (.iload_n 2, 1) := by decide +kernel
theorem dX1_countInSegment_22 : decode cX1_countInSegment 22 = .ok (.aload_n 0, 1) := by decide +kernel
theorem dX1_countInSegment_23 : decode cX1_countInSegment 23 = .ok (.getfield 21, 3) := by decide +kernel
theorem dX1_countInSegment_26 : decode cX1_countInSegment 26 = .ok (.iload_n 1, 1) := by decide +kernel
theorem dX1_countInSegment_27 : decode cX1_countInSegment 27 = .ok (.iconst 4, 1) := by decide +kernel
theorem dX1_countInSegment_28 : decode cX1_countInSegment 28 = .ok (.imul, 1) := by decide +kernel
theorem dX1_countInSegment_29 : decode cX1_countInSegment 29 = .ok (.iload_n 3, 1) := by decide +kernel
theorem dX1_countInSegment_30 : decode cX1_countInSegment 30 = .ok (.iadd, 1) := by decide +kernel
theorem dX1_countInSegment_31 : decode cX1_countInSegment 31 = .ok (.aaload, 1) := by decide +kernel
theorem dX1_countInSegment_32 : decode cX1_countInSegment 32 = .ok (.invokevirtual 126, 3) := by decide +kernel
theorem dX1_countInSegment_35 : decode cX1_countInSegment 35 = .ok (.iadd, 1) := by decide +kernel
theorem dX1_countInSegment_36 : decode cX1_countInSegment 36 = .ok (.istore_n 2, 1) := by decide +kernel
theorem dX1_countInSegment_37 : decode cX1_countInSegment 37 = .ok (.iinc 3 1, 3) := by decide +kernel
theorem dX1_countInSegment_40 : decode cX1_countInSegment 40 = .ok (.goto (-24), 3) := by decide +kernel
theorem dX1_countInSegment_43 : decode cX1_countInSegment 43 = .ok (.iload_n 2, 1) := by decide +kernel
theorem dX1_countInSegment_44 : decode cX1_countInSegment 44 = .ok (.ireturn, 1) := by decide +kernel
theorem dX1_pagesFit_0 : decode cX1_pagesFit 0 = .ok (.iconst 0, 1) := by decide +kernel
theorem dX1_pagesFit_1 : decode cX1_pagesFit 1 = .ok (.istore_n 1, 1) := by decide +kernel
theorem dX1_pagesFit_2 : decode cX1_pagesFit 2 = .ok (.iload_n 1, 1) := by decide +kernel
theorem dX1_pagesFit_3 : decode cX1_pagesFit 3 = .ok (.bipush 32, 2) := by decide +kernel
theorem dX1_pagesFit_5 : decode cX1_pagesFit 5 = .ok (.if_icmp .ge 25, 3) := by decide +kernel
theorem dX1_pagesFit_8 : decode cX1_pagesFit 8 = .ok (.aload_n 0, 1) := by decide +kernel
theorem dX1_pagesFit_9 : decode cX1_pagesFit 9 = .ok (.getfield 21, 3) := by decide +kernel
theorem dX1_pagesFit_12 : decode cX1_pagesFit 12 = .ok (.iload_n 1, 1) := by decide +kernel
theorem dX1_pagesFit_13 : decode cX1_pagesFit 13 = .ok (.aaload, 1) := by decide +kernel
theorem dX1_pagesFit_14 : decode cX1_pagesFit 14 = .ok (.invokevirtual 130, 3) := by decide +kernel
theorem dX1_pagesFit_17 : decode cX1_pagesFit 17 = .ok (.bipush 32, 2) := by decide +kernel
theorem dX1_pagesFit_19 : decode cX1_pagesFit 19 = .ok (.if_icmp .le 5, 3) := by decide +kernel
theorem dX1_pagesFit_22 : decode cX1_pagesFit 22 = .ok (.iconst 0, 1) := by decide +kernel
theorem dX1_pagesFit_23 : decode cX1_pagesFit 23 = .ok (.ireturn, 1) := by decide +kernel
theorem dX1_pagesFit_24 : decode cX1_pagesFit 24 = .ok (.iinc 1 1, 3) := by decide +kernel
theorem dX1_pagesFit_27 : decode cX1_pagesFit 27 = .ok (.goto (-25), 3) := by decide +kernel
theorem dX1_pagesFit_30 : decode cX1_pagesFit 30 = .ok (.aload_n 0, 1) := by decide +kernel
theorem dX1_pagesFit_31 : decode cX1_pagesFit 31 = .ok (.getfield 31, 3) := by decide +kernel
theorem dX1_pagesFit_34 : decode cX1_pagesFit 34 = .ok (.invokevirtual 130, 3) := by decide +kernel
theorem dX1_pagesFit_37 : decode cX1_pagesFit 37 = .ok (.bipush 32, 2) := by decide +kernel
theorem dX1_pagesFit_39 : decode cX1_pagesFit 39 = .ok (.if_icmp .gt 7, 3) := by decide +kernel
theorem dX1_pagesFit_42 : decode cX1_pagesFit 42 = .ok (.iconst 1, 1) := by decide +kernel
theorem dX1_pagesFit_43 : decode cX1_pagesFit 43 = .ok (.goto 4, 3) := by decide +kernel
theorem dX1_pagesFit_46 : decode cX1_pagesFit 46 = .ok (.iconst 0, 1) := by decide +kernel
theorem dX1_pagesFit_47 : decode cX1_pagesFit 47 = .ok (.ireturn, 1) := by decide +kernel
theorem dX1_countIsRight_0 : decode cX1_countIsRight 0 = .ok (.aload_n 0, 1) := by decide +kernel
theorem dX1_countIsRight_1 : decode cX1_countIsRight 1 = .ok (.getfield 31, 3) := by decide +kernel
theorem dX1_countIsRight_4 : decode cX1_countIsRight 4 = .ok (.invokevirtual 126, 3) := by decide +kernel
theorem dX1_countIsRight_7 : decode cX1_countIsRight 7 = .ok (.istore_n 1, 1) := by decide +kernel
theorem dX1_countIsRight_8 : decode cX1_countIsRight 8 = .ok (.iconst 0, 1) := by decide +kernel
theorem dX1_countIsRight_9 : decode cX1_countIsRight 9 = .ok (.istore_n 2, 1) := by decide +kernel
theorem dX1_countIsRight_10 : decode cX1_countIsRight 10 = .ok (.iload_n 2, 1) := by decide +kernel
theorem dX1_countIsRight_11 : decode cX1_countIsRight 11 = .ok (.bipush 32, 2) := by decide +kernel
theorem dX1_countIsRight_13 : decode cX1_countIsRight 13 = .ok (.if_icmp .ge 21, 3) := by decide +kernel
theorem dX1_countIsRight_16 : decode cX1_countIsRight 16 = .ok (.iload_n 1, 1) := by decide +kernel
theorem dX1_countIsRight_17 : decode cX1_countIsRight 17 = .ok (.aload_n 0, 1) := by decide +kernel
theorem dX1_countIsRight_18 : decode cX1_countIsRight 18 = .ok (.getfield 21, 3) := by decide +kernel
theorem dX1_countIsRight_21 : decode cX1_countIsRight 21 = .ok (.iload_n 2, 1) := by decide +kernel
theorem dX1_countIsRight_22 : decode cX1_countIsRight 22 = .ok (.aaload, 1) := by decide +kernel
theorem dX1_countIsRight_23 : decode cX1_countIsRight 23 = .ok (.invokevirtual 126, 3) := by decide +kernel
theorem dX1_countIsRight_26 : decode cX1_countIsRight 26 = .ok (.iadd, 1) := by decide +kernel
theorem dX1_countIsRight_27 : decode cX1_countIsRight 27 = .ok (.istore_n 1, 1) := by decide +kernel
theorem dX1_countIsRight_28 : decode cX1_countIsRight 28 = .ok (.iinc 2 1, 3) := by decide +kernel
theorem dX1_countIsRight_31 : decode cX1_countIsRight 31 = .ok (.goto (-21), 3) := by decide +kernel
theorem dX1_countIsRight_34 : decode cX1_countIsRight 34 = .ok (.iload_n 1, 1) := by decide +kernel
theorem dX1_countIsRight_35 : decode cX1_countIsRight 35 = .ok (.aload_n 0, 1) := by decide +kernel
theorem dX1_countIsRight_36 : decode cX1_countIsRight 36 = .ok (.getfield 51, 3) := by decide +kernel
theorem dX1_countIsRight_39 : decode cX1_countIsRight 39 = .ok (.if_icmp .ne 7, 3) := by decide +kernel
theorem dX1_countIsRight_42 : decode cX1_countIsRight 42 = .ok (.iconst 1, 1) := by decide +kernel
theorem dX1_countIsRight_43 : decode cX1_countIsRight 43 = .ok (.goto 4, 3) := by decide +kernel
theorem dX1_countIsRight_46 : decode cX1_countIsRight 46 = .ok (.iconst 0, 1) := by decide +kernel
theorem dX1_countIsRight_47 : decode cX1_countIsRight 47 = .ok (.ireturn, 1) := by decide +kernel
theorem dX1_keysDiffer_0 : decode cX1_keysDiffer 0 = .ok (.iconst 0, 1) := by decide +kernel
theorem dX1_keysDiffer_1 : decode cX1_keysDiffer 1 = .ok (.istore_n 1, 1) := by decide +kernel
theorem dX1_keysDiffer_2 : decode cX1_keysDiffer 2 = .ok (.iload_n 1, 1) := by decide +kernel
theorem dX1_keysDiffer_3 : decode cX1_keysDiffer 3 = .ok (.bipush 64, 2) := by decide +kernel
theorem dX1_keysDiffer_5 : decode cX1_keysDiffer 5 = .ok (.if_icmp .ge 28, 3) := by decide +kernel
theorem dX1_keysDiffer_8 : decode cX1_keysDiffer 8 = .ok (.aload_n 0, 1) := by decide +kernel
theorem dX1_keysDiffer_9 : decode cX1_keysDiffer 9 = .ok (.iload_n 1, 1) := by decide +kernel
theorem dX1_keysDiffer_10 : decode cX1_keysDiffer 10 = .ok (.iconst 0, 1) := by decide +kernel
theorem dX1_keysDiffer_11 : decode cX1_keysDiffer 11 = .ok (.invokevirtual 92, 3) := by decide +kernel
theorem dX1_keysDiffer_14 : decode cX1_keysDiffer 14 = .ok (.aload_n 0, 1) := by decide +kernel
theorem dX1_keysDiffer_15 : decode cX1_keysDiffer 15 = .ok (.getfield 38, 3) := by decide +kernel
theorem dX1_keysDiffer_18 : decode cX1_keysDiffer 18 = .ok (.iload_n 1, 1) := by decide +kernel
theorem dX1_keysDiffer_19 : decode cX1_keysDiffer 19 = .ok (.invokevirtual 133, 3) := by decide +kernel
theorem dX1_keysDiffer_22 : decode cX1_keysDiffer 22 = .ok (.ifCond .ne 5, 3) := by decide +kernel
theorem dX1_keysDiffer_25 : decode cX1_keysDiffer 25 = .ok (.iconst 0, 1) := by decide +kernel
theorem dX1_keysDiffer_26 : decode cX1_keysDiffer 26 = .ok (.ireturn, 1) := by decide +kernel
theorem dX1_keysDiffer_27 : decode cX1_keysDiffer 27 = .ok (.iinc 1 1, 3) := by decide +kernel
theorem dX1_keysDiffer_30 : decode cX1_keysDiffer 30 = .ok (.goto (-28), 3) := by decide +kernel
theorem dX1_keysDiffer_33 : decode cX1_keysDiffer 33 = .ok (.iconst 1, 1) := by decide +kernel
theorem dX1_keysDiffer_34 : decode cX1_keysDiffer 34 = .ok (.ireturn, 1) := by decide +kernel
theorem dX4_init_0 : decode cX4_init 0 = .ok (.aload_n 0, 1) := by decide +kernel
theorem dX4_init_1 : decode cX4_init 1 = .ok (.invokespecial 3, 3) := by decide +kernel
theorem dX4_init_4 : decode cX4_init 4 = .ok (.aload_n 0, 1) := by decide +kernel
theorem dX4_init_5 : decode cX4_init 5 = .ok (.bipush 12, 2) := by decide +kernel
theorem dX4_init_7 : decode cX4_init 7 = .ok (.newarray .int, 2) := by decide +kernel
theorem dX4_init_9 : decode cX4_init 9 = .ok (.putfield 9, 3) := by decide +kernel
theorem dX4_init_12 : decode cX4_init 12 = .ok (.aload_n 0, 1) := by decide +kernel
theorem dX4_init_13 : decode cX4_init 13 = .ok (.new 13, 3) := by decide +kernel
theorem dX4_init_16 : decode cX4_init 16 = .ok (.dup, 1) := by decide +kernel
theorem dX4_init_17 : decode cX4_init 17 = .ok (.aload_n 0, 1) := by decide +kernel
theorem dX4_init_18 : decode cX4_init 18 = .ok (.getfield 9, 3) := by decide +kernel
theorem dX4_init_21 : decode cX4_init 21 = .ok (.invokespecial 15, 3) := by decide +kernel
theorem dX4_init_24 : decode cX4_init 24 = .ok (.putfield 18, 3) := by decide +kernel
theorem dX4_init_27 : decode cX4_init 27 = .ok (.aload_n 0, 1) := by decide +kernel
theorem dX4_init_28 : decode cX4_init 28 = .ok (.new 22, 3) := by decide +kernel
theorem dX4_init_31 : decode cX4_init 31 = .ok (.dup, 1) := by decide +kernel
theorem dX4_init_32 : decode cX4_init 32 = .ok (.aload_n 0, 1) := by decide +kernel
theorem dX4_init_33 : decode cX4_init 33 = .ok (.getfield 18, 3) := by decide +kernel
theorem dX4_init_36 : decode cX4_init 36 = .ok (.aload_n 0, 1) := by decide +kernel
theorem dX4_init_37 : decode cX4_init 37 = .ok (.getfield 9, 3) := by decide +kernel
theorem dX4_init_40 : decode cX4_init 40 = .ok (.invokespecial 24, 3) := by decide +kernel
theorem dX4_init_43 : decode cX4_init 43 = .ok (.putfield 27, 3) := by decide +kernel
theorem dX4_init_46 : decode cX4_init 46 = .ok (.return_, 1) := by decide +kernel
theorem dX4_put_0 : decode cX4_put 0 = .ok (.aload_n 0, 1) := by decide +kernel
theorem dX4_put_1 : decode cX4_put 1 = .ok (.getfield 31, 3) := by decide +kernel
theorem dX4_put_4 : decode cX4_put 4 = .ok (.ifCond .eq 6, 3) := by decide +kernel
theorem dX4_put_7 : decode cX4_put 7 = .ok (.bipush (-2), 2) := by decide +kernel
theorem dX4_put_9 : decode cX4_put 9 = .ok (.ireturn, 1) := by decide +kernel
theorem dX4_put_10 : decode cX4_put 10 = .ok (.iload_n 3, 1) := by decide +kernel
theorem dX4_put_11 : decode cX4_put 11 = .ok (.iconst 1, 1) := by decide +kernel
theorem dX4_put_12 : decode cX4_put 12 = .ok (.if_icmp .lt 9, 3) := by decide +kernel
theorem dX4_put_15 : decode cX4_put 15 = .ok (.iload_n 3, 1) := by decide +kernel
theorem dX4_put_16 : decode cX4_put 16 = .ok (.bipush 12, 2) := by decide +kernel
theorem dX4_put_18 : decode cX4_put 18 = .ok (.if_icmp .le 5, 3) := by decide +kernel
theorem dX4_put_21 : decode cX4_put 21 = .ok (.iconst (-1), 1) := by decide +kernel
theorem dX4_put_22 : decode cX4_put 22 = .ok (.ireturn, 1) := by decide +kernel
theorem dX4_put_23 : decode cX4_put 23 = .ok (.aload_n 0, 1) := by decide +kernel
theorem dX4_put_24 : decode cX4_put 24 = .ok (.getfield 27, 3) := by decide +kernel
theorem dX4_put_27 : decode cX4_put 27 = .ok (.aload_n 0, 1) := by decide +kernel
theorem dX4_put_28 : decode cX4_put 28 = .ok (.getfield 27, 3) := by decide +kernel
theorem dX4_put_31 : decode cX4_put 31 = .ok (.lload_n 1, 1) := by decide +kernel
theorem dX4_put_32 : decode cX4_put 32 = .ok (.invokevirtual 35, 3) := by decide +kernel
theorem dX4_put_35 : decode cX4_put 35 = .ok (.invokevirtual 39, 3) := by decide +kernel
theorem dX4_put_38 : decode cX4_put 38 = .ok (.pop, 1) := by decide +kernel
theorem dX4_put_39 : decode cX4_put 39 = .ok (.aload_n 0, 1) := by decide +kernel
theorem dX4_put_40 : decode cX4_put 40 = .ok (.getfield 27, 3) := by decide +kernel
theorem dX4_put_43 : decode cX4_put 43 = .ok (.new 43, 3) := by decide +kernel
theorem dX4_put_46 : decode cX4_put 46 = .ok (.dup, 1) := by decide +kernel
theorem dX4_put_47 : decode cX4_put 47 = .ok (.lload_n 1, 1) := by decide +kernel
theorem dX4_put_48 : decode cX4_put 48 = .ok (.iload_n 3, 1) := by decide +kernel
theorem dX4_put_49 : decode cX4_put 49 = .ok (.iload 4, 2) := by decide +kernel
theorem dX4_put_51 : decode cX4_put 51 = .ok (.iload 5, 2) := by decide +kernel
theorem dX4_put_53 : decode cX4_put 53 = .ok (.invokespecial 45, 3) := by decide +kernel
theorem dX4_put_56 : decode cX4_put 56 = .ok (.invokevirtual 48, 3) := by decide +kernel
theorem dX4_put_59 : decode cX4_put 59 = .ok (.iconst 1, 1) := by decide +kernel
theorem dX4_put_60 : decode cX4_put 60 = .ok (.ireturn, 1) := by decide +kernel
theorem dX4_get_0 : decode cX4_get 0 = .ok (.aload_n 0, 1) := by decide +kernel
theorem dX4_get_1 : decode cX4_get 1 = .ok (.getfield 31, 3) := by decide +kernel
theorem dX4_get_4 : decode cX4_get 4 = .ok (.ifCond .eq 6, 3) := by decide +kernel
theorem dX4_get_7 : decode cX4_get 7 = .ok (.bipush (-2), 2) := by decide +kernel
theorem dX4_get_9 : decode cX4_get 9 = .ok (.ireturn, 1) := by decide +kernel
theorem dX4_get_10 : decode cX4_get 10 = .ok (.aload_n 0, 1) := by decide +kernel
theorem dX4_get_11 : decode cX4_get 11 = .ok (.getfield 27, 3) := by decide +kernel
theorem dX4_get_14 : decode cX4_get 14 = .ok (.lload_n 1, 1) := by decide +kernel
theorem dX4_get_15 : decode cX4_get 15 = .ok (.invokevirtual 35, 3) := by decide +kernel
theorem dX4_get_18 : decode cX4_get 18 = .ok (.astore_n 3, 1) := by decide +kernel
theorem dX4_get_19 : decode cX4_get 19 = .ok (.aload_n 3, 1) := by decide +kernel
theorem dX4_get_20 : decode cX4_get 20 = .ok (.ifnonnull 12, 3) := by decide +kernel
theorem dX4_get_23 : decode cX4_get 23 = .ok (.aload_n 0, 1) := by decide +kernel
theorem dX4_get_24 : decode cX4_get 24 = .ok (.getfield 18, 3) := by decide +kernel
theorem dX4_get_27 : decode cX4_get 27 = .ok (.lload_n 1, 1) := by decide +kernel
theorem dX4_get_28 : decode cX4_get 28 = .ok (.invokevirtual 52, 3) := by decide +kernel
theorem dX4_get_31 : decode cX4_get 31 = .ok (.astore_n 3, 1) := by decide +kernel
theorem dX4_get_32 : decode cX4_get 32 = .ok (.aload_n 3, 1) := by decide +kernel
theorem dX4_get_33 : decode cX4_get 33 = .ok (.ifnonnull 5, 3) := by decide +kernel
theorem dX4_get_36 : decode cX4_get 36 = .ok (.iconst 0, 1) := by decide +kernel
theorem dX4_get_37 : decode cX4_get 37 = .ok (.ireturn, 1) := by decide +kernel
theorem dX4_get_38 : decode cX4_get 38 = .ok (.aload_n 3, 1) := by decide +kernel
theorem dX4_get_39 : decode cX4_get 39 = .ok (.iconst 1, 1) := by decide +kernel
theorem dX4_get_40 : decode cX4_get 40 = .ok (.putfield 55, 3) := by decide +kernel
theorem dX4_get_43 : decode cX4_get 43 = .ok (.aload_n 0, 1) := by decide +kernel
theorem dX4_get_44 : decode cX4_get 44 = .ok (.aload_n 3, 1) := by decide +kernel
theorem dX4_get_45 : decode cX4_get 45 = .ok (.getfield 58, 3) := by decide +kernel
theorem dX4_get_48 : decode cX4_get 48 = .ok (.putfield 62, 3) := by decide +kernel
theorem dX4_get_51 : decode cX4_get 51 = .ok (.aload_n 0, 1) := by decide +kernel
theorem dX4_get_52 : decode cX4_get 52 = .ok (.aload_n 3, 1) := by decide +kernel
theorem dX4_get_53 : decode cX4_get 53 = .ok (.getfield 65, 3) := by decide +kernel
theorem dX4_get_56 : decode cX4_get 56 = .ok (.putfield 68, 3) := by decide +kernel
theorem dX4_get_59 : decode cX4_get 59 = .ok (.aload_n 0, 1) := by decide +kernel
theorem dX4_get_60 : decode cX4_get 60 = .ok (.aload_n 3, 1) := by decide +kernel
theorem dX4_get_61 : decode cX4_get 61 = .ok (.getfield 71, 3) := by decide +kernel
theorem dX4_get_64 : decode cX4_get 64 = .ok (.putfield 74, 3) := by decide +kernel
theorem dX4_get_67 : decode cX4_get 67 = .ok (.aload_n 0, 1) := by decide +kernel
theorem dX4_get_68 : decode cX4_get 68 = .ok (.getfield 62, 3) := by decide +kernel
theorem dX4_get_71 : decode cX4_get 71 = .ok (.ireturn, 1) := by decide +kernel
theorem dX4_got_0 : decode cX4_got 0 = .ok (.iload_n 1, 1) := by decide +kernel
theorem dX4_got_1 : decode cX4_got 1 = .ok (.ifCond .lt 25, 3) := by decide +kernel
theorem dX4_got_4 : decode cX4_got 4 = .ok (.iload_n 1, 1) := by decide +kernel
theorem dX4_got_5 : decode cX4_got 5 = .ok (.aload_n 0, 1) := by decide +kernel
theorem dX4_got_6 : decode cX4_got 6 = .ok (.getfield 62, 3) := by decide +kernel
theorem dX4_got_9 : decode cX4_got 9 = .ok (.if_icmp .ge 17, 3) := by decide +kernel
theorem dX4_got_12 : decode cX4_got 12 = .ok (.aload_n 0, 1) := by decide +kernel
theorem dX4_got_13 : decode cX4_got 13 = .ok (.getfield 68, 3) := by decide +kernel
theorem dX4_got_16 : decode cX4_got 16 = .ok (.iload_n 1, 1) := by decide +kernel
theorem dX4_got_17 : decode cX4_got 17 = .ok (.aload_n 0, 1) := by decide +kernel
theorem dX4_got_18 : decode cX4_got 18 = .ok (.getfield 74, 3) := by decide +kernel
theorem dX4_got_21 : decode cX4_got 21 = .ok (.imul, 1) := by decide +kernel
theorem dX4_got_22 : decode cX4_got 22 = .ok (.iadd, 1) := by decide +kernel
theorem dX4_got_23 : decode cX4_got 23 = .ok (.goto 4, 3) := by decide +kernel
theorem dX4_got_26 : decode cX4_got 26 = .ok (.iconst 0, 1) := by decide +kernel
theorem dX4_got_27 : decode cX4_got 27 = .ok (.ireturn, 1) := by decide +kernel
theorem dX4_remove_0 : decode cX4_remove 0 = .ok (.aload_n 0, 1) := by decide +kernel
theorem dX4_remove_1 : decode cX4_remove 1 = .ok (.getfield 31, 3) := by decide +kernel
theorem dX4_remove_4 : decode cX4_remove 4 = .ok (.ifCond .eq 6, 3) := by decide +kernel
theorem dX4_remove_7 : decode cX4_remove 7 = .ok (.bipush (-2), 2) := by decide +kernel
theorem dX4_remove_9 : decode cX4_remove 9 = .ok (.ireturn, 1) := by decide +kernel
theorem dX4_remove_10 : decode cX4_remove 10 = .ok (.aload_n 0, 1) := by decide +kernel
theorem dX4_remove_11 : decode cX4_remove 11 = .ok (.getfield 27, 3) := by decide +kernel
theorem dX4_remove_14 : decode cX4_remove 14 = .ok (.aload_n 0, 1) := by decide +kernel
theorem dX4_remove_15 : decode cX4_remove 15 = .ok (.getfield 27, 3) := by decide +kernel
theorem dX4_remove_18 : decode cX4_remove 18 = .ok (.lload_n 1, 1) := by decide +kernel
theorem dX4_remove_19 : decode cX4_remove 19 = .ok (.invokevirtual 35, 3) := by decide +kernel
theorem dX4_remove_22 : decode cX4_remove 22 = .ok (.invokevirtual 39, 3) := by decide +kernel
theorem dX4_remove_25 : decode cX4_remove 25 = .ok (.istore_n 3, 1) := by decide +kernel
theorem dX4_remove_26 : decode cX4_remove 26 = .ok (.aload_n 0, 1) := by decide +kernel
theorem dX4_remove_27 : decode cX4_remove 27 = .ok (.getfield 18, 3) := by decide +kernel
theorem dX4_remove_30 : decode cX4_remove 30 = .ok (.lload_n 1, 1) := by decide +kernel
theorem dX4_remove_31 : decode cX4_remove 31 = .ok (.iconst 4, 1) := by decide +kernel
theorem dX4_remove_32 : decode cX4_remove 32 = .ok (.invokevirtual 77, 3) := by decide +kernel
theorem dX4_remove_35 : decode cX4_remove 35 = .ok (.istore 4, 2) := by decide +kernel
theorem dX4_remove_37 : decode cX4_remove 37 = .ok (.iload_n 3, 1) := by decide +kernel
theorem dX4_remove_38 : decode cX4_remove 38 = .ok (.ifCond .ne 8, 3) := by decide +kernel
theorem dX4_remove_41 : decode cX4_remove 41 = .ok (.iload 4, 2) := by decide +kernel
theorem dX4_remove_43 : decode cX4_remove 43 = .ok (.ifCond .eq 7, 3) := by decide +kernel
theorem dX4_remove_46 : decode cX4_remove 46 = .ok (.iconst 1, 1) := by decide +kernel
theorem dX4_remove_47 : decode cX4_remove 47 = .ok (.goto 4, 3) := by decide +kernel
theorem dX4_remove_50 : decode cX4_remove 50 = .ok (.iconst 0, 1) := by decide +kernel
theorem dX4_remove_51 : decode cX4_remove 51 = .ok (.ireturn, 1) := by decide +kernel
theorem dX4_mix_0 : decode cX4_mix 0 = .ok (.lload_n 1, 1) := by decide +kernel
theorem dX4_mix_1 : decode cX4_mix 1 = .ok (.invokestatic 81, 3) := by decide +kernel
theorem dX4_mix_4 : decode cX4_mix 4 = .ok (.lreturn, 1) := by decide +kernel
theorem dX4_unmix_0 : decode cX4_unmix 0 = .ok (.lload_n 1, 1) := by decide +kernel
theorem dX4_unmix_1 : decode cX4_unmix 1 = .ok (.lload_n 1, 1) := by decide +kernel
theorem dX4_unmix_2 : decode cX4_unmix 2 = .ok (.bipush 32, 2) := by decide +kernel
theorem dX4_unmix_4 : decode cX4_unmix 4 = .ok (.lushr, 1) := by decide +kernel
theorem dX4_unmix_5 : decode cX4_unmix 5 = .ok (.lxor, 1) := by decide +kernel
theorem dX4_unmix_6 : decode cX4_unmix 6 = .ok (.ldc2_w 85, 3) := by decide +kernel
theorem dX4_unmix_9 : decode cX4_unmix 9 = .ok (.lmul, 1) := by decide +kernel
theorem dX4_unmix_10 : decode cX4_unmix 10 = .ok (.lstore_n 3, 1) := by decide +kernel
theorem dX4_unmix_11 : decode cX4_unmix 11 = .ok (.lload_n 3, 1) := by decide +kernel
theorem dX4_unmix_12 : decode cX4_unmix 12 = .ok (.lload_n 3, 1) := by decide +kernel
theorem dX4_unmix_13 : decode cX4_unmix 13 = .ok (.bipush 32, 2) := by decide +kernel
theorem dX4_unmix_15 : decode cX4_unmix 15 = .ok (.lushr, 1) := by decide +kernel
theorem dX4_unmix_16 : decode cX4_unmix 16 = .ok (.lxor, 1) := by decide +kernel
theorem dX4_unmix_17 : decode cX4_unmix 17 = .ok (.ldc2_w 85, 3) := by decide +kernel
theorem dX4_unmix_20 : decode cX4_unmix 20 = .ok (.lmul, 1) := by decide +kernel
theorem dX4_unmix_21 : decode cX4_unmix 21 = .ok (.lstore_n 3, 1) := by decide +kernel
theorem dX4_unmix_22 : decode cX4_unmix 22 = .ok (.lload_n 3, 1) := by decide +kernel
theorem dX4_unmix_23 : decode cX4_unmix 23 = .ok (.lload_n 3, 1) := by decide +kernel
theorem dX4_unmix_24 : decode cX4_unmix 24 = .ok (.bipush 32, 2) := by decide +kernel
theorem dX4_unmix_26 : decode cX4_unmix 26 = .ok (.lushr, 1) := by decide +kernel
theorem dX4_unmix_27 : decode cX4_unmix 27 = .ok (.lxor, 1) := by decide +kernel
theorem dX4_unmix_28 : decode cX4_unmix 28 = .ok (.lreturn, 1) := by decide +kernel
theorem dX4_setOf_0 : decode cX4_setOf 0 = .ok (.lload_n 1, 1) := by decide +kernel
theorem dX4_setOf_1 : decode cX4_setOf 1 = .ok (.invokestatic 81, 3) := by decide +kernel
theorem dX4_setOf_4 : decode cX4_setOf 4 = .ok (.invokestatic 87, 3) := by decide +kernel
theorem dX4_setOf_7 : decode cX4_setOf 7 = .ok (.ireturn, 1) := by decide +kernel
theorem dX4_where_0 : decode cX4_where 0 = .ok (.aload_n 0, 1) := by decide +kernel
theorem dX4_where_1 : decode cX4_where 1 = .ok (.getfield 31, 3) := by decide +kernel
theorem dX4_where_4 : decode cX4_where 4 = .ok (.ifCond .eq 6, 3) := by decide +kernel
theorem dX4_where_7 : decode cX4_where 7 = .ok (.bipush (-2), 2) := by decide +kernel
theorem dX4_where_9 : decode cX4_where 9 = .ok (.ireturn, 1) := by decide +kernel
theorem dX4_where_10 : decode cX4_where 10 = .ok (.aload_n 0, 1) := by decide +kernel
theorem dX4_where_11 : decode cX4_where 11 = .ok (.getfield 27, 3) := by decide +kernel
theorem dX4_where_14 : decode cX4_where 14 = .ok (.lload_n 1, 1) := by decide +kernel
theorem dX4_where_15 : decode cX4_where 15 = .ok (.invokevirtual 35, 3) := by decide +kernel
theorem dX4_where_18 : decode cX4_where 18 = .ok (.ifnull 5, 3) := by decide +kernel
theorem dX4_where_21 : decode cX4_where 21 = .ok (.iconst 1, 1) := by decide +kernel
theorem dX4_where_22 : decode cX4_where 22 = .ok (.ireturn, 1) := by decide +kernel
theorem dX4_where_23 : decode cX4_where 23 = .ok (.aload_n 0, 1) := by decide +kernel
theorem dX4_where_24 : decode cX4_where 24 = .ok (.getfield 18, 3) := by decide +kernel
theorem dX4_where_27 : decode cX4_where 27 = .ok (.lload_n 1, 1) := by decide +kernel
theorem dX4_where_28 : decode cX4_where 28 = .ok (.invokevirtual 91, 3) := by decide +kernel
theorem dX4_where_31 : decode cX4_where 31 = .ok (.ifnull 7, 3) := by decide +kernel
theorem dX4_where_34 : decode cX4_where 34 = .ok (.iconst 2, 1) := by decide +kernel
theorem dX4_where_35 : decode cX4_where 35 = .ok (.goto 4, 3) := by decide +kernel
theorem dX4_where_38 : decode cX4_where 38 = .ok (.iconst 0, 1) := by decide +kernel
theorem dX4_where_39 : decode cX4_where 39 = .ok (.ireturn, 1) := by decide +kernel
theorem dX4_mark_0 : decode cX4_mark 0 = .ok (.aload_n 0, 1) := by decide +kernel
theorem dX4_mark_1 : decode cX4_mark 1 = .ok (.getfield 31, 3) := by decide +kernel
theorem dX4_mark_4 : decode cX4_mark 4 = .ok (.ifCond .eq 6, 3) := by decide +kernel
theorem dX4_mark_7 : decode cX4_mark 7 = .ok (.bipush (-2), 2) := by decide +kernel
theorem dX4_mark_9 : decode cX4_mark 9 = .ok (.ireturn, 1) := by decide +kernel
theorem dX4_mark_10 : decode cX4_mark 10 = .ok (.aload_n 0, 1) := by decide +kernel
theorem dX4_mark_11 : decode cX4_mark 11 = .ok (.getfield 27, 3) := by decide +kernel
theorem dX4_mark_14 : decode cX4_mark 14 = .ok (.lload_n 1, 1) := by decide +kernel
theorem dX4_mark_15 : decode cX4_mark 15 = .ok (.invokevirtual 35, 3) := by decide +kernel
theorem dX4_mark_18 : decode cX4_mark 18 = .ok (.astore_n 3, 1) := by decide +kernel
theorem dX4_mark_19 : decode cX4_mark 19 = .ok (.aload_n 3, 1) := by decide +kernel
theorem dX4_mark_20 : decode cX4_mark 20 = .ok (.ifnonnull 12, 3) := by decide +kernel
theorem dX4_mark_23 : decode cX4_mark 23 = .ok (.aload_n 0, 1) := by decide +kernel
theorem dX4_mark_24 : decode cX4_mark 24 = .ok (.getfield 18, 3) := by decide +kernel
theorem dX4_mark_27 : decode cX4_mark 27 = .ok (.lload_n 1, 1) := by decide +kernel
theorem dX4_mark_28 : decode cX4_mark 28 = .ok (.invokevirtual 91, 3) := by decide +kernel
theorem dX4_mark_31 : decode cX4_mark 31 = .ok (.astore_n 3, 1) := by decide +kernel
theorem dX4_mark_32 : decode cX4_mark 32 = .ok (.aload_n 3, 1) := by decide +kernel
theorem dX4_mark_33 : decode cX4_mark 33 = .ok (.ifnull 14, 3) := by decide +kernel
theorem dX4_mark_36 : decode cX4_mark 36 = .ok (.aload_n 3, 1) := by decide +kernel
theorem dX4_mark_37 : decode cX4_mark 37 = .ok (.getfield 55, 3) := by decide +kernel
theorem dX4_mark_40 : decode cX4_mark 40 = .ok (.ifCond .eq 7, 3) := by decide +kernel
theorem dX4_mark_43 : decode cX4_mark 43 = .ok (.iconst 1, 1) := by decide +kernel
theorem dX4_mark_44 : decode cX4_mark 44 = .ok (.goto 4, 3) := by decide +kernel
theorem dX4_mark_47 : decode cX4_mark 47 = .ok (.iconst 0, 1) := by decide +kernel
theorem dX4_mark_48 : decode cX4_mark 48 = .ok (.ireturn, 1) := by decide +kernel
theorem dX4_stands_0 : decode cX4_stands 0 = .ok (.aload_n 0, 1) := by decide +kernel
theorem dX4_stands_1 : decode cX4_stands 1 = .ok (.getfield 31, 3) := by decide +kernel
theorem dX4_stands_4 : decode cX4_stands 4 = .ok (.ifCond .eq 6, 3) := by decide +kernel
theorem dX4_stands_7 : decode cX4_stands 7 = .ok (.bipush (-2), 2) := by decide +kernel
theorem dX4_stands_9 : decode cX4_stands 9 = .ok (.ireturn, 1) := by decide +kernel
theorem dX4_stands_10 : decode cX4_stands 10 = .ok (.iload_n 1, 1) := by decide +kernel
theorem dX4_stands_11 : decode cX4_stands 11 = .ok (.invokestatic 92, 3) := by decide +kernel
theorem dX4_stands_14 : decode cX4_stands 14 = .ok (.ifCond .eq 18, 3) := by decide +kernel
theorem dX4_stands_17 : decode cX4_stands 17 = .ok (.aload_n 0, 1) := by decide +kernel
theorem dX4_stands_18 : decode cX4_stands 18 = .ok (.getfield 18, 3) := by decide +kernel
theorem dX4_stands_21 : decode cX4_stands 21 = .ok (.getfield 96, 3) := by decide +kernel
theorem dX4_stands_24 : decode cX4_stands 24 = .ok (.iload_n 1, 1) := by decide +kernel
theorem dX4_stands_25 : decode cX4_stands 25 = .ok (.aaload, 1) := by decide +kernel
theorem dX4_stands_26 : decode cX4_stands 26 = .ok (.getfield 100, 3) := by decide +kernel
theorem dX4_stands_29 : decode cX4_stands 29 = .ok (.goto 4, 3) := by decide +kernel
theorem dX4_stands_32 : decode cX4_stands 32 = .ok (.iconst (-1), 1) := by decide +kernel
theorem dX4_stands_33 : decode cX4_stands 33 = .ok (.ireturn, 1) := by decide +kernel
theorem dX4_key_0 : decode cX4_key 0 = .ok (.aload_n 0, 1) := by decide +kernel
theorem dX4_key_1 : decode cX4_key 1 = .ok (.getfield 31, 3) := by decide +kernel
theorem dX4_key_4 : decode cX4_key 4 = .ok (.ifCond .ne 10, 3) := by decide +kernel
theorem dX4_key_7 : decode cX4_key 7 = .ok (.iload_n 1, 1) := by decide +kernel
theorem dX4_key_8 : decode cX4_key 8 = .ok (.invokestatic 92, 3) := by decide +kernel
theorem dX4_key_11 : decode cX4_key 11 = .ok (.ifCond .ne 5, 3) := by decide +kernel
theorem dX4_key_14 : decode cX4_key 14 = .ok (.lconst 0, 1) := by decide +kernel
theorem dX4_key_15 : decode cX4_key 15 = .ok (.lreturn, 1) := by decide +kernel
theorem dX4_key_16 : decode cX4_key 16 = .ok (.aload_n 0, 1) := by decide +kernel
theorem dX4_key_17 : decode cX4_key 17 = .ok (.getfield 18, 3) := by decide +kernel
theorem dX4_key_20 : decode cX4_key 20 = .ok (.getfield 96, 3) := by decide +kernel
theorem dX4_key_23 : decode cX4_key 23 = .ok (.iload_n 1, 1) := by decide +kernel
theorem dX4_key_24 : decode cX4_key 24 = .ok (.aaload, 1) := by decide +kernel
theorem dX4_key_25 : decode cX4_key 25 = .ok (.iload_n 2, 1) := by decide +kernel
theorem dX4_key_26 : decode cX4_key 26 = .ok (.invokevirtual 105, 3) := by decide +kernel
theorem dX4_key_29 : decode cX4_key 29 = .ok (.astore_n 3, 1) := by decide +kernel
theorem dX4_key_30 : decode cX4_key 30 = .ok (.aload_n 3, 1) := by decide +kernel
theorem dX4_key_31 : decode cX4_key 31 = .ok (.ifnull 10, 3) := by decide +kernel
theorem dX4_key_34 : decode cX4_key 34 = .ok (.aload_n 3, 1) := by decide +kernel
theorem dX4_key_35 : decode cX4_key 35 = .ok (.getfield 109, 3) := by decide +kernel
theorem dX4_key_38 : decode cX4_key 38 = .ok (.goto 4, 3) := by decide +kernel
theorem dX4_key_41 : decode cX4_key 41 = .ok (.lconst 0, 1) := by decide +kernel
theorem dX4_key_42 : decode cX4_key 42 = .ok (.lreturn, 1) := by decide +kernel
theorem dX4_filter_0 : decode cX4_filter 0 = .ok (.aload_n 0, 1) := by decide +kernel
theorem dX4_filter_1 : decode cX4_filter 1 = .ok (.getfield 31, 3) := by decide +kernel
theorem dX4_filter_4 : decode cX4_filter 4 = .ok (.ifCond .ne 10, 3) := by decide +kernel
theorem dX4_filter_7 : decode cX4_filter 7 = .ok (.iload_n 1, 1) := by decide +kernel
theorem dX4_filter_8 : decode cX4_filter 8 = .ok (.invokestatic 92, 3) := by decide +kernel
theorem dX4_filter_11 : decode cX4_filter 11 = .ok (.ifCond .ne 7, 3) := by decide +kernel
theorem dX4_filter_14 : decode cX4_filter 14 = .ok (.lconst 0, 1) := by decide +kernel
theorem dX4_filter_15 : decode cX4_filter 15 = .ok (.goto 12, 3) := by decide +kernel
theorem dX4_filter_18 : decode cX4_filter 18 = .ok (.aload_n 0, 1) := by decide +kernel
theorem dX4_filter_19 : decode cX4_filter 19 = .ok (.getfield 18, 3) := by decide +kernel
theorem dX4_filter_22 : decode cX4_filter 22 = .ok (.getfield 113, 3) := by decide +kernel
theorem dX4_filter_25 : decode cX4_filter 25 = .ok (.iload_n 1, 1) := by decide +kernel
theorem dX4_filter_26 : decode cX4_filter 26 = .ok (.laload, 1) := by decide +kernel
theorem dX4_filter_27 : decode cX4_filter 27 = .ok (.lreturn, 1) := by decide +kernel
theorem dX4_alive_0 : decode cX4_alive 0 = .ok (.aload_n 0, 1) := by decide +kernel
theorem dX4_alive_1 : decode cX4_alive 1 = .ok (.getfield 31, 3) := by decide +kernel
theorem dX4_alive_4 : decode cX4_alive 4 = .ok (.ifCond .eq 6, 3) := by decide +kernel
theorem dX4_alive_7 : decode cX4_alive 7 = .ok (.bipush (-2), 2) := by decide +kernel
theorem dX4_alive_9 : decode cX4_alive 9 = .ok (.ireturn, 1) := by decide +kernel
theorem dX4_alive_10 : decode cX4_alive 10 = .ok (.iload_n 1, 1) := by decide +kernel
theorem dX4_alive_11 : decode cX4_alive 11 = .ok (.ifCond .lt 9, 3) := by decide +kernel
theorem dX4_alive_14 : decode cX4_alive 14 = .ok (.iload_n 1, 1) := by decide +kernel
theorem dX4_alive_15 : decode cX4_alive 15 = .ok (.bipush 8, 2) := by decide +kernel
theorem dX4_alive_17 : decode cX4_alive 17 = .ok (.if_icmp .le 5, 3) := by decide +kernel
theorem dX4_alive_20 : decode cX4_alive 20 = .ok (.iconst (-1), 1) := by decide +kernel
theorem dX4_alive_21 : decode cX4_alive 21 = .ok (.ireturn, 1) := by decide +kernel
theorem dX4_alive_22 : decode cX4_alive 22 = .ok (.iload_n 1, 1) := by decide +kernel
theorem dX4_alive_23 : decode cX4_alive 23 = .ok (.bipush 8, 2) := by decide +kernel
theorem dX4_alive_25 : decode cX4_alive 25 = .ok (.if_icmp .ne 16, 3) := by decide +kernel
theorem dX4_alive_28 : decode cX4_alive 28 = .ok (.aload_n 0, 1) := by decide +kernel
theorem dX4_alive_29 : decode cX4_alive 29 = .ok (.getfield 27, 3) := by decide +kernel
theorem dX4_alive_32 : decode cX4_alive 32 = .ok (.getfield 117, 3) := by decide +kernel
theorem dX4_alive_35 : decode cX4_alive 35 = .ok (.invokevirtual 121, 3) := by decide +kernel
theorem dX4_alive_38 : decode cX4_alive 38 = .ok (.goto 11, 3) := by decide +kernel
theorem dX4_alive_41 : decode cX4_alive 41 = .ok (.aload_n 0, 1) := by decide +kernel
theorem dX4_alive_42 : decode cX4_alive 42 = .ok (.getfield 27, 3) := by decide +kernel
theorem dX4_alive_45 : decode cX4_alive 45 = .ok (.iload_n 1, 1) := by decide +kernel
theorem dX4_alive_46 : decode cX4_alive 46 = .ok (.invokevirtual 125, 3) := by decide +kernel
theorem dX4_alive_49 : decode cX4_alive 49 = .ok (.ireturn, 1) := by decide +kernel
theorem dX4_count_0 : decode cX4_count 0 = .ok (.iload_n 1, 1) := by decide +kernel
theorem dX4_count_1 : decode cX4_count 1 = .ok (.ifCond .lt 16, 3) := by decide +kernel
theorem dX4_count_4 : decode cX4_count 4 = .ok (.iload_n 1, 1) := by decide +kernel
theorem dX4_count_5 : decode cX4_count 5 = .ok (.bipush 12, 2) := by decide +kernel
theorem dX4_count_7 : decode cX4_count 7 = .ok (.if_icmp .ge 10, 3) := by decide +kernel
theorem dX4_count_10 : decode cX4_count 10 = .ok (.aload_n 0, 1) := by decide +kernel
theorem dX4_count_11 : decode cX4_count 11 = .ok (.getfield 9, 3) := by decide +kernel
theorem dX4_count_14 : decode cX4_count 14 = .ok (.iload_n 1, 1) := by decide +kernel
theorem dX4_count_15 : decode cX4_count 15 = .ok (.iaload, 1) := by decide +kernel
theorem dX4_count_16 : decode cX4_count 16 = .ok (.ireturn, 1) := by decide +kernel
theorem dX4_count_17 : decode cX4_count 17 = .ok (.iload_n 1, 1) := by decide +kernel
theorem dX4_count_18 : decode cX4_count 18 = .ok (.tableswitch 102 12 17 #[38, 46, 54, 65, 73, 89], 38) := by decide +kernel
theorem dX4_count_56 : decode cX4_count 56 = .ok (.aload_n 0, 1) := by decide +kernel
theorem dX4_count_57 : decode cX4_count 57 = .ok (.getfield 27, 3) := by decide +kernel
theorem dX4_count_60 : decode cX4_count 60 = .ok (.getfield 129, 3) := by decide +kernel
theorem dX4_count_63 : decode cX4_count 63 = .ok (.ireturn, 1) := by decide +kernel
theorem dX4_count_64 : decode cX4_count 64 = .ok (.aload_n 0, 1) := by decide +kernel
theorem dX4_count_65 : decode cX4_count 65 = .ok (.getfield 18, 3) := by decide +kernel
theorem dX4_count_68 : decode cX4_count 68 = .ok (.getfield 132, 3) := by decide +kernel
theorem dX4_count_71 : decode cX4_count 71 = .ok (.ireturn, 1) := by decide +kernel
theorem dX4_count_72 : decode cX4_count 72 = .ok (.aload_n 0, 1) := by decide +kernel
theorem dX4_count_73 : decode cX4_count 73 = .ok (.getfield 27, 3) := by decide +kernel
theorem dX4_count_76 : decode cX4_count 76 = .ok (.getfield 117, 3) := by decide +kernel
theorem dX4_count_79 : decode cX4_count 79 = .ok (.invokevirtual 135, 3) := by decide +kernel
theorem dX4_count_82 : decode cX4_count 82 = .ok (.ireturn, 1) := by decide +kernel
theorem dX4_count_83 : decode cX4_count 83 = .ok (.aload_n 0, 1) := by decide +kernel
theorem dX4_count_84 : decode cX4_count 84 = .ok (.getfield 27, 3) := by decide +kernel
theorem dX4_count_87 : decode cX4_count 87 = .ok (.getfield 138, 3) := by decide +kernel
theorem dX4_count_90 : decode cX4_count 90 = .ok (.ireturn, 1) := by decide +kernel
theorem dX4_count_91 : decode cX4_count 91 = .ok (.aload_n 0, 1) := by decide +kernel
theorem dX4_count_92 : decode cX4_count 92 = .ok (.getfield 27, 3) := by decide +kernel
theorem dX4_count_95 : decode cX4_count 95 = .ok (.getfield 141, 3) := by decide +kernel
theorem dX4_count_98 : decode cX4_count 98 = .ok (.aload_n 0, 1) := by decide +kernel
theorem dX4_count_99 : decode cX4_count 99 = .ok (.getfield 27, 3) := by decide +kernel
theorem dX4_count_102 : decode cX4_count 102 = .ok (.getfield 138, 3) := by decide +kernel
theorem dX4_count_105 : decode cX4_count 105 = .ok (.iaload, 1) := by decide +kernel
theorem dX4_count_106 : decode cX4_count 106 = .ok (.ireturn, 1) := by decide +kernel
theorem dX4_count_107 : decode cX4_count 107 = .ok (.aload_n 0, 1) := by decide +kernel
theorem dX4_count_108 : decode cX4_count 108 = .ok (.getfield 31, 3) := by decide +kernel
theorem dX4_count_111 : decode cX4_count 111 = .ok (.ifCond .eq 7, 3) := by decide +kernel
theorem dX4_count_114 : decode cX4_count 114 = .ok (.iconst 1, 1) := by decide +kernel
theorem dX4_count_115 : decode cX4_count 115 = .ok (.goto 4, 3) := by decide +kernel
theorem dX4_count_118 : decode cX4_count 118 = .ok (.iconst 0, 1) := by decide +kernel
theorem dX4_count_119 : decode cX4_count 119 = .ok (.ireturn, 1) := by decide +kernel
theorem dX4_count_120 : decode cX4_count 120 = .ok (.iconst (-1), 1) := by decide +kernel
theorem dX4_count_121 : decode cX4_count 121 = .ok (.ireturn, 1) := by decide +kernel
theorem dX4_close_0 : decode cX4_close 0 = .ok (.aload_n 0, 1) := by decide +kernel
theorem dX4_close_1 : decode cX4_close 1 = .ok (.getfield 31, 3) := by decide +kernel
theorem dX4_close_4 : decode cX4_close 4 = .ok (.ifCond .eq 6, 3) := by decide +kernel
theorem dX4_close_7 : decode cX4_close 7 = .ok (.bipush (-2), 2) := by decide +kernel
theorem dX4_close_9 : decode cX4_close 9 = .ok (.ireturn, 1) := by decide +kernel
theorem dX4_close_10 : decode cX4_close 10 = .ok (.aload_n 0, 1) := by decide +kernel
theorem dX4_close_11 : decode cX4_close 11 = .ok (.iconst 1, 1) := by decide +kernel
theorem dX4_close_12 : decode cX4_close 12 = .ok (.putfield 31, 3) := by decide +kernel
theorem dX4_close_15 : decode cX4_close 15 = .ok (.iconst 1, 1) := by decide +kernel
theorem dX4_close_16 : decode cX4_close 16 = .ok (.ireturn, 1) := by decide +kernel
theorem dX4_crash_0 : decode cX4_crash 0 = .ok (.aload_n 0, 1) := by decide +kernel
theorem dX4_crash_1 : decode cX4_crash 1 = .ok (.getfield 27, 3) := by decide +kernel
theorem dX4_crash_4 : decode cX4_crash 4 = .ok (.getfield 129, 3) := by decide +kernel
theorem dX4_crash_7 : decode cX4_crash 7 = .ok (.istore_n 1, 1) := by decide +kernel
theorem dX4_crash_8 : decode cX4_crash 8 = .ok (.aload_n 0, 1) := by decide +kernel
theorem dX4_crash_9 : decode cX4_crash 9 = .ok (.getfield 27, 3) := by decide +kernel
theorem dX4_crash_12 : decode cX4_crash 12 = .ok (.invokevirtual 144, 3) := by decide +kernel
theorem dX4_crash_15 : decode cX4_crash 15 = .ok (.aload_n 0, 1) := by decide +kernel
theorem dX4_crash_16 : decode cX4_crash 16 = .ok (.getfield 18, 3) := by decide +kernel
theorem dX4_crash_19 : decode cX4_crash 19 = .ok (.invokevirtual 147, 3) := by decide +kernel
theorem dX4_crash_22 : decode cX4_crash 22 = .ok (.aload_n 0, 1) := by decide +kernel
theorem dX4_crash_23 : decode cX4_crash 23 = .ok (.iconst 1, 1) := by decide +kernel
theorem dX4_crash_24 : decode cX4_crash 24 = .ok (.putfield 31, 3) := by decide +kernel
theorem dX4_crash_27 : decode cX4_crash 27 = .ok (.iload_n 1, 1) := by decide +kernel
theorem dX4_crash_28 : decode cX4_crash 28 = .ok (.ireturn, 1) := by decide +kernel
theorem dX4_open_0 : decode cX4_open 0 = .ok (.aload_n 0, 1) := by decide +kernel
theorem dX4_open_1 : decode cX4_open 1 = .ok (.getfield 31, 3) := by decide +kernel
theorem dX4_open_4 : decode cX4_open 4 = .ok (.ifCond .ne 5, 3) := by decide +kernel
theorem dX4_open_7 : decode cX4_open 7 = .ok (.iconst (-1), 1) := by decide +kernel
theorem dX4_open_8 : decode cX4_open 8 = .ok (.ireturn, 1) := by decide +kernel
theorem dX4_open_9 : decode cX4_open 9 = .ok (.aload_n 0, 1) := by decide +kernel
theorem dX4_open_10 : decode cX4_open 10 = .ok (.iconst 0, 1) := by decide +kernel
theorem dX4_open_11 : decode cX4_open 11 = .ok (.putfield 31, 3) := by decide +kernel
theorem dX4_open_14 : decode cX4_open 14 = .ok (.aload_n 0, 1) := by decide +kernel
theorem dX4_open_15 : decode cX4_open 15 = .ok (.getfield 27, 3) := by decide +kernel
theorem dX4_open_18 : decode cX4_open 18 = .ok (.getfield 129, 3) := by decide +kernel
theorem dX4_open_21 : decode cX4_open 21 = .ok (.ireturn, 1) := by decide +kernel
theorem dX4_check_0 : decode cX4_check 0 = .ok (.aload_n 0, 1) := by decide +kernel
theorem dX4_check_1 : decode cX4_check 1 = .ok (.getfield 31, 3) := by decide +kernel
theorem dX4_check_4 : decode cX4_check 4 = .ok (.ifCond .eq 6, 3) := by decide +kernel
theorem dX4_check_7 : decode cX4_check 7 = .ok (.bipush (-2), 2) := by decide +kernel
theorem dX4_check_9 : decode cX4_check 9 = .ok (.ireturn, 1) := by decide +kernel
theorem dX4_check_10 : decode cX4_check 10 = .ok (.aload_n 0, 1) := by decide +kernel
theorem dX4_check_11 : decode cX4_check 11 = .ok (.getfield 27, 3) := by decide +kernel
theorem dX4_check_14 : decode cX4_check 14 = .ok (.invokevirtual 148, 3) := by decide +kernel
theorem dX4_check_17 : decode cX4_check 17 = .ok (.ifCond .eq 7, 3) := by decide +kernel
theorem dX4_check_20 : decode cX4_check 20 = .ok (.iconst 0, 1) := by decide +kernel
theorem dX4_check_21 : decode cX4_check 21 = .ok (.goto 4, 3) := by decide +kernel
theorem dX4_check_24 : decode cX4_check 24 = .ok (.iconst 1, 1) := by decide +kernel
theorem dX4_check_25 : decode cX4_check 25 = .ok (.istore_n 1, 1) := by decide +kernel
theorem dX4_check_26 : decode cX4_check 26 = .ok (.iload_n 1, 1) := by decide +kernel
theorem dX4_check_27 : decode cX4_check 27 = .ok (.aload_n 0, 1) := by decide +kernel
theorem dX4_check_28 : decode cX4_check 28 = .ok (.getfield 27, 3) := by decide +kernel
theorem dX4_check_31 : decode cX4_check 31 = .ok (.invokevirtual 152, 3) := by decide +kernel
theorem dX4_check_34 : decode cX4_check 34 = .ok (.ifCond .eq 17, 3) := by decide +kernel
theorem dX4_check_37 : decode cX4_check 37 = .ok (.aload_n 0, 1) := by decide +kernel
theorem dX4_check_38 : decode cX4_check 38 = .ok (.getfield 18, 3) := by decide +kernel
theorem dX4_check_41 : decode cX4_check 41 = .ok (.invokevirtual 155, 3) := by decide +kernel
theorem dX4_check_44 : decode cX4_check 44 = .ok (.ifCond .eq 7, 3) := by decide +kernel
theorem dX4_check_47 : decode cX4_check 47 = .ok (.iconst 0, 1) := by decide +kernel
theorem dX4_check_48 : decode cX4_check 48 = .ok (.goto 4, 3) := by decide +kernel
theorem dX4_check_51 : decode cX4_check 51 = .ok (.iconst 1, 1) := by decide +kernel
theorem dX4_check_52 : decode cX4_check 52 = .ok (.iadd, 1) := by decide +kernel
theorem dX4_check_53 : decode cX4_check 53 = .ok (.istore_n 1, 1) := by decide +kernel
theorem dX4_check_54 : decode cX4_check 54 = .ok (.iload_n 1, 1) := by decide +kernel
theorem dX4_check_55 : decode cX4_check 55 = .ok (.aload_n 0, 1) := by decide +kernel
theorem dX4_check_56 : decode cX4_check 56 = .ok (.getfield 18, 3) := by decide +kernel
theorem dX4_check_59 : decode cX4_check 59 = .ok (.invokevirtual 156, 3) := by decide +kernel
theorem dX4_check_62 : decode cX4_check 62 = .ok (.ifCond .eq 7, 3) := by decide +kernel
theorem dX4_check_65 : decode cX4_check 65 = .ok (.iconst 0, 1) := by decide +kernel
theorem dX4_check_66 : decode cX4_check 66 = .ok (.goto 4, 3) := by decide +kernel
theorem dX4_check_69 : decode cX4_check 69 = .ok (.iconst 1, 1) := by decide +kernel
theorem dX4_check_70 : decode cX4_check 70 = .ok (.iadd, 1) := by decide +kernel
theorem dX4_check_71 : decode cX4_check 71 = .ok (.istore_n 1, 1) := by decide +kernel
theorem dX4_check_72 : decode cX4_check 72 = .ok (.iload_n 1, 1) := by decide +kernel
theorem dX4_check_73 : decode cX4_check 73 = .ok (.aload_n 0, 1) := by decide +kernel
theorem dX4_check_74 : decode cX4_check 74 = .ok (.getfield 18, 3) := by decide +kernel
theorem dX4_check_77 : decode cX4_check 77 = .ok (.invokevirtual 159, 3) := by decide +kernel
theorem dX4_check_80 : decode cX4_check 80 = .ok (.ifCond .eq 7, 3) := by decide +kernel
theorem dX4_check_83 : decode cX4_check 83 = .ok (.iconst 0, 1) := by decide +kernel
theorem dX4_check_84 : decode cX4_check 84 = .ok (.goto 4, 3) := by decide +kernel
theorem dX4_check_87 : decode cX4_check 87 = .ok (.iconst 1, 1) := by decide +kernel
theorem dX4_check_88 : decode cX4_check 88 = .ok (.iadd, 1) := by decide +kernel
theorem dX4_check_89 : decode cX4_check 89 = .ok (.istore_n 1, 1) := by decide +kernel
theorem dX4_check_90 : decode cX4_check 90 = .ok (.iload_n 1, 1) := by decide +kernel
theorem dX4_check_91 : decode cX4_check 91 = .ok (.aload_n 0, 1) := by decide +kernel
theorem dX4_check_92 : decode cX4_check 92 = .ok (.getfield 27, 3) := by decide +kernel
theorem dX4_check_95 : decode cX4_check 95 = .ok (.invokevirtual 162, 3) := by decide +kernel
theorem dX4_check_98 : decode cX4_check 98 = .ok (.ifCond .eq 17, 3) := by decide +kernel
theorem dX4_check_101 : decode cX4_check 101 = .ok (.aload_n 0, 1) := by decide +kernel
theorem dX4_check_102 : decode cX4_check 102 = .ok (.getfield 18, 3) := by decide +kernel
theorem dX4_check_105 : decode cX4_check 105 = .ok (.invokevirtual 165, 3) := by decide +kernel
theorem dX4_check_108 : decode cX4_check 108 = .ok (.ifCond .eq 7, 3) := by decide +kernel
theorem dX4_check_111 : decode cX4_check 111 = .ok (.iconst 0, 1) := by decide +kernel
theorem dX4_check_112 : decode cX4_check 112 = .ok (.goto 4, 3) := by decide +kernel
theorem dX4_check_115 : decode cX4_check 115 = .ok (.iconst 1, 1) := by decide +kernel
theorem dX4_check_116 : decode cX4_check 116 = .ok (.iadd, 1) := by decide +kernel
theorem dX4_check_117 : decode cX4_check 117 = .ok (.istore_n 1, 1) := by decide +kernel
theorem dX4_check_118 : decode cX4_check 118 = .ok (.iload_n 1, 1) := by decide +kernel
theorem dX4_check_119 : decode cX4_check 119 = .ok (.ireturn, 1) := by decide +kernel
theorem dX4_isSet_0 : decode cX4_isSet 0 = .ok (.iload_n 0, 1) := by decide +kernel
theorem dX4_isSet_1 : decode cX4_isSet 1 = .ok (.ifCond .lt 13, 3) := by decide +kernel
theorem dX4_isSet_4 : decode cX4_isSet 4 = .ok (.iload_n 0, 1) := by decide +kernel
theorem dX4_isSet_5 : decode cX4_isSet 5 = .ok (.bipush 64, 2) := by decide +kernel
theorem dX4_isSet_7 : decode cX4_isSet 7 = .ok (.if_icmp .ge 7, 3) := by decide +kernel
theorem dX4_isSet_10 : decode cX4_isSet 10 = .ok (.iconst 1, 1) := by decide +kernel
theorem dX4_isSet_11 : decode cX4_isSet 11 = .ok (.goto 4, 3) := by decide +kernel
theorem dX4_isSet_14 : decode cX4_isSet 14 = .ok (.iconst 0, 1) := by decide +kernel
theorem dX4_isSet_15 : decode cX4_isSet 15 = .ok (.ireturn, 1) := by decide +kernel
theorem dX4_mixOf_0 : decode cX4_mixOf 0 = .ok (.lload_n 0, 1) := by decide +kernel
theorem dX4_mixOf_1 : decode cX4_mixOf 1 = .ok (.lload_n 0, 1) := by decide +kernel
theorem dX4_mixOf_2 : decode cX4_mixOf 2 = .ok (.bipush 32, 2) := by decide +kernel
theorem dX4_mixOf_4 : decode cX4_mixOf 4 = .ok (.lushr, 1) := by decide +kernel
theorem dX4_mixOf_5 : decode cX4_mixOf 5 = .ok (.lxor, 1) := by decide +kernel
theorem dX4_mixOf_6 : decode cX4_mixOf 6 = .ok (.ldc2_w 166, 3) := by decide +kernel
theorem dX4_mixOf_9 : decode cX4_mixOf 9 = .ok (.lmul, 1) := by decide +kernel
theorem dX4_mixOf_10 : decode cX4_mixOf 10 = .ok (.lstore_n 2, 1) := by decide +kernel
theorem dX4_mixOf_11 : decode cX4_mixOf 11 = .ok (.lload_n 2, 1) := by decide +kernel
theorem dX4_mixOf_12 : decode cX4_mixOf 12 = .ok (.lload_n 2, 1) := by decide +kernel
theorem dX4_mixOf_13 : decode cX4_mixOf 13 = .ok (.bipush 32, 2) := by decide +kernel
theorem dX4_mixOf_15 : decode cX4_mixOf 15 = .ok (.lushr, 1) := by decide +kernel
theorem dX4_mixOf_16 : decode cX4_mixOf 16 = .ok (.lxor, 1) := by decide +kernel
theorem dX4_mixOf_17 : decode cX4_mixOf 17 = .ok (.ldc2_w 166, 3) := by decide +kernel
theorem dX4_mixOf_20 : decode cX4_mixOf 20 = .ok (.lmul, 1) := by decide +kernel
theorem dX4_mixOf_21 : decode cX4_mixOf 21 = .ok (.lstore_n 2, 1) := by decide +kernel
theorem dX4_mixOf_22 : decode cX4_mixOf 22 = .ok (.lload_n 2, 1) := by decide +kernel
theorem dX4_mixOf_23 : decode cX4_mixOf 23 = .ok (.lload_n 2, 1) := by decide +kernel
theorem dX4_mixOf_24 : decode cX4_mixOf 24 = .ok (.bipush 32, 2) := by decide +kernel
theorem dX4_mixOf_26 : decode cX4_mixOf 26 = .ok (.lushr, 1) := by decide +kernel
theorem dX4_mixOf_27 : decode cX4_mixOf 27 = .ok (.lxor, 1) := by decide +kernel
theorem dX4_mixOf_28 : decode cX4_mixOf 28 = .ok (.lreturn, 1) := by decide +kernel
theorem dX4_setOfMix_0 : decode cX4_setOfMix 0 = .ok (.lload_n 0, 1) := by decide +kernel
theorem dX4_setOfMix_1 : decode cX4_setOfMix 1 = .ok (.ldc2_w 168, 3) := by decide +kernel
theorem dX4_setOfMix_4 : decode cX4_setOfMix 4 = .ok (.land, 1) := by decide +kernel
theorem dX4_setOfMix_5 : decode cX4_setOfMix 5 = .ok (.l2i, 1) := by decide +kernel
theorem dX4_setOfMix_6 : decode cX4_setOfMix 6 = .ok (.ireturn, 1) := by decide +kernel
theorem dX4_filterBits_0 : decode cX4_filterBits 0 = .ok (.lload_n 0, 1) := by decide +kernel
theorem dX4_filterBits_1 : decode cX4_filterBits 1 = .ok (.bipush 6, 2) := by decide +kernel
theorem dX4_filterBits_3 : decode cX4_filterBits 3 = .ok (.lushr, 1) := by decide +kernel
theorem dX4_filterBits_4 : decode cX4_filterBits 4 = .ok (.ldc2_w 168, 3) := by decide +kernel
theorem dX4_filterBits_7 : decode cX4_filterBits 7 = .ok (.land, 1) := by decide +kernel
theorem dX4_filterBits_8 : decode cX4_filterBits 8 = .ok (.l2i, 1) := by decide +kernel
theorem dX4_filterBits_9 : decode cX4_filterBits 9 = .ok (.istore_n 2, 1) := by decide +kernel
theorem dX4_filterBits_10 : decode cX4_filterBits 10 = .ok (.lload_n 0, 1) := by decide +kernel
theorem dX4_filterBits_11 : decode cX4_filterBits 11 = .ok (.bipush 12, 2) := by decide +kernel
theorem dX4_filterBits_13 : decode cX4_filterBits 13 = .ok (.lushr, 1) := by decide +kernel
theorem dX4_filterBits_14 : decode cX4_filterBits 14 = .ok (.ldc2_w 168, 3) := by decide +kernel
theorem dX4_filterBits_17 : decode cX4_filterBits 17 = .ok (.land, 1) := by decide +kernel
theorem dX4_filterBits_18 : decode cX4_filterBits 18 = .ok (.l2i, 1) := by decide +kernel
theorem dX4_filterBits_19 : decode cX4_filterBits 19 = .ok (.istore_n 3, 1) := by decide +kernel
theorem dX4_filterBits_20 : decode cX4_filterBits 20 = .ok (.lconst 1, 1) := by decide +kernel
theorem dX4_filterBits_21 : decode cX4_filterBits 21 = .ok (.iload_n 2, 1) := by decide +kernel
theorem dX4_filterBits_22 : decode cX4_filterBits 22 = .ok (.lshl, 1) := by decide +kernel
theorem dX4_filterBits_23 : decode cX4_filterBits 23 = .ok (.lconst 1, 1) := by decide +kernel
theorem dX4_filterBits_24 : decode cX4_filterBits 24 = .ok (.iload_n 3, 1) := by decide +kernel
theorem dX4_filterBits_25 : decode cX4_filterBits 25 = .ok (.lshl, 1) := by decide +kernel
theorem dX4_filterBits_26 : decode cX4_filterBits 26 = .ok (.lor, 1) := by decide +kernel
theorem dX4_filterBits_27 : decode cX4_filterBits 27 = .ok (.lreturn, 1) := by decide +kernel
end
section
theorem dX5_init_0 : decode cX5_init 0 = .ok (.aload_n 0, 1) := by decide +kernel
theorem dX5_init_1 : decode cX5_init 1 = .ok (.invokespecial 1, 3) := by decide +kernel
theorem dX5_init_4 : decode cX5_init 4 = .ok (.aload_n 0, 1) := by decide +kernel
theorem dX5_init_5 : decode cX5_init 5 = .ok (.sipush 700, 3) := by decide +kernel
theorem dX5_init_8 : decode cX5_init 8 = .ok (.newarray .long, 2) := by decide +kernel
theorem dX5_init_10 : decode cX5_init 10 = .ok (.putfield 7, 3) := by decide +kernel
theorem dX5_init_13 : decode cX5_init 13 = .ok (.aload_n 0, 1) := by decide +kernel
theorem dX5_init_14 : decode cX5_init 14 = .ok (.sipush 700, 3) := by decide +kernel
theorem dX5_init_17 : decode cX5_init 17 = .ok (.newarray .int, 2) := by decide +kernel
theorem dX5_init_19 : decode cX5_init 19 = .ok (.putfield 13, 3) := by decide +kernel
theorem dX5_init_22 : decode cX5_init 22 = .ok (.aload_n 0, 1) := by decide +kernel
theorem dX5_init_23 : decode cX5_init 23 = .ok (.sipush 700, 3) := by decide +kernel
theorem dX5_init_26 : decode cX5_init 26 = .ok (.newarray .int, 2) := by decide +kernel
theorem dX5_init_28 : decode cX5_init 28 = .ok (.putfield 17, 3) := by decide +kernel
theorem dX5_init_31 : decode cX5_init 31 = .ok (.aload_n 0, 1) := by decide +kernel
theorem dX5_init_32 : decode cX5_init 32 = .ok (.sipush 700, 3) := by decide +kernel
theorem dX5_init_35 : decode cX5_init 35 = .ok (.newarray .int, 2) := by decide +kernel
theorem dX5_init_37 : decode cX5_init 37 = .ok (.putfield 20, 3) := by decide +kernel
theorem dX5_init_40 : decode cX5_init 40 = .ok (.aload_n 0, 1) := by decide +kernel
theorem dX5_init_41 : decode cX5_init 41 = .ok (.sipush 700, 3) := by decide +kernel
theorem dX5_init_44 : decode cX5_init 44 = .ok (.newarray .boolean, 2) := by decide +kernel
theorem dX5_init_46 : decode cX5_init 46 = .ok (.putfield 23, 3) := by decide +kernel
theorem dX5_init_49 : decode cX5_init 49 = .ok (.aload_n 0, 1) := by decide +kernel
theorem dX5_init_50 : decode cX5_init 50 = .ok (.sipush 700, 3) := by decide +kernel
theorem dX5_init_53 : decode cX5_init 53 = .ok (.newarray .boolean, 2) := by decide +kernel
theorem dX5_init_55 : decode cX5_init 55 = .ok (.putfield 27, 3) := by decide +kernel
theorem dX5_init_58 : decode cX5_init 58 = .ok (.aload_n 0, 1) := by decide +kernel
theorem dX5_init_59 : decode cX5_init 59 = .ok (.sipush 700, 3) := by decide +kernel
theorem dX5_init_62 : decode cX5_init 62 = .ok (.newarray .int, 2) := by decide +kernel
theorem dX5_init_64 : decode cX5_init 64 = .ok (.putfield 30, 3) := by decide +kernel
theorem dX5_init_67 : decode cX5_init 67 = .ok (.aload_n 0, 1) := by decide +kernel
theorem dX5_init_68 : decode cX5_init 68 = .ok (.bipush 8, 2) := by decide +kernel
theorem dX5_init_70 : decode cX5_init 70 = .ok (.newarray .int, 2) := by decide +kernel
theorem dX5_init_72 : decode cX5_init 72 = .ok (.putfield 33, 3) := by decide +kernel
theorem dX5_init_75 : decode cX5_init 75 = .ok (.aload_n 0, 1) := by decide +kernel
theorem dX5_init_76 : decode cX5_init 76 = .ok (.sipush 512, 3) := by decide +kernel
theorem dX5_init_79 : decode cX5_init 79 = .ok (.newarray .long, 2) := by decide +kernel
theorem dX5_init_81 : decode cX5_init 81 = .ok (.putfield 36, 3) := by decide +kernel
theorem dX5_init_84 : decode cX5_init 84 = .ok (.aload_n 0, 1) := by decide +kernel
theorem dX5_init_85 : decode cX5_init 85 = .ok (.sipush 512, 3) := by decide +kernel
theorem dX5_init_88 : decode cX5_init 88 = .ok (.newarray .int, 2) := by decide +kernel
theorem dX5_init_90 : decode cX5_init 90 = .ok (.putfield 39, 3) := by decide +kernel
theorem dX5_init_93 : decode cX5_init 93 = .ok (.aload_n 0, 1) := by decide +kernel
theorem dX5_init_94 : decode cX5_init 94 = .ok (.sipush 512, 3) := by decide +kernel
theorem dX5_init_97 : decode cX5_init 97 = .ok (.newarray .int, 2) := by decide +kernel
theorem dX5_init_99 : decode cX5_init 99 = .ok (.putfield 42, 3) := by decide +kernel
theorem dX5_init_102 : decode cX5_init 102 = .ok (.aload_n 0, 1) := by decide +kernel
theorem dX5_init_103 : decode cX5_init 103 = .ok (.sipush 512, 3) := by decide +kernel
theorem dX5_init_106 : decode cX5_init 106 = .ok (.newarray .int, 2) := by decide +kernel
theorem dX5_init_108 : decode cX5_init 108 = .ok (.putfield 45, 3) := by decide +kernel
theorem dX5_init_111 : decode cX5_init 111 = .ok (.aload_n 0, 1) := by decide +kernel
theorem dX5_init_112 : decode cX5_init 112 = .ok (.sipush 512, 3) := by decide +kernel
theorem dX5_init_115 : decode cX5_init 115 = .ok (.newarray .boolean, 2) := by decide +kernel
theorem dX5_init_117 : decode cX5_init 117 = .ok (.putfield 48, 3) := by decide +kernel
theorem dX5_init_120 : decode cX5_init 120 = .ok (.aload_n 0, 1) := by decide +kernel
theorem dX5_init_121 : decode cX5_init 121 = .ok (.bipush 64, 2) := by decide +kernel
theorem dX5_init_123 : decode cX5_init 123 = .ok (.newarray .int, 2) := by decide +kernel
theorem dX5_init_125 : decode cX5_init 125 = .ok (.putfield 51, 3) := by decide +kernel
theorem dX5_init_128 : decode cX5_init 128 = .ok (.aload_n 0, 1) := by decide +kernel
theorem dX5_init_129 : decode cX5_init 129 = .ok (.sipush 700, 3) := by decide +kernel
theorem dX5_init_132 : decode cX5_init 132 = .ok (.newarray .long, 2) := by decide +kernel
theorem dX5_init_134 : decode cX5_init 134 = .ok (.putfield 54, 3) := by decide +kernel
theorem dX5_init_137 : decode cX5_init 137 = .ok (.aload_n 0, 1) := by decide +kernel
theorem dX5_init_138 : decode cX5_init 138 = .ok (.sipush 700, 3) := by decide +kernel
theorem dX5_init_141 : decode cX5_init 141 = .ok (.newarray .int, 2) := by decide +kernel
theorem dX5_init_143 : decode cX5_init 143 = .ok (.putfield 57, 3) := by decide +kernel
theorem dX5_init_146 : decode cX5_init 146 = .ok (.aload_n 0, 1) := by decide +kernel
theorem dX5_init_147 : decode cX5_init 147 = .ok (.sipush 700, 3) := by decide +kernel
theorem dX5_init_150 : decode cX5_init 150 = .ok (.newarray .int, 2) := by decide +kernel
theorem dX5_init_152 : decode cX5_init 152 = .ok (.putfield 60, 3) := by decide +kernel
theorem dX5_init_155 : decode cX5_init 155 = .ok (.aload_n 0, 1) := by decide +kernel
theorem dX5_init_156 : decode cX5_init 156 = .ok (.sipush 700, 3) := by decide +kernel
theorem dX5_init_159 : decode cX5_init 159 = .ok (.newarray .int, 2) := by decide +kernel
theorem dX5_init_161 : decode cX5_init 161 = .ok (.putfield 63, 3) := by decide +kernel
theorem dX5_init_164 : decode cX5_init 164 = .ok (.aload_n 0, 1) := by decide +kernel
theorem dX5_init_165 : decode cX5_init 165 = .ok (.sipush 700, 3) := by decide +kernel
theorem dX5_init_168 : decode cX5_init 168 = .ok (.newarray .boolean, 2) := by decide +kernel
theorem dX5_init_170 : decode cX5_init 170 = .ok (.putfield 66, 3) := by decide +kernel
theorem dX5_init_173 : decode cX5_init 173 = .ok (.aload_n 0, 1) := by decide +kernel
theorem dX5_init_174 : decode cX5_init 174 = .ok (.sipush 700, 3) := by decide +kernel
theorem dX5_init_177 : decode cX5_init 177 = .ok (.newarray .boolean, 2) := by decide +kernel
theorem dX5_init_179 : decode cX5_init 179 = .ok (.putfield 69, 3) := by decide +kernel
theorem dX5_init_182 : decode cX5_init 182 = .ok (.aload_n 0, 1) := by decide +kernel
theorem dX5_init_183 : decode cX5_init 183 = .ok (.bipush 12, 2) := by decide +kernel
theorem dX5_init_185 : decode cX5_init 185 = .ok (.newarray .int, 2) := by decide +kernel
theorem dX5_init_187 : decode cX5_init 187 = .ok (.putfield 72, 3) := by decide +kernel
theorem dX5_init_190 : decode cX5_init 190 = .ok (.return_, 1) := by decide +kernel
theorem dX5_mix_0 : decode cX5_mix 0 = .ok (.lload_n 1, 1) := by decide +kernel
theorem dX5_mix_1 : decode cX5_mix 1 = .ok (.lstore_n 3, 1) := by decide +kernel
theorem dX5_mix_2 : decode cX5_mix 2 = .ok (.lload_n 3, 1) := by decide +kernel
theorem dX5_mix_3 : decode cX5_mix 3 = .ok (.lload_n 3, 1) := by decide +kernel
theorem dX5_mix_4 : decode cX5_mix 4 = .ok (.bipush 32, 2) := by decide +kernel
theorem dX5_mix_6 : decode cX5_mix 6 = .ok (.lushr, 1) := by decide +kernel
theorem dX5_mix_7 : decode cX5_mix 7 = .ok (.lxor, 1) := by decide +kernel
theorem dX5_mix_8 : decode cX5_mix 8 = .ok (.lstore_n 3, 1) := by decide +kernel
theorem dX5_mix_9 : decode cX5_mix 9 = .ok (.lload_n 3, 1) := by decide +kernel
theorem dX5_mix_10 : decode cX5_mix 10 = .ok (.ldc2_w 75, 3) := by decide +kernel
theorem dX5_mix_13 : decode cX5_mix 13 = .ok (.lmul, 1) := by decide +kernel
theorem dX5_mix_14 : decode cX5_mix 14 = .ok (.lstore_n 3, 1) := by decide +kernel
theorem dX5_mix_15 : decode cX5_mix 15 = .ok (.lload_n 3, 1) := by decide +kernel
theorem dX5_mix_16 : decode cX5_mix 16 = .ok (.lload_n 3, 1) := by decide +kernel
theorem dX5_mix_17 : decode cX5_mix 17 = .ok (.bipush 32, 2) := by decide +kernel
theorem dX5_mix_19 : decode cX5_mix 19 = .ok (.lushr, 1) := by decide +kernel
theorem dX5_mix_20 : decode cX5_mix 20 = .ok (.lxor, 1) := by decide +kernel
theorem dX5_mix_21 : decode cX5_mix 21 = .ok (.lstore_n 3, 1) := by decide +kernel
theorem dX5_mix_22 : decode cX5_mix 22 = .ok (.lload_n 3, 1) := by decide +kernel
theorem dX5_mix_23 : decode cX5_mix 23 = .ok (.ldc2_w 75, 3) := by decide +kernel
theorem dX5_mix_26 : decode cX5_mix 26 = .ok (.lmul, 1) := by decide +kernel
theorem dX5_mix_27 : decode cX5_mix 27 = .ok (.lstore_n 3, 1) := by decide +kernel
theorem dX5_mix_28 : decode cX5_mix 28 = .ok (.lload_n 3, 1) := by decide +kernel
theorem dX5_mix_29 : decode cX5_mix 29 = .ok (.lload_n 3, 1) := by decide +kernel
theorem dX5_mix_30 : decode cX5_mix 30 = .ok (.bipush 32, 2) := by decide +kernel
theorem dX5_mix_32 : decode cX5_mix 32 = .ok (.lushr, 1) := by decide +kernel
theorem dX5_mix_33 : decode cX5_mix 33 = .ok (.lxor, 1) := by decide +kernel
theorem dX5_mix_34 : decode cX5_mix 34 = .ok (.lstore_n 3, 1) := by decide +kernel
theorem dX5_mix_35 : decode cX5_mix 35 = .ok (.lload_n 3, 1) := by decide +kernel
theorem dX5_mix_36 : decode cX5_mix 36 = .ok (.lreturn, 1) := by decide +kernel
theorem dX5_unmix_0 : decode cX5_unmix 0 = .ok (.ldc2_w 75, 3) := by decide +kernel
theorem dX5_unmix_3 : decode cX5_unmix 3 = .ok (.lstore_n 3, 1) := by decide +kernel
theorem dX5_unmix_4 : decode cX5_unmix 4 = .ok (.iconst 0, 1) := by decide +kernel
theorem dX5_unmix_5 : decode cX5_unmix 5 = .ok (.istore 5, 2) := by decide +kernel
theorem dX5_unmix_7 : decode cX5_unmix 7 = .ok (.iload 5, 2) := by decide +kernel
theorem dX5_unmix_9 : decode cX5_unmix 9 = .ok (.bipush 6, 2) := by decide +kernel
theorem dX5_unmix_11 : decode cX5_unmix 11 = .ok (.if_icmp .ge 21, 3) := by decide +kernel
theorem dX5_unmix_14 : decode cX5_unmix 14 = .ok (.lload_n 3, 1) := by decide +kernel
theorem dX5_unmix_15 : decode cX5_unmix 15 = .ok (.ldc2_w 77, 3) := by decide +kernel
theorem dX5_unmix_18 : decode cX5_unmix 18 = .ok (.ldc2_w 75, 3) := by decide +kernel
theorem dX5_unmix_21 : decode cX5_unmix 21 = .ok (.lload_n 3, 1) := by decide +kernel
theorem dX5_unmix_22 : decode cX5_unmix 22 = .ok (.lmul, 1) := by decide +kernel
theorem dX5_unmix_23 : decode cX5_unmix 23 = .ok (.lsub, 1) := by decide +kernel
theorem dX5_unmix_24 : decode cX5_unmix 24 = .ok (.lmul, 1) := by decide +kernel
theorem dX5_unmix_25 : decode cX5_unmix 25 = .ok (.lstore_n 3, 1) := by decide +kernel
theorem dX5_unmix_26 : decode cX5_unmix 26 = .ok (.iinc 5 1, 3) := by decide +kernel
theorem dX5_unmix_29 : decode cX5_unmix 29 = .ok (.goto (-22), 3) := by decide +kernel
theorem dX5_unmix_32 : decode cX5_unmix 32 = .ok (.lload_n 1, 1) := by decide +kernel
theorem dX5_unmix_33 : decode cX5_unmix 33 = .ok (.lstore 5, 2) := by decide +kernel
theorem dX5_unmix_35 : decode cX5_unmix 35 = .ok (.lload 5, 2) := by decide +kernel
theorem dX5_unmix_37 : decode cX5_unmix 37 = .ok (.lload 5, 2) := by decide +kernel
theorem dX5_unmix_39 : decode cX5_unmix 39 = .ok (.bipush 32, 2) := by decide +kernel
theorem dX5_unmix_41 : decode cX5_unmix 41 = .ok (.lushr, 1) := by decide +kernel
theorem dX5_unmix_42 : decode cX5_unmix 42 = .ok (.lxor, 1) := by decide +kernel
theorem dX5_unmix_43 : decode cX5_unmix 43 = .ok (.lstore 5, 2) := by decide +kernel
theorem dX5_unmix_45 : decode cX5_unmix 45 = .ok (.lload 5, 2) := by decide +kernel
theorem dX5_unmix_47 : decode cX5_unmix 47 = .ok (.lload_n 3, 1) := by decide +kernel
theorem dX5_unmix_48 : decode cX5_unmix 48 = .ok (.lmul, 1) := by decide +kernel
theorem dX5_unmix_49 : decode cX5_unmix 49 = .ok (.lstore 5, 2) := by decide +kernel
theorem dX5_unmix_51 : decode cX5_unmix 51 = .ok (.lload 5, 2) := by decide +kernel
theorem dX5_unmix_53 : decode cX5_unmix 53 = .ok (.lload 5, 2) := by decide +kernel
theorem dX5_unmix_55 : decode cX5_unmix 55 = .ok (.bipush 32, 2) := by decide +kernel
theorem dX5_unmix_57 : decode cX5_unmix 57 = .ok (.lushr, 1) := by decide +kernel
theorem dX5_unmix_58 : decode cX5_unmix 58 = .ok (.lxor, 1) := by decide +kernel
theorem dX5_unmix_59 : decode cX5_unmix 59 = .ok (.lstore 5, 2) := by decide +kernel
theorem dX5_unmix_61 : decode cX5_unmix 61 = .ok (.lload 5, 2) := by decide +kernel
theorem dX5_unmix_63 : decode cX5_unmix 63 = .ok (.lload_n 3, 1) := by decide +kernel
theorem dX5_unmix_64 : decode cX5_unmix 64 = .ok (.lmul, 1) := by decide +kernel
theorem dX5_unmix_65 : decode cX5_unmix 65 = .ok (.lstore 5, 2) := by decide +kernel
theorem dX5_unmix_67 : decode cX5_unmix 67 = .ok (.lload 5, 2) := by decide +kernel
theorem dX5_unmix_69 : decode cX5_unmix 69 = .ok (.lload 5, 2) := by decide +kernel
theorem dX5_unmix_71 : decode cX5_unmix 71 = .ok (.bipush 32, 2) := by decide +kernel
theorem dX5_unmix_73 : decode cX5_unmix 73 = .ok (.lushr, 1) := by decide +kernel
theorem dX5_unmix_74 : decode cX5_unmix 74 = .ok (.lxor, 1) := by decide +kernel
theorem dX5_unmix_75 : decode cX5_unmix 75 = .ok (.lstore 5, 2) := by decide +kernel
theorem dX5_unmix_77 : decode cX5_unmix 77 = .ok (.lload 5, 2) := by decide +kernel
theorem dX5_unmix_79 : decode cX5_unmix 79 = .ok (.lreturn, 1) := by decide +kernel
theorem dX5_setOf_0 : decode cX5_setOf 0 = .ok (.aload_n 0, 1) := by decide +kernel
theorem dX5_setOf_1 : decode cX5_setOf 1 = .ok (.lload_n 1, 1) := by decide +kernel
theorem dX5_setOf_2 : decode cX5_setOf 2 = .ok (.invokevirtual 79, 3) := by decide +kernel
theorem dX5_setOf_5 : decode cX5_setOf 5 = .ok (.ldc2_w 83, 3) := by decide +kernel
theorem dX5_setOf_8 : decode cX5_setOf 8 = .ok (.land, 1) := by decide +kernel
theorem dX5_setOf_9 : decode cX5_setOf 9 = .ok (.l2i, 1) := by decide +kernel
theorem dX5_setOf_10 : decode cX5_setOf 10 = .ok (.ireturn, 1) := by decide +kernel
theorem dX5_bitsOf_0 : decode cX5_bitsOf 0 = .ok (.aload_n 0, 1) := by decide +kernel
theorem dX5_bitsOf_1 : decode cX5_bitsOf 1 = .ok (.lload_n 1, 1) := by decide +kernel
theorem dX5_bitsOf_2 : decode cX5_bitsOf 2 = .ok (.invokevirtual 79, 3) := by decide +kernel
theorem dX5_bitsOf_5 : decode cX5_bitsOf 5 = .ok (.lstore_n 3, 1) := by decide +kernel
theorem dX5_bitsOf_6 : decode cX5_bitsOf 6 = .ok (.lconst 1, 1) := by decide +kernel
theorem dX5_bitsOf_7 : decode cX5_bitsOf 7 = .ok (.lload_n 3, 1) := by decide +kernel
theorem dX5_bitsOf_8 : decode cX5_bitsOf 8 = .ok (.bipush 6, 2) := by decide +kernel
theorem dX5_bitsOf_10 : decode cX5_bitsOf 10 = .ok (.lushr, 1) := by decide +kernel
theorem dX5_bitsOf_11 : decode cX5_bitsOf 11 = .ok (.ldc2_w 83, 3) := by decide +kernel
theorem dX5_bitsOf_14 : decode cX5_bitsOf 14 = .ok (.land, 1) := by decide +kernel
theorem dX5_bitsOf_15 : decode cX5_bitsOf 15 = .ok (.l2i, 1) := by decide +kernel
theorem dX5_bitsOf_16 : decode cX5_bitsOf 16 = .ok (.lshl, 1) := by decide +kernel
theorem dX5_bitsOf_17 : decode cX5_bitsOf 17 = .ok (.lconst 1, 1) := by decide +kernel
theorem dX5_bitsOf_18 : decode cX5_bitsOf 18 = .ok (.lload_n 3, 1) := by decide +kernel
theorem dX5_bitsOf_19 : decode cX5_bitsOf 19 = .ok (.bipush 12, 2) := by decide +kernel
theorem dX5_bitsOf_21 : decode cX5_bitsOf 21 = .ok (.lushr, 1) := by decide +kernel
theorem dX5_bitsOf_22 : decode cX5_bitsOf 22 = .ok (.ldc2_w 83, 3) := by decide +kernel
theorem dX5_bitsOf_25 : decode cX5_bitsOf 25 = .ok (.land, 1) := by decide +kernel
theorem dX5_bitsOf_26 : decode cX5_bitsOf 26 = .ok (.l2i, 1) := by decide +kernel
theorem dX5_bitsOf_27 : decode cX5_bitsOf 27 = .ok (.lshl, 1) := by decide +kernel
theorem dX5_bitsOf_28 : decode cX5_bitsOf 28 = .ok (.lor, 1) := by decide +kernel
theorem dX5_bitsOf_29 : decode cX5_bitsOf 29 = .ok (.lreturn, 1) := by decide +kernel
theorem dX5_filterOf_0 : decode cX5_filterOf 0 = .ok (.lconst 0, 1) := by decide +kernel
theorem dX5_filterOf_1 : decode cX5_filterOf 1 = .ok (.lstore_n 2, 1) := by decide +kernel
theorem dX5_filterOf_2 : decode cX5_filterOf 2 = .ok (.iconst 0, 1) := by decide +kernel
theorem dX5_filterOf_3 : decode cX5_filterOf 3 = .ok (.istore 4, 2) := by decide +kernel
theorem dX5_filterOf_5 : decode cX5_filterOf 5 = .ok (.iload 4, 2) := by decide +kernel
theorem dX5_filterOf_7 : decode cX5_filterOf 7 = .ok (.aload_n 0, 1) := by decide +kernel
theorem dX5_filterOf_8 : decode cX5_filterOf 8 = .ok (.getfield 51, 3) := by decide +kernel
theorem dX5_filterOf_11 : decode cX5_filterOf 11 = .ok (.iload_n 1, 1) := by decide +kernel
theorem dX5_filterOf_12 : decode cX5_filterOf 12 = .ok (.iaload, 1) := by decide +kernel
theorem dX5_filterOf_13 : decode cX5_filterOf 13 = .ok (.if_icmp .ge 28, 3) := by decide +kernel
theorem dX5_filterOf_16 : decode cX5_filterOf 16 = .ok (.lload_n 2, 1) := by decide +kernel
theorem dX5_filterOf_17 : decode cX5_filterOf 17 = .ok (.aload_n 0, 1) := by decide +kernel
theorem dX5_filterOf_18 : decode cX5_filterOf 18 = .ok (.aload_n 0, 1) := by decide +kernel
theorem dX5_filterOf_19 : decode cX5_filterOf 19 = .ok (.getfield 36, 3) := by decide +kernel
theorem dX5_filterOf_22 : decode cX5_filterOf 22 = .ok (.bipush 8, 2) := by decide +kernel
theorem dX5_filterOf_24 : decode cX5_filterOf 24 = .ok (.iload_n 1, 1) := by decide +kernel
theorem dX5_filterOf_25 : decode cX5_filterOf 25 = .ok (.imul, 1) := by decide +kernel
theorem dX5_filterOf_26 : decode cX5_filterOf 26 = .ok (.iload 4, 2) := by decide +kernel
theorem dX5_filterOf_28 : decode cX5_filterOf 28 = .ok (.iadd, 1) := by decide +kernel
theorem dX5_filterOf_29 : decode cX5_filterOf 29 = .ok (.laload, 1) := by decide +kernel
theorem dX5_filterOf_30 : decode cX5_filterOf 30 = .ok (.invokevirtual 85, 3) := by decide +kernel
theorem dX5_filterOf_33 : decode cX5_filterOf 33 = .ok (.lor, 1) := by decide +kernel
theorem dX5_filterOf_34 : decode cX5_filterOf 34 = .ok (.lstore_n 2, 1) := by decide +kernel
theorem dX5_filterOf_35 : decode cX5_filterOf 35 = .ok (.iinc 4 1, 3) := by decide +kernel
theorem dX5_filterOf_38 : decode cX5_filterOf 38 = .ok (.goto (-33), 3) := by decide +kernel
theorem dX5_filterOf_41 : decode cX5_filterOf 41 = .ok (.lload_n 2, 1) := by decide +kernel
theorem dX5_filterOf_42 : decode cX5_filterOf 42 = .ok (.lreturn, 1) := by decide +kernel
theorem dX5_mayHave_0 : decode cX5_mayHave 0 = .ok (.aload_n 0, 1) := by decide +kernel
theorem dX5_mayHave_1 : decode cX5_mayHave 1 = .ok (.lload_n 1, 1) := by decide +kernel
theorem dX5_mayHave_2 : decode cX5_mayHave 2 = .ok (.invokevirtual 85, 3) := by decide +kernel
theorem dX5_mayHave_5 : decode cX5_mayHave 5 = .ok (.lstore_n 3, 1) := by decide +kernel
theorem dX5_mayHave_6 : decode cX5_mayHave 6 = .ok (.aload_n 0, 1) := by decide +kernel
theorem dX5_mayHave_7 : decode cX5_mayHave 7 = .ok (.aload_n 0, 1) := by decide +kernel
theorem dX5_mayHave_8 : decode cX5_mayHave 8 = .ok (.lload_n 1, 1) := by decide +kernel
theorem dX5_mayHave_9 : decode cX5_mayHave 9 = .ok (.invokevirtual 88, 3) := by decide +kernel
theorem dX5_mayHave_12 : decode cX5_mayHave 12 = .ok (.invokevirtual 92, 3) := by decide +kernel
theorem dX5_mayHave_15 : decode cX5_mayHave 15 = .ok (.lload_n 3, 1) := by decide +kernel
theorem dX5_mayHave_16 : decode cX5_mayHave 16 = .ok (.land, 1) := by decide +kernel
theorem dX5_mayHave_17 : decode cX5_mayHave 17 = .ok (.lload_n 3, 1) := by decide +kernel
theorem dX5_mayHave_18 : decode cX5_mayHave 18 = .ok (.lcmp, 1) := by decide +kernel
theorem dX5_mayHave_19 : decode cX5_mayHave 19 = .ok (.ifCond .ne 7, 3) := by decide +kernel
theorem dX5_mayHave_22 : decode cX5_mayHave 22 = .ok (.iconst 1, 1) := by decide +kernel
theorem dX5_mayHave_23 : decode cX5_mayHave 23 = .ok (.goto 4, 3) := by decide +kernel
theorem dX5_mayHave_26 : decode cX5_mayHave 26 = .ok (.iconst 0, 1) := by decide +kernel
theorem dX5_mayHave_27 : decode cX5_mayHave 27 = .ok (.ireturn, 1) := by decide +kernel
theorem dX5_inLog_0 : decode cX5_inLog 0 = .ok (.iconst (-1), 1) := by decide +kernel
theorem dX5_inLog_1 : decode cX5_inLog 1 = .ok (.istore_n 3, 1) := by decide +kernel
theorem dX5_inLog_2 : decode cX5_inLog 2 = .ok (.iconst 0, 1) := by decide +kernel
theorem dX5_inLog_3 : decode cX5_inLog 3 = .ok (.istore 4, 2) := by decide +kernel
theorem dX5_inLog_5 : decode cX5_inLog 5 = .ok (.iload 4, 2) := by decide +kernel
theorem dX5_inLog_7 : decode cX5_inLog 7 = .ok (.aload_n 0, 1) := by decide +kernel
theorem dX5_inLog_8 : decode cX5_inLog 8 = .ok (.getfield 96, 3) := by decide +kernel
theorem dX5_inLog_11 : decode cX5_inLog 11 = .ok (.if_icmp .ge 38, 3) := by decide +kernel
theorem dX5_inLog_14 : decode cX5_inLog 14 = .ok (.aload_n 0, 1) := by decide +kernel
theorem dX5_inLog_15 : decode cX5_inLog 15 = .ok (.getfield 23, 3) := by decide +kernel
theorem dX5_inLog_18 : decode cX5_inLog 18 = .ok (.iload 4, 2) := by decide +kernel
theorem dX5_inLog_20 : decode cX5_inLog 20 = .ok (.baload, 1) := by decide +kernel
theorem dX5_inLog_21 : decode cX5_inLog 21 = .ok (.ifCond .eq 20, 3) := by decide +kernel
theorem dX5_inLog_24 : decode cX5_inLog 24 = .ok (.aload_n 0, 1) := by decide +kernel
theorem dX5_inLog_25 : decode cX5_inLog 25 = .ok (.getfield 7, 3) := by decide +kernel
theorem dX5_inLog_28 : decode cX5_inLog 28 = .ok (.iload 4, 2) := by decide +kernel
theorem dX5_inLog_30 : decode cX5_inLog 30 = .ok (.laload, 1) := by decide +kernel
theorem dX5_inLog_31 : decode cX5_inLog 31 = .ok (.lload_n 1, 1) := by decide +kernel
theorem dX5_inLog_32 : decode cX5_inLog 32 = .ok (.lcmp, 1) := by decide +kernel
theorem dX5_inLog_33 : decode cX5_inLog 33 = .ok (.ifCond .ne 8, 3) := by decide +kernel
theorem dX5_inLog_36 : decode cX5_inLog 36 = .ok (.iload 4, 2) := by decide +kernel
theorem dX5_inLog_38 : decode cX5_inLog 38 = .ok (.goto 4, 3) := by decide +kernel
theorem dX5_inLog_41 : decode cX5_inLog 41 = .ok (.iload_n 3, 1) := by decide +kernel
theorem dX5_inLog_42 : decode cX5_inLog 42 = .ok (.istore_n 3, 1) := by decide +kernel
theorem dX5_inLog_43 : decode cX5_inLog 43 = .ok (.iinc 4 1, 3) := by decide +kernel
theorem dX5_inLog_46 : decode cX5_inLog 46 = .ok (.goto (-41), 3) := by decide +kernel
theorem dX5_inLog_49 : decode cX5_inLog 49 = .ok (.iload_n 3, 1) := by decide +kernel
theorem dX5_inLog_50 : decode cX5_inLog 50 = .ok (.ireturn, 1) := by decide +kernel
theorem dX5_inPage_0 : decode cX5_inPage 0 = .ok (.aload_n 0, 1) := by decide +kernel
theorem dX5_inPage_1 : decode cX5_inPage 1 = .ok (.lload_n 1, 1) := by decide +kernel
theorem dX5_inPage_2 : decode cX5_inPage 2 = .ok (.invokevirtual 88, 3) := by decide +kernel
theorem dX5_inPage_5 : decode cX5_inPage 5 = .ok (.istore_n 3, 1) := by decide +kernel
theorem dX5_inPage_6 : decode cX5_inPage 6 = .ok (.iconst 0, 1) := by decide +kernel
theorem dX5_inPage_7 : decode cX5_inPage 7 = .ok (.istore 4, 2) := by decide +kernel
theorem dX5_inPage_9 : decode cX5_inPage 9 = .ok (.iload 4, 2) := by decide +kernel
theorem dX5_inPage_11 : decode cX5_inPage 11 = .ok (.aload_n 0, 1) := by decide +kernel
theorem dX5_inPage_12 : decode cX5_inPage 12 = .ok (.getfield 51, 3) := by decide +kernel
theorem dX5_inPage_15 : decode cX5_inPage 15 = .ok (.iload_n 3, 1) := by decide +kernel
theorem dX5_inPage_16 : decode cX5_inPage 16 = .ok (.iaload, 1) := by decide +kernel
theorem dX5_inPage_17 : decode cX5_inPage 17 = .ok (.if_icmp .ge 34, 3) := by decide +kernel
theorem dX5_inPage_20 : decode cX5_inPage 20 = .ok (.aload_n 0, 1) := by decide +kernel
theorem dX5_inPage_21 : decode cX5_inPage 21 = .ok (.getfield 36, 3) := by decide +kernel
theorem dX5_inPage_24 : decode cX5_inPage 24 = .ok (.bipush 8, 2) := by decide +kernel
theorem dX5_inPage_26 : decode cX5_inPage 26 = .ok (.iload_n 3, 1) := by decide +kernel
theorem dX5_inPage_27 : decode cX5_inPage 27 = .ok (.imul, 1) := by decide +kernel
theorem dX5_inPage_28 : decode cX5_inPage 28 = .ok (.iload 4, 2) := by decide +kernel
theorem dX5_inPage_30 : decode cX5_inPage 30 = .ok (.iadd, 1) := by decide +kernel
theorem dX5_inPage_31 : decode cX5_inPage 31 = .ok (.laload, 1) := by decide +kernel
theorem dX5_inPage_32 : decode cX5_inPage 32 = .ok (.lload_n 1, 1) := by decide +kernel
theorem dX5_inPage_33 : decode cX5_inPage 33 = .ok (.lcmp, 1) := by decide +kernel
theorem dX5_inPage_34 : decode cX5_inPage 34 = .ok (.ifCond .ne 11, 3) := by decide +kernel
theorem dX5_inPage_37 : decode cX5_inPage 37 = .ok (.bipush 8, 2) := by decide +kernel
theorem dX5_inPage_39 : decode cX5_inPage 39 = .ok (.iload_n 3, 1) := by decide +kernel
theorem dX5_inPage_40 : decode cX5_inPage 40 = .ok (.imul, 1) := by decide +kernel
theorem dX5_inPage_41 : decode cX5_inPage 41 = .ok (.iload 4, 2) := by decide +kernel
theorem dX5_inPage_43 : decode cX5_inPage 43 = .ok (.iadd, 1) := by decide +kernel
theorem dX5_inPage_44 : decode cX5_inPage 44 = .ok (.ireturn, 1) := by decide +kernel
theorem dX5_inPage_45 : decode cX5_inPage 45 = .ok (.iinc 4 1, 3) := by decide +kernel
theorem dX5_inPage_48 : decode cX5_inPage 48 = .ok (.goto (-39), 3) := by decide +kernel
theorem dX5_inPage_51 : decode cX5_inPage 51 = .ok (.iconst (-1), 1) := by decide +kernel
theorem dX5_inPage_52 : decode cX5_inPage 52 = .ok (.ireturn, 1) := by decide +kernel
theorem dX5_append_0 : decode cX5_append 0 = .ok (.aload_n 0, 1) := by decide +kernel
theorem dX5_append_1 : decode cX5_append 1 = .ok (.getfield 100, 3) := by decide +kernel
theorem dX5_append_4 : decode cX5_append 4 = .ok (.iconst 3, 1) := by decide +kernel
theorem dX5_append_5 : decode cX5_append 5 = .ok (.iadd, 1) := by decide +kernel
theorem dX5_append_6 : decode cX5_append 6 = .ok (.iload_n 3, 1) := by decide +kernel
theorem dX5_append_7 : decode cX5_append 7 = .ok (.iadd, 1) := by decide +kernel
theorem dX5_append_8 : decode cX5_append 8 = .ok (.bipush 32, 2) := by decide +kernel
theorem dX5_append_10 : decode cX5_append 10 = .ok (.if_icmp .le 10, 3) := by decide +kernel
theorem dX5_append_13 : decode cX5_append 13 = .ok (.aload_n 0, 1) := by decide +kernel
theorem dX5_append_14 : decode cX5_append 14 = .ok (.invokevirtual 103, 3) := by decide +kernel
theorem dX5_append_17 : decode cX5_append 17 = .ok (.goto (-17), 3) := by decide +kernel
theorem dX5_append_20 : decode cX5_append 20 = .ok (.aload_n 0, 1) := by decide +kernel
theorem dX5_append_21 : decode cX5_append 21 = .ok (.getfield 7, 3) := by decide +kernel
theorem dX5_append_24 : decode cX5_append 24 = .ok (.aload_n 0, 1) := by decide +kernel
theorem dX5_append_25 : decode cX5_append 25 = .ok (.getfield 96, 3) := by decide +kernel
theorem dX5_append_28 : decode cX5_append 28 = .ok (.lload_n 1, 1) := by decide +kernel
theorem dX5_append_29 : decode cX5_append 29 = .ok (.lastore, 1) := by decide +kernel
theorem dX5_append_30 : decode cX5_append 30 = .ok (.aload_n 0, 1) := by decide +kernel
theorem dX5_append_31 : decode cX5_append 31 = .ok (.getfield 13, 3) := by decide +kernel
theorem dX5_append_34 : decode cX5_append 34 = .ok (.aload_n 0, 1) := by decide +kernel
theorem dX5_append_35 : decode cX5_append 35 = .ok (.getfield 96, 3) := by decide +kernel
theorem dX5_append_38 : decode cX5_append 38 = .ok (.iload_n 3, 1) := by decide +kernel
theorem dX5_append_39 : decode cX5_append 39 = .ok (.iastore, 1) := by decide +kernel
theorem dX5_append_40 : decode cX5_append 40 = .ok (.aload_n 0, 1) := by decide +kernel
theorem dX5_append_41 : decode cX5_append 41 = .ok (.getfield 17, 3) := by decide +kernel
theorem dX5_append_44 : decode cX5_append 44 = .ok (.aload_n 0, 1) := by decide +kernel
theorem dX5_append_45 : decode cX5_append 45 = .ok (.getfield 96, 3) := by decide +kernel
theorem dX5_append_48 : decode cX5_append 48 = .ok (.iload 4, 2) := by decide +kernel
theorem dX5_append_50 : decode cX5_append 50 = .ok (.iastore, 1) := by decide +kernel
theorem dX5_append_51 : decode cX5_append 51 = .ok (.aload_n 0, 1) := by decide +kernel
theorem dX5_append_52 : decode cX5_append 52 = .ok (.getfield 20, 3) := by decide +kernel
theorem dX5_append_55 : decode cX5_append 55 = .ok (.aload_n 0, 1) := by decide +kernel
theorem dX5_append_56 : decode cX5_append 56 = .ok (.getfield 96, 3) := by decide +kernel
theorem dX5_append_59 : decode cX5_append 59 = .ok (.iload 5, 2) := by decide +kernel
theorem dX5_append_61 : decode cX5_append 61 = .ok (.iastore, 1) := by decide +kernel
theorem dX5_append_62 : decode cX5_append 62 = .ok (.aload_n 0, 1) := by decide +kernel
theorem dX5_append_63 : decode cX5_append 63 = .ok (.getfield 23, 3) := by decide +kernel
theorem dX5_append_66 : decode cX5_append 66 = .ok (.aload_n 0, 1) := by decide +kernel
theorem dX5_append_67 : decode cX5_append 67 = .ok (.getfield 96, 3) := by decide +kernel
theorem dX5_append_70 : decode cX5_append 70 = .ok (.iconst 1, 1) := by decide +kernel
theorem dX5_append_71 : decode cX5_append 71 = .ok (.bastore, 1) := by decide +kernel
theorem dX5_append_72 : decode cX5_append 72 = .ok (.aload_n 0, 1) := by decide +kernel
theorem dX5_append_73 : decode cX5_append 73 = .ok (.getfield 27, 3) := by decide +kernel
theorem dX5_append_76 : decode cX5_append 76 = .ok (.aload_n 0, 1) := by decide +kernel
theorem dX5_append_77 : decode cX5_append 77 = .ok (.getfield 96, 3) := by decide +kernel
theorem dX5_append_80 : decode cX5_append 80 = .ok (.iconst 0, 1) := by decide +kernel
theorem dX5_append_81 : decode cX5_append 81 = .ok (.bastore, 1) := by decide +kernel
theorem dX5_append_82 : decode cX5_append 82 = .ok (.aload_n 0, 1) := by decide +kernel
theorem dX5_append_83 : decode cX5_append 83 = .ok (.getfield 30, 3) := by decide +kernel
theorem dX5_append_86 : decode cX5_append 86 = .ok (.aload_n 0, 1) := by decide +kernel
theorem dX5_append_87 : decode cX5_append 87 = .ok (.getfield 96, 3) := by decide +kernel
theorem dX5_append_90 : decode cX5_append 90 = .ok (.bipush 8, 2) := by decide +kernel
theorem dX5_append_92 : decode cX5_append 92 = .ok (.iastore, 1) := by decide +kernel
theorem dX5_append_93 : decode cX5_append 93 = .ok (.aload_n 0, 1) := by decide +kernel
theorem dX5_append_94 : decode cX5_append 94 = .ok (.dup, 1) := by decide +kernel
theorem dX5_append_95 : decode cX5_append 95 = .ok (.getfield 96, 3) := by decide +kernel
theorem dX5_append_98 : decode cX5_append 98 = .ok (.iconst 1, 1) := by decide +kernel
theorem dX5_append_99 : decode cX5_append 99 = .ok (.iadd, 1) := by decide +kernel
theorem dX5_append_100 : decode cX5_append 100 = .ok (.putfield 96, 3) := by decide +kernel
theorem dX5_append_103 : decode cX5_append 103 = .ok (.aload_n 0, 1) := by decide +kernel
theorem dX5_append_104 : decode cX5_append 104 = .ok (.dup, 1) := by decide +kernel
theorem dX5_append_105 : decode cX5_append 105 = .ok (.getfield 100, 3) := by decide +kernel
theorem dX5_append_108 : decode cX5_append 108 = .ok (.iconst 3, 1) := by decide +kernel
theorem dX5_append_109 : decode cX5_append 109 = .ok (.iload_n 3, 1) := by decide +kernel
theorem dX5_append_110 : decode cX5_append 110 = .ok (.iadd, 1) := by decide +kernel
theorem dX5_append_111 : decode cX5_append 111 = .ok (.iadd, 1) := by decide +kernel
theorem dX5_append_112 : decode cX5_append 112 = .ok (.putfield 100, 3) := by decide +kernel
theorem dX5_append_115 : decode cX5_append 115 = .ok (.return_, 1) := by decide +kernel
theorem dX5_writeOpenPage_0 : decode cX5_writeOpenPage 0 = .ok (.iconst 0, 1) := by decide +kernel
theorem dX5_writeOpenPage_1 : decode cX5_writeOpenPage 1 = .ok (.istore_n 1, 1) := by decide +kernel
theorem dX5_writeOpenPage_2 : decode cX5_writeOpenPage 2 = .ok (.iload_n 1, 1) := by decide +kernel
theorem dX5_writeOpenPage_3 : decode cX5_writeOpenPage 3 = .ok (.aload_n 0, 1) := by decide +kernel
theorem dX5_writeOpenPage_4 : decode cX5_writeOpenPage 4 = .ok (.getfield 96, 3) := by decide +kernel
theorem dX5_writeOpenPage_7 : decode cX5_writeOpenPage 7 = .ok (.if_icmp .ge 30, 3) := by decide +kernel
theorem dX5_writeOpenPage_10 : decode cX5_writeOpenPage 10 = .ok (.aload_n 0, 1) := by decide +kernel
theorem dX5_writeOpenPage_11 : decode cX5_writeOpenPage 11 = .ok (.getfield 30, 3) := by decide +kernel
theorem dX5_writeOpenPage_14 : decode cX5_writeOpenPage 14 = .ok (.iload_n 1, 1) := by decide +kernel
theorem dX5_writeOpenPage_15 : decode cX5_writeOpenPage 15 = .ok (.iaload, 1) := by decide +kernel
theorem dX5_writeOpenPage_16 : decode cX5_writeOpenPage 16 = .ok (.bipush 8, 2) := by decide +kernel
theorem dX5_writeOpenPage_18 : decode cX5_writeOpenPage 18 = .ok (.if_icmp .ne 13, 3) := by decide +kernel
theorem dX5_writeOpenPage_21 : decode cX5_writeOpenPage 21 = .ok (.aload_n 0, 1) := by decide +kernel
theorem dX5_writeOpenPage_22 : decode cX5_writeOpenPage 22 = .ok (.getfield 30, 3) := by decide +kernel
theorem dX5_writeOpenPage_25 : decode cX5_writeOpenPage 25 = .ok (.iload_n 1, 1) := by decide +kernel
theorem dX5_writeOpenPage_26 : decode cX5_writeOpenPage 26 = .ok (.aload_n 0, 1) := by decide +kernel
theorem dX5_writeOpenPage_27 : decode cX5_writeOpenPage 27 = .ok (.getfield 106, 3) := by decide +kernel
theorem dX5_writeOpenPage_30 : decode cX5_writeOpenPage 30 = .ok (.iastore, 1) := by decide +kernel
theorem dX5_writeOpenPage_31 : decode cX5_writeOpenPage 31 = .ok (.iinc 1 1, 3) := by decide +kernel
theorem dX5_writeOpenPage_34 : decode cX5_writeOpenPage 34 = .ok (.goto (-32), 3) := by decide +kernel
theorem dX5_writeOpenPage_37 : decode cX5_writeOpenPage 37 = .ok (.aload_n 0, 1) := by decide +kernel
theorem dX5_writeOpenPage_38 : decode cX5_writeOpenPage 38 = .ok (.iconst 0, 1) := by decide +kernel
theorem dX5_writeOpenPage_39 : decode cX5_writeOpenPage 39 = .ok (.putfield 100, 3) := by decide +kernel
theorem dX5_writeOpenPage_42 : decode cX5_writeOpenPage 42 = .ok (.aload_n 0, 1) := by decide +kernel
theorem dX5_writeOpenPage_43 : decode cX5_writeOpenPage 43 = .ok (.getfield 33, 3) := by decide +kernel
theorem dX5_writeOpenPage_46 : decode cX5_writeOpenPage 46 = .ok (.aload_n 0, 1) := by decide +kernel
theorem dX5_writeOpenPage_47 : decode cX5_writeOpenPage 47 = .ok (.getfield 106, 3) := by decide +kernel
theorem dX5_writeOpenPage_50 : decode cX5_writeOpenPage 50 = .ok (.dup2, 1) := by decide +kernel
theorem dX5_writeOpenPage_51 : decode cX5_writeOpenPage 51 = .ok (.iaload, 1) := by decide +kernel
theorem dX5_writeOpenPage_52 : decode cX5_writeOpenPage 52 = .ok (.iconst 1, 1) := by decide +kernel
theorem dX5_writeOpenPage_53 : decode cX5_writeOpenPage 53 = .ok (.iadd, 1) := by decide +kernel
theorem dX5_writeOpenPage_54 : decode cX5_writeOpenPage 54 = .ok (.iastore, 1) := by decide +kernel
theorem dX5_writeOpenPage_55 : decode cX5_writeOpenPage 55 = .ok (.aload_n 0, 1) := by decide +kernel
theorem dX5_writeOpenPage_56 : decode cX5_writeOpenPage 56 = .ok (.getfield 72, 3) := by decide +kernel
theorem dX5_writeOpenPage_59 : decode cX5_writeOpenPage 59 = .ok (.iconst 1, 1) := by decide +kernel
theorem dX5_writeOpenPage_60 : decode cX5_writeOpenPage 60 = .ok (.dup2, 1) := by decide +kernel
theorem dX5_writeOpenPage_61 : decode cX5_writeOpenPage 61 = .ok (.iaload, 1) := by decide +kernel
theorem dX5_writeOpenPage_62 : decode cX5_writeOpenPage 62 = .ok (.iconst 1, 1) := by decide +kernel
theorem dX5_writeOpenPage_63 : decode cX5_writeOpenPage 63 = .ok (.iadd, 1) := by decide +kernel
theorem dX5_writeOpenPage_64 : decode cX5_writeOpenPage 64 = .ok (.iastore, 1) := by decide +kernel
theorem dX5_writeOpenPage_65 : decode cX5_writeOpenPage 65 = .ok (.aload_n 0, 1) := by decide +kernel
theorem dX5_writeOpenPage_66 : decode cX5_writeOpenPage 66 = .ok (.getfield 33, 3) := by decide +kernel
theorem dX5_writeOpenPage_69 : decode cX5_writeOpenPage 69 = .ok (.aload_n 0, 1) := by decide +kernel
theorem dX5_writeOpenPage_70 : decode cX5_writeOpenPage 70 = .ok (.getfield 106, 3) := by decide +kernel
theorem dX5_writeOpenPage_73 : decode cX5_writeOpenPage 73 = .ok (.iaload, 1) := by decide +kernel
theorem dX5_writeOpenPage_74 : decode cX5_writeOpenPage 74 = .ok (.iconst 4, 1) := by decide +kernel
theorem dX5_writeOpenPage_75 : decode cX5_writeOpenPage 75 = .ok (.if_icmp .ne 46, 3) := by decide +kernel
theorem dX5_writeOpenPage_78 : decode cX5_writeOpenPage 78 = .ok (.aload_n 0, 1) := by decide +kernel
theorem dX5_writeOpenPage_79 : decode cX5_writeOpenPage 79 = .ok (.getfield 72, 3) := by decide +kernel
theorem dX5_writeOpenPage_82 : decode cX5_writeOpenPage 82 = .ok (.iconst 0, 1) := by decide +kernel
theorem dX5_writeOpenPage_83 : decode cX5_writeOpenPage 83 = .ok (.dup2, 1) := by decide +kernel
theorem dX5_writeOpenPage_84 : decode cX5_writeOpenPage 84 = .ok (.iaload, 1) := by decide +kernel
theorem dX5_writeOpenPage_85 : decode cX5_writeOpenPage 85 = .ok (.iconst 1, 1) := by decide +kernel
theorem dX5_writeOpenPage_86 : decode cX5_writeOpenPage 86 = .ok (.iadd, 1) := by decide +kernel
theorem dX5_writeOpenPage_87 : decode cX5_writeOpenPage 87 = .ok (.iastore, 1) := by decide +kernel
theorem dX5_writeOpenPage_88 : decode cX5_writeOpenPage 88 = .ok (.aload_n 0, 1) := by decide +kernel
theorem dX5_writeOpenPage_89 : decode cX5_writeOpenPage 89 = .ok (.aload_n 0, 1) := by decide +kernel
theorem dX5_writeOpenPage_90 : decode cX5_writeOpenPage 90 = .ok (.getfield 106, 3) := by decide +kernel
theorem dX5_writeOpenPage_93 : decode cX5_writeOpenPage 93 = .ok (.iconst 1, 1) := by decide +kernel
theorem dX5_writeOpenPage_94 : decode cX5_writeOpenPage 94 = .ok (.iadd, 1) := by decide +kernel
theorem dX5_writeOpenPage_95 : decode cX5_writeOpenPage 95 = .ok (.bipush 8, 2) := by decide +kernel
theorem dX5_writeOpenPage_97 : decode cX5_writeOpenPage 97 = .ok (.irem, 1) := by decide +kernel
theorem dX5_writeOpenPage_98 : decode cX5_writeOpenPage 98 = .ok (.putfield 106, 3) := by decide +kernel
theorem dX5_writeOpenPage_101 : decode cX5_writeOpenPage 101 = .ok (.aload_n 0, 1) := by decide +kernel
theorem dX5_writeOpenPage_102 : decode cX5_writeOpenPage 102 = .ok (.getfield 33, 3) := by decide +kernel
theorem dX5_writeOpenPage_105 : decode cX5_writeOpenPage 105 = .ok (.aload_n 0, 1) := by decide +kernel
theorem dX5_writeOpenPage_106 : decode cX5_writeOpenPage 106 = .ok (.getfield 106, 3) := by decide +kernel
theorem dX5_writeOpenPage_109 : decode cX5_writeOpenPage 109 = .ok (.iaload, 1) := by decide +kernel
theorem dX5_writeOpenPage_110 : decode cX5_writeOpenPage 110 = .ok (.ifCond .le 11, 3) := by decide +kernel
theorem dX5_writeOpenPage_113 : decode cX5_writeOpenPage 113 = .ok (.aload_n 0, 1) := by decide +kernel
theorem dX5_writeOpenPage_114 : decode cX5_writeOpenPage 114 = .ok (.aload_n 0, 1) := by decide +kernel
theorem dX5_writeOpenPage_115 : decode cX5_writeOpenPage 115 = .ok (.getfield 106, 3) := by decide +kernel
theorem dX5_writeOpenPage_118 : decode cX5_writeOpenPage 118 = .ok (.invokevirtual 109, 3) := by decide +kernel
theorem dX5_writeOpenPage_121 : decode cX5_writeOpenPage 121 = .ok (.return_, 1) := by decide +kernel
theorem dX5_empty_0 : decode cX5_empty 0 = .ok (.iconst 0, 1) := by decide +kernel
theorem dX5_empty_1 : decode cX5_empty 1 = .ok (.istore_n 2, 1) := by decide +kernel
theorem dX5_empty_2 : decode cX5_empty 2 = .ok (.iload_n 2, 1) := by decide +kernel
theorem dX5_empty_3 : decode cX5_empty 3 = .ok (.aload_n 0, 1) := by decide +kernel
theorem dX5_empty_4 : decode cX5_empty 4 = .ok (.getfield 96, 3) := by decide +kernel
theorem dX5_empty_7 : decode cX5_empty 7 = .ok (.if_icmp .ge 27, 3) := by decide +kernel
theorem dX5_empty_10 : decode cX5_empty 10 = .ok (.aload_n 0, 1) := by decide +kernel
theorem dX5_empty_11 : decode cX5_empty 11 = .ok (.getfield 30, 3) := by decide +kernel
theorem dX5_empty_14 : decode cX5_empty 14 = .ok (.iload_n 2, 1) := by decide +kernel
theorem dX5_empty_15 : decode cX5_empty 15 = .ok (.iaload, 1) := by decide +kernel
theorem dX5_empty_16 : decode cX5_empty 16 = .ok (.iload_n 1, 1) := by decide +kernel
theorem dX5_empty_17 : decode cX5_empty 17 = .ok (.if_icmp .ne 11, 3) := by decide +kernel
theorem dX5_empty_20 : decode cX5_empty 20 = .ok (.aload_n 0, 1) := by decide +kernel
theorem dX5_empty_21 : decode cX5_empty 21 = .ok (.getfield 30, 3) := by decide +kernel
theorem dX5_empty_24 : decode cX5_empty 24 = .ok (.iload_n 2, 1) := by decide +kernel
theorem dX5_empty_25 : decode cX5_empty 25 = .ok (.bipush 9, 2) := by decide +kernel
theorem dX5_empty_27 : decode cX5_empty 27 = .ok (.iastore, 1) := by decide +kernel
theorem dX5_empty_28 : decode cX5_empty 28 = .ok (.iinc 2 1, 3) := by decide +kernel
theorem dX5_empty_31 : decode cX5_empty 31 = .ok (.goto (-29), 3) := by decide +kernel
theorem dX5_empty_34 : decode cX5_empty 34 = .ok (.aload_n 0, 1) := by decide +kernel
theorem dX5_empty_35 : decode cX5_empty 35 = .ok (.getfield 33, 3) := by decide +kernel
theorem dX5_empty_38 : decode cX5_empty 38 = .ok (.iload_n 1, 1) := by decide +kernel
theorem dX5_empty_39 : decode cX5_empty 39 = .ok (.iconst 0, 1) := by decide +kernel
theorem dX5_empty_40 : decode cX5_empty 40 = .ok (.iastore, 1) := by decide +kernel
theorem dX5_empty_41 : decode cX5_empty 41 = .ok (.aload_n 0, 1) := by decide +kernel
theorem dX5_empty_42 : decode cX5_empty 42 = .ok (.invokevirtual 113, 3) := by decide +kernel
theorem dX5_empty_45 : decode cX5_empty 45 = .ok (.aload_n 0, 1) := by decide +kernel
theorem dX5_empty_46 : decode cX5_empty 46 = .ok (.getfield 96, 3) := by decide +kernel
theorem dX5_empty_49 : decode cX5_empty 49 = .ok (.istore_n 2, 1) := by decide +kernel
theorem dX5_empty_50 : decode cX5_empty 50 = .ok (.iconst 0, 1) := by decide +kernel
theorem dX5_empty_51 : decode cX5_empty 51 = .ok (.istore_n 3, 1) := by decide +kernel
theorem dX5_empty_52 : decode cX5_empty 52 = .ok (.iload_n 3, 1) := by decide +kernel
theorem dX5_empty_53 : decode cX5_empty 53 = .ok (.iload_n 2, 1) := by decide +kernel
theorem dX5_empty_54 : decode cX5_empty 54 = .ok (.if_icmp .ge 34, 3) := by decide +kernel
theorem dX5_empty_57 : decode cX5_empty 57 = .ok (.aload_n 0, 1) := by decide +kernel
theorem dX5_empty_58 : decode cX5_empty 58 = .ok (.getfield 30, 3) := by decide +kernel
theorem dX5_empty_61 : decode cX5_empty 61 = .ok (.iload_n 3, 1) := by decide +kernel
theorem dX5_empty_62 : decode cX5_empty 62 = .ok (.iaload, 1) := by decide +kernel
theorem dX5_empty_63 : decode cX5_empty 63 = .ok (.bipush 9, 2) := by decide +kernel
theorem dX5_empty_65 : decode cX5_empty 65 = .ok (.if_icmp .ne 17, 3) := by decide +kernel
theorem dX5_empty_68 : decode cX5_empty 68 = .ok (.aload_n 0, 1) := by decide +kernel
theorem dX5_empty_69 : decode cX5_empty 69 = .ok (.getfield 23, 3) := by decide +kernel
theorem dX5_empty_72 : decode cX5_empty 72 = .ok (.iload_n 3, 1) := by decide +kernel
theorem dX5_empty_73 : decode cX5_empty 73 = .ok (.baload, 1) := by decide +kernel
theorem dX5_empty_74 : decode cX5_empty 74 = .ok (.ifCond .eq 8, 3) := by decide +kernel
theorem dX5_empty_77 : decode cX5_empty 77 = .ok (.aload_n 0, 1) := by decide +kernel
theorem dX5_empty_78 : decode cX5_empty 78 = .ok (.iload_n 3, 1) := by decide +kernel
theorem dX5_empty_79 : decode cX5_empty 79 = .ok (.invokevirtual 116, 3) := by decide +kernel
theorem dX5_empty_82 : decode cX5_empty 82 = .ok (.iinc 3 1, 3) := by decide +kernel
theorem dX5_empty_85 : decode cX5_empty 85 = .ok (.goto (-33), 3) := by decide +kernel
theorem dX5_empty_88 : decode cX5_empty 88 = .ok (.aload_n 0, 1) := by decide +kernel
theorem dX5_empty_89 : decode cX5_empty 89 = .ok (.invokevirtual 113, 3) := by decide +kernel
theorem dX5_empty_92 : decode cX5_empty 92 = .ok (.return_, 1) := by decide +kernel
theorem dX5_forgetDead_0 : decode cX5_forgetDead 0 = .ok (.iconst 0, 1) := by decide +kernel
theorem dX5_forgetDead_1 : decode cX5_forgetDead 1 = .ok (.istore_n 1, 1) := by decide +kernel
theorem dX5_forgetDead_2 : decode cX5_forgetDead 2 = .ok (.iconst 0, 1) := by decide +kernel
theorem dX5_forgetDead_3 : decode cX5_forgetDead 3 = .ok (.istore_n 2, 1) := by decide +kernel
theorem dX5_forgetDead_4 : decode cX5_forgetDead 4 = .ok (.iload_n 2, 1) := by decide +kernel
theorem dX5_forgetDead_5 : decode cX5_forgetDead 5 = .ok (.aload_n 0, 1) := by decide +kernel
theorem dX5_forgetDead_6 : decode cX5_forgetDead 6 = .ok (.getfield 96, 3) := by decide +kernel
theorem dX5_forgetDead_9 : decode cX5_forgetDead 9 = .ok (.if_icmp .ge 119, 3) := by decide +kernel
theorem dX5_forgetDead_12 : decode cX5_forgetDead 12 = .ok (.aload_n 0, 1) := by decide +kernel
theorem dX5_forgetDead_13 : decode cX5_forgetDead 13 = .ok (.getfield 30, 3) := by decide +kernel
theorem dX5_forgetDead_16 : decode cX5_forgetDead 16 = .ok (.iload_n 2, 1) := by decide +kernel
theorem dX5_forgetDead_17 : decode cX5_forgetDead 17 = .ok (.iaload, 1) := by decide +kernel
theorem dX5_forgetDead_18 : decode cX5_forgetDead 18 = .ok (.bipush 9, 2) := by decide +kernel
theorem dX5_forgetDead_20 : decode cX5_forgetDead 20 = .ok (.if_icmp .ne 15, 3) := by decide +kernel
theorem dX5_forgetDead_23 : decode cX5_forgetDead 23 = .ok (.aload_n 0, 1) := by decide +kernel
theorem dX5_forgetDead_24 : decode cX5_forgetDead 24 = .ok (.getfield 23, 3) := by decide +kernel
theorem dX5_forgetDead_27 : decode cX5_forgetDead 27 = .ok (.iload_n 2, 1) := by decide +kernel
theorem dX5_forgetDead_28 : decode cX5_forgetDead 28 = .ok (.baload, 1) := by decide +kernel
theorem dX5_forgetDead_29 : decode cX5_forgetDead 29 = .ok (.ifCond .ne 6, 3) := by decide +kernel
theorem dX5_forgetDead_32 : decode cX5_forgetDead 32 = .ok (.goto 90, 3) := by decide +kernel
theorem dX5_forgetDead_35 : decode cX5_forgetDead 35 = .ok (.aload_n 0, 1) := by decide +kernel
theorem dX5_forgetDead_36 : decode cX5_forgetDead 36 = .ok (.getfield 7, 3) := by decide +kernel
theorem dX5_forgetDead_39 : decode cX5_forgetDead 39 = .ok (.iload_n 1, 1) := by decide +kernel
theorem dX5_forgetDead_40 : decode cX5_forgetDead 40 = .ok (.aload_n 0, 1) := by decide +kernel
theorem dX5_forgetDead_41 : decode cX5_forgetDead 41 = .ok (.getfield 7, 3) := by decide +kernel
theorem dX5_forgetDead_44 : decode cX5_forgetDead 44 = .ok (.iload_n 2, 1) := by decide +kernel
theorem dX5_forgetDead_45 : decode cX5_forgetDead 45 = .ok (.laload, 1) := by decide +kernel
theorem dX5_forgetDead_46 : decode cX5_forgetDead 46 = .ok (.lastore, 1) := by decide +kernel
theorem dX5_forgetDead_47 : decode cX5_forgetDead 47 = .ok (.aload_n 0, 1) := by decide +kernel
theorem dX5_forgetDead_48 : decode cX5_forgetDead 48 = .ok (.getfield 13, 3) := by decide +kernel
theorem dX5_forgetDead_51 : decode cX5_forgetDead 51 = .ok (.iload_n 1, 1) := by decide +kernel
theorem dX5_forgetDead_52 : decode cX5_forgetDead 52 = .ok (.aload_n 0, 1) := by decide +kernel
theorem dX5_forgetDead_53 : decode cX5_forgetDead 53 = .ok (.getfield 13, 3) := by decide +kernel
theorem dX5_forgetDead_56 : decode cX5_forgetDead 56 = .ok (.iload_n 2, 1) := by decide +kernel
theorem dX5_forgetDead_57 : decode cX5_forgetDead 57 = .ok (.iaload, 1) := by decide +kernel
theorem dX5_forgetDead_58 : decode cX5_forgetDead 58 = .ok (.iastore, 1) := by decide +kernel
theorem dX5_forgetDead_59 : decode cX5_forgetDead 59 = .ok (.aload_n 0, 1) := by decide +kernel
theorem dX5_forgetDead_60 : decode cX5_forgetDead 60 = .ok (.getfield 17, 3) := by decide +kernel
theorem dX5_forgetDead_63 : decode cX5_forgetDead 63 = .ok (.iload_n 1, 1) := by decide +kernel
theorem dX5_forgetDead_64 : decode cX5_forgetDead 64 = .ok (.aload_n 0, 1) := by decide +kernel
theorem dX5_forgetDead_65 : decode cX5_forgetDead 65 = .ok (.getfield 17, 3) := by decide +kernel
theorem dX5_forgetDead_68 : decode cX5_forgetDead 68 = .ok (.iload_n 2, 1) := by decide +kernel
theorem dX5_forgetDead_69 : decode cX5_forgetDead 69 = .ok (.iaload, 1) := by decide +kernel
theorem dX5_forgetDead_70 : decode cX5_forgetDead 70 = .ok (.iastore, 1) := by decide +kernel
theorem dX5_forgetDead_71 : decode cX5_forgetDead 71 = .ok (.aload_n 0, 1) := by decide +kernel
theorem dX5_forgetDead_72 : decode cX5_forgetDead 72 = .ok (.getfield 20, 3) := by decide +kernel
theorem dX5_forgetDead_75 : decode cX5_forgetDead 75 = .ok (.iload_n 1, 1) := by decide +kernel
theorem dX5_forgetDead_76 : decode cX5_forgetDead 76 = .ok (.aload_n 0, 1) := by decide +kernel
theorem dX5_forgetDead_77 : decode cX5_forgetDead 77 = .ok (.getfield 20, 3) := by decide +kernel
theorem dX5_forgetDead_80 : decode cX5_forgetDead 80 = .ok (.iload_n 2, 1) := by decide +kernel
theorem dX5_forgetDead_81 : decode cX5_forgetDead 81 = .ok (.iaload, 1) := by decide +kernel
theorem dX5_forgetDead_82 : decode cX5_forgetDead 82 = .ok (.iastore, 1) := by decide +kernel
theorem dX5_forgetDead_83 : decode cX5_forgetDead 83 = .ok (.aload_n 0, 1) := by decide +kernel
theorem dX5_forgetDead_84 : decode cX5_forgetDead 84 = .ok (.getfield 23, 3) := by decide +kernel
theorem dX5_forgetDead_87 : decode cX5_forgetDead 87 = .ok (.iload_n 1, 1) := by decide +kernel
theorem dX5_forgetDead_88 : decode cX5_forgetDead 88 = .ok (.aload_n 0, 1) := by decide +kernel
theorem dX5_forgetDead_89 : decode cX5_forgetDead 89 = .ok (.getfield 23, 3) := by decide +kernel
theorem dX5_forgetDead_92 : decode cX5_forgetDead 92 = .ok (.iload_n 2, 1) := by decide +kernel
theorem dX5_forgetDead_93 : decode cX5_forgetDead 93 = .ok (.baload, 1) := by decide +kernel
theorem dX5_forgetDead_94 : decode cX5_forgetDead 94 = .ok (.bastore, 1) := by decide +kernel
theorem dX5_forgetDead_95 : decode cX5_forgetDead 95 = .ok (.aload_n 0, 1) := by decide +kernel
theorem dX5_forgetDead_96 : decode cX5_forgetDead 96 = .ok (.getfield 27, 3) := by decide +kernel
theorem dX5_forgetDead_99 : decode cX5_forgetDead 99 = .ok (.iload_n 1, 1) := by decide +kernel
theorem dX5_forgetDead_100 : decode cX5_forgetDead 100 = .ok (.aload_n 0, 1) := by decide +kernel
theorem dX5_forgetDead_101 : decode cX5_forgetDead 101 = .ok (.getfield 27, 3) := by decide +kernel
theorem dX5_forgetDead_104 : decode cX5_forgetDead 104 = .ok (.iload_n 2, 1) := by decide +kernel
theorem dX5_forgetDead_105 : decode cX5_forgetDead 105 = .ok (.baload, 1) := by decide +kernel
theorem dX5_forgetDead_106 : decode cX5_forgetDead 106 = .ok (.bastore, 1) := by decide +kernel
theorem dX5_forgetDead_107 : decode cX5_forgetDead 107 = .ok (.aload_n 0, 1) := by decide +kernel
theorem dX5_forgetDead_108 : decode cX5_forgetDead 108 = .ok (.getfield 30, 3) := by decide +kernel
theorem dX5_forgetDead_111 : decode cX5_forgetDead 111 = .ok (.iload_n 1, 1) := by decide +kernel
theorem dX5_forgetDead_112 : decode cX5_forgetDead 112 = .ok (.aload_n 0, 1) := by decide +kernel
theorem dX5_forgetDead_113 : decode cX5_forgetDead 113 = .ok (.getfield 30, 3) := by decide +kernel
theorem dX5_forgetDead_116 : decode cX5_forgetDead 116 = .ok (.iload_n 2, 1) := by decide +kernel
theorem dX5_forgetDead_117 : decode cX5_forgetDead 117 = .ok (.iaload, 1) := by decide +kernel
theorem dX5_forgetDead_118 : decode cX5_forgetDead 118 = .ok (.iastore, 1) := by decide +kernel
theorem dX5_forgetDead_119 : decode cX5_forgetDead 119 = .ok (.iinc 1 1, 3) := by decide +kernel
theorem dX5_forgetDead_122 : decode cX5_forgetDead 122 = .ok (.iinc 2 1, 3) := by decide +kernel
theorem dX5_forgetDead_125 : decode cX5_forgetDead 125 = .ok (.goto (-121), 3) := by decide +kernel
theorem dX5_forgetDead_128 : decode cX5_forgetDead 128 = .ok (.aload_n 0, 1) := by decide +kernel
theorem dX5_forgetDead_129 : decode cX5_forgetDead 129 = .ok (.iload_n 1, 1) := by decide +kernel
theorem dX5_forgetDead_130 : decode cX5_forgetDead 130 = .ok (.putfield 96, 3) := by decide +kernel
theorem dX5_forgetDead_133 : decode cX5_forgetDead 133 = .ok (.return_, 1) := by decide +kernel
theorem dX5_handle_0 : decode cX5_handle 0 = .ok (.aload_n 0, 1) := by decide +kernel
theorem dX5_handle_1 : decode cX5_handle 1 = .ok (.aload_n 0, 1) := by decide +kernel
theorem dX5_handle_2 : decode cX5_handle 2 = .ok (.getfield 7, 3) := by decide +kernel
theorem dX5_handle_5 : decode cX5_handle 5 = .ok (.iload_n 1, 1) := by decide +kernel
theorem dX5_handle_6 : decode cX5_handle 6 = .ok (.laload, 1) := by decide +kernel
theorem dX5_handle_7 : decode cX5_handle 7 = .ok (.invokevirtual 88, 3) := by decide +kernel
theorem dX5_handle_10 : decode cX5_handle 10 = .ok (.istore_n 2, 1) := by decide +kernel
theorem dX5_handle_11 : decode cX5_handle 11 = .ok (.iconst 0, 1) := by decide +kernel
theorem dX5_handle_12 : decode cX5_handle 12 = .ok (.istore_n 3, 1) := by decide +kernel
theorem dX5_handle_13 : decode cX5_handle 13 = .ok (.iconst 0, 1) := by decide +kernel
theorem dX5_handle_14 : decode cX5_handle 14 = .ok (.istore 4, 2) := by decide +kernel
theorem dX5_handle_16 : decode cX5_handle 16 = .ok (.iload 4, 2) := by decide +kernel
theorem dX5_handle_18 : decode cX5_handle 18 = .ok (.aload_n 0, 1) := by decide +kernel
theorem dX5_handle_19 : decode cX5_handle 19 = .ok (.getfield 96, 3) := by decide +kernel
theorem dX5_handle_22 : decode cX5_handle 22 = .ok (.if_icmp .ge 42, 3) := by decide +kernel
theorem dX5_handle_25 : decode cX5_handle 25 = .ok (.iload_n 3, 1) := by decide +kernel
theorem dX5_handle_26 : decode cX5_handle 26 = .ok (.aload_n 0, 1) := by decide +kernel
theorem dX5_handle_27 : decode cX5_handle 27 = .ok (.getfield 23, 3) := by decide +kernel
theorem dX5_handle_30 : decode cX5_handle 30 = .ok (.iload 4, 2) := by decide +kernel
theorem dX5_handle_32 : decode cX5_handle 32 = .ok (.baload, 1) := by decide +kernel
theorem dX5_handle_33 : decode cX5_handle 33 = .ok (.ifCond .eq 22, 3) := by decide +kernel
theorem dX5_handle_36 : decode cX5_handle 36 = .ok (.aload_n 0, 1) := by decide +kernel
theorem dX5_handle_37 : decode cX5_handle 37 = .ok (.aload_n 0, 1) := by decide +kernel
theorem dX5_handle_38 : decode cX5_handle 38 = .ok (.getfield 7, 3) := by decide +kernel
theorem dX5_handle_41 : decode cX5_handle 41 = .ok (.iload 4, 2) := by decide +kernel
theorem dX5_handle_43 : decode cX5_handle 43 = .ok (.laload, 1) := by decide +kernel
theorem dX5_handle_44 : decode cX5_handle 44 = .ok (.invokevirtual 88, 3) := by decide +kernel
theorem dX5_handle_47 : decode cX5_handle 47 = .ok (.iload_n 2, 1) := by decide +kernel
theorem dX5_handle_48 : decode cX5_handle 48 = .ok (.if_icmp .ne 7, 3) := by decide +kernel
theorem dX5_handle_51 : decode cX5_handle 51 = .ok (.iconst 1, 1) := by decide +kernel
theorem dX5_handle_52 : decode cX5_handle 52 = .ok (.goto 4, 3) := by decide +kernel
theorem dX5_handle_55 : decode cX5_handle 55 = .ok (.iconst 0, 1) := by decide +kernel
theorem dX5_handle_56 : decode cX5_handle 56 = .ok (.iadd, 1) := by decide +kernel
theorem dX5_handle_57 : decode cX5_handle 57 = .ok (.istore_n 3, 1) := by decide +kernel
theorem dX5_handle_58 : decode cX5_handle 58 = .ok (.iinc 4 1, 3) := by decide +kernel
theorem dX5_handle_61 : decode cX5_handle 61 = .ok (.goto (-45), 3) := by decide +kernel
theorem dX5_handle_64 : decode cX5_handle 64 = .ok (.iload_n 3, 1) := by decide +kernel
theorem dX5_handle_65 : decode cX5_handle 65 = .ok (.iconst 1, 1) := by decide +kernel
theorem dX5_handle_66 : decode cX5_handle 66 = .ok (.if_icmp .le 9, 3) := by decide +kernel
theorem dX5_handle_69 : decode cX5_handle 69 = .ok (.aload_n 0, 1) := by decide +kernel
theorem dX5_handle_70 : decode cX5_handle 70 = .ok (.iload_n 2, 1) := by decide +kernel
theorem dX5_handle_71 : decode cX5_handle 71 = .ok (.invokevirtual 119, 3) := by decide +kernel
theorem dX5_handle_74 : decode cX5_handle 74 = .ok (.return_, 1) := by decide +kernel
theorem dX5_handle_75 : decode cX5_handle 75 = .ok (.aload_n 0, 1) := by decide +kernel
theorem dX5_handle_76 : decode cX5_handle 76 = .ok (.getfield 23, 3) := by decide +kernel
theorem dX5_handle_79 : decode cX5_handle 79 = .ok (.iload_n 1, 1) := by decide +kernel
theorem dX5_handle_80 : decode cX5_handle 80 = .ok (.iconst 0, 1) := by decide +kernel
theorem dX5_handle_81 : decode cX5_handle 81 = .ok (.bastore, 1) := by decide +kernel
theorem dX5_handle_82 : decode cX5_handle 82 = .ok (.aload_n 0, 1) := by decide +kernel
theorem dX5_handle_83 : decode cX5_handle 83 = .ok (.getfield 27, 3) := by decide +kernel
theorem dX5_handle_86 : decode cX5_handle 86 = .ok (.iload_n 1, 1) := by decide +kernel
theorem dX5_handle_87 : decode cX5_handle 87 = .ok (.baload, 1) := by decide +kernel
theorem dX5_handle_88 : decode cX5_handle 88 = .ok (.ifCond .eq 45, 3) := by decide +kernel
theorem dX5_handle_91 : decode cX5_handle 91 = .ok (.aload_n 0, 1) := by decide +kernel
theorem dX5_handle_92 : decode cX5_handle 92 = .ok (.getfield 72, 3) := by decide +kernel
theorem dX5_handle_95 : decode cX5_handle 95 = .ok (.bipush 10, 2) := by decide +kernel
theorem dX5_handle_97 : decode cX5_handle 97 = .ok (.dup2, 1) := by decide +kernel
theorem dX5_handle_98 : decode cX5_handle 98 = .ok (.iaload, 1) := by decide +kernel
theorem dX5_handle_99 : decode cX5_handle 99 = .ok (.iconst 1, 1) := by decide +kernel
theorem dX5_handle_100 : decode cX5_handle 100 = .ok (.iadd, 1) := by decide +kernel
theorem dX5_handle_101 : decode cX5_handle 101 = .ok (.iastore, 1) := by decide +kernel
theorem dX5_handle_102 : decode cX5_handle 102 = .ok (.aload_n 0, 1) := by decide +kernel
theorem dX5_handle_103 : decode cX5_handle 103 = .ok (.aload_n 0, 1) := by decide +kernel
theorem dX5_handle_104 : decode cX5_handle 104 = .ok (.getfield 7, 3) := by decide +kernel
theorem dX5_handle_107 : decode cX5_handle 107 = .ok (.iload_n 1, 1) := by decide +kernel
theorem dX5_handle_108 : decode cX5_handle 108 = .ok (.laload, 1) := by decide +kernel
theorem dX5_handle_109 : decode cX5_handle 109 = .ok (.aload_n 0, 1) := by decide +kernel
theorem dX5_handle_110 : decode cX5_handle 110 = .ok (.getfield 13, 3) := by decide +kernel
theorem dX5_handle_113 : decode cX5_handle 113 = .ok (.iload_n 1, 1) := by decide +kernel
theorem dX5_handle_114 : decode cX5_handle 114 = .ok (.iaload, 1) := by decide +kernel
theorem dX5_handle_115 : decode cX5_handle 115 = .ok (.aload_n 0, 1) := by decide +kernel
theorem dX5_handle_116 : decode cX5_handle 116 = .ok (.getfield 17, 3) := by decide +kernel
theorem dX5_handle_119 : decode cX5_handle 119 = .ok (.iload_n 1, 1) := by decide +kernel
theorem dX5_handle_120 : decode cX5_handle 120 = .ok (.iaload, 1) := by decide +kernel
theorem dX5_handle_121 : decode cX5_handle 121 = .ok (.aload_n 0, 1) := by decide +kernel
theorem dX5_handle_122 : decode cX5_handle 122 = .ok (.getfield 20, 3) := by decide +kernel
theorem dX5_handle_125 : decode cX5_handle 125 = .ok (.iload_n 1, 1) := by decide +kernel
theorem dX5_handle_126 : decode cX5_handle 126 = .ok (.iaload, 1) := by decide +kernel
theorem dX5_handle_127 : decode cX5_handle 127 = .ok (.invokevirtual 122, 3) := by decide +kernel
theorem dX5_handle_130 : decode cX5_handle 130 = .ok (.goto 27, 3) := by decide +kernel
theorem dX5_handle_133 : decode cX5_handle 133 = .ok (.aload_n 0, 1) := by decide +kernel
theorem dX5_handle_134 : decode cX5_handle 134 = .ok (.getfield 72, 3) := by decide +kernel
theorem dX5_handle_137 : decode cX5_handle 137 = .ok (.bipush 9, 2) := by decide +kernel
theorem dX5_handle_139 : decode cX5_handle 139 = .ok (.dup2, 1) := by decide +kernel
theorem dX5_handle_140 : decode cX5_handle 140 = .ok (.iaload, 1) := by decide +kernel
theorem dX5_handle_141 : decode cX5_handle 141 = .ok (.iconst 1, 1) := by decide +kernel
theorem dX5_handle_142 : decode cX5_handle 142 = .ok (.iadd, 1) := by decide +kernel
theorem dX5_handle_143 : decode cX5_handle 143 = .ok (.iastore, 1) := by decide +kernel
theorem dX5_handle_144 : decode cX5_handle 144 = .ok (.aload_n 0, 1) := by decide +kernel
theorem dX5_handle_145 : decode cX5_handle 145 = .ok (.aload_n 0, 1) := by decide +kernel
theorem dX5_handle_146 : decode cX5_handle 146 = .ok (.getfield 7, 3) := by decide +kernel
theorem dX5_handle_149 : decode cX5_handle 149 = .ok (.iload_n 1, 1) := by decide +kernel
theorem dX5_handle_150 : decode cX5_handle 150 = .ok (.laload, 1) := by decide +kernel
theorem dX5_handle_151 : decode cX5_handle 151 = .ok (.iconst 3, 1) := by decide +kernel
theorem dX5_handle_152 : decode cX5_handle 152 = .ok (.invokevirtual 126, 3) := by decide +kernel
theorem dX5_handle_155 : decode cX5_handle 155 = .ok (.istore 4, 2) := by decide +kernel
theorem dX5_handle_157 : decode cX5_handle 157 = .ok (.return_, 1) := by decide +kernel
theorem dX5_addNew_0 : decode cX5_addNew 0 = .ok (.aload_n 0, 1) := by decide +kernel
theorem dX5_addNew_1 : decode cX5_addNew 1 = .ok (.getfield 54, 3) := by decide +kernel
theorem dX5_addNew_4 : decode cX5_addNew 4 = .ok (.aload_n 0, 1) := by decide +kernel
theorem dX5_addNew_5 : decode cX5_addNew 5 = .ok (.getfield 130, 3) := by decide +kernel
theorem dX5_addNew_8 : decode cX5_addNew 8 = .ok (.lload_n 1, 1) := by decide +kernel
theorem dX5_addNew_9 : decode cX5_addNew 9 = .ok (.lastore, 1) := by decide +kernel
theorem dX5_addNew_10 : decode cX5_addNew 10 = .ok (.aload_n 0, 1) := by decide +kernel
theorem dX5_addNew_11 : decode cX5_addNew 11 = .ok (.getfield 57, 3) := by decide +kernel
theorem dX5_addNew_14 : decode cX5_addNew 14 = .ok (.aload_n 0, 1) := by decide +kernel
theorem dX5_addNew_15 : decode cX5_addNew 15 = .ok (.getfield 130, 3) := by decide +kernel
theorem dX5_addNew_18 : decode cX5_addNew 18 = .ok (.iload_n 3, 1) := by decide +kernel
theorem dX5_addNew_19 : decode cX5_addNew 19 = .ok (.iastore, 1) := by decide +kernel
theorem dX5_addNew_20 : decode cX5_addNew 20 = .ok (.aload_n 0, 1) := by decide +kernel
theorem dX5_addNew_21 : decode cX5_addNew 21 = .ok (.getfield 60, 3) := by decide +kernel
theorem dX5_addNew_24 : decode cX5_addNew 24 = .ok (.aload_n 0, 1) := by decide +kernel
theorem dX5_addNew_25 : decode cX5_addNew 25 = .ok (.getfield 130, 3) := by decide +kernel
theorem dX5_addNew_28 : decode cX5_addNew 28 = .ok (.iload 4, 2) := by decide +kernel
theorem dX5_addNew_30 : decode cX5_addNew 30 = .ok (.iastore, 1) := by decide +kernel
theorem dX5_addNew_31 : decode cX5_addNew 31 = .ok (.aload_n 0, 1) := by decide +kernel
theorem dX5_addNew_32 : decode cX5_addNew 32 = .ok (.getfield 63, 3) := by decide +kernel
theorem dX5_addNew_35 : decode cX5_addNew 35 = .ok (.aload_n 0, 1) := by decide +kernel
theorem dX5_addNew_36 : decode cX5_addNew 36 = .ok (.getfield 130, 3) := by decide +kernel
theorem dX5_addNew_39 : decode cX5_addNew 39 = .ok (.iload 5, 2) := by decide +kernel
theorem dX5_addNew_41 : decode cX5_addNew 41 = .ok (.iastore, 1) := by decide +kernel
theorem dX5_addNew_42 : decode cX5_addNew 42 = .ok (.aload_n 0, 1) := by decide +kernel
theorem dX5_addNew_43 : decode cX5_addNew 43 = .ok (.getfield 66, 3) := by decide +kernel
theorem dX5_addNew_46 : decode cX5_addNew 46 = .ok (.aload_n 0, 1) := by decide +kernel
theorem dX5_addNew_47 : decode cX5_addNew 47 = .ok (.getfield 130, 3) := by decide +kernel
theorem dX5_addNew_50 : decode cX5_addNew 50 = .ok (.iload 6, 2) := by decide +kernel
theorem dX5_addNew_52 : decode cX5_addNew 52 = .ok (.bastore, 1) := by decide +kernel
theorem dX5_addNew_53 : decode cX5_addNew 53 = .ok (.aload_n 0, 1) := by decide +kernel
theorem dX5_addNew_54 : decode cX5_addNew 54 = .ok (.getfield 69, 3) := by decide +kernel
theorem dX5_addNew_57 : decode cX5_addNew 57 = .ok (.aload_n 0, 1) := by decide +kernel
theorem dX5_addNew_58 : decode cX5_addNew 58 = .ok (.getfield 130, 3) := by decide +kernel
theorem dX5_addNew_61 : decode cX5_addNew 61 = .ok (.iload 7, 2) := by decide +kernel
theorem dX5_addNew_63 : decode cX5_addNew 63 = .ok (.bastore, 1) := by decide +kernel
theorem dX5_addNew_64 : decode cX5_addNew 64 = .ok (.aload_n 0, 1) := by decide +kernel
theorem dX5_addNew_65 : decode cX5_addNew 65 = .ok (.dup, 1) := by decide +kernel
theorem dX5_addNew_66 : decode cX5_addNew 66 = .ok (.getfield 130, 3) := by decide +kernel
theorem dX5_addNew_69 : decode cX5_addNew 69 = .ok (.iconst 1, 1) := by decide +kernel
theorem dX5_addNew_70 : decode cX5_addNew 70 = .ok (.iadd, 1) := by decide +kernel
theorem dX5_addNew_71 : decode cX5_addNew 71 = .ok (.putfield 130, 3) := by decide +kernel
theorem dX5_addNew_74 : decode cX5_addNew 74 = .ok (.return_, 1) := by decide +kernel
theorem dX5_move_0 : decode cX5_move 0 = .ok (.aload_n 0, 1) := by decide +kernel
theorem dX5_move_1 : decode cX5_move 1 = .ok (.iconst 0, 1) := by decide +kernel
theorem dX5_move_2 : decode cX5_move 2 = .ok (.putfield 130, 3) := by decide +kernel
theorem dX5_move_5 : decode cX5_move 5 = .ok (.aload_n 0, 1) := by decide +kernel
theorem dX5_move_6 : decode cX5_move 6 = .ok (.getfield 72, 3) := by decide +kernel
theorem dX5_move_9 : decode cX5_move 9 = .ok (.bipush 11, 2) := by decide +kernel
theorem dX5_move_11 : decode cX5_move 11 = .ok (.dup2, 1) := by decide +kernel
theorem dX5_move_12 : decode cX5_move 12 = .ok (.iaload, 1) := by decide +kernel
theorem dX5_move_13 : decode cX5_move 13 = .ok (.iconst 1, 1) := by decide +kernel
theorem dX5_move_14 : decode cX5_move 14 = .ok (.iadd, 1) := by decide +kernel
theorem dX5_move_15 : decode cX5_move 15 = .ok (.iastore, 1) := by decide +kernel
theorem dX5_move_16 : decode cX5_move 16 = .ok (.iconst 0, 1) := by decide +kernel
theorem dX5_move_17 : decode cX5_move 17 = .ok (.istore_n 2, 1) := by decide +kernel
theorem dX5_move_18 : decode cX5_move 18 = .ok (.iload_n 2, 1) := by decide +kernel
theorem dX5_move_19 : decode cX5_move 19 = .ok (.aload_n 0, 1) := by decide +kernel
theorem dX5_move_20 : decode cX5_move 20 = .ok (.getfield 51, 3) := by decide +kernel
theorem dX5_move_23 : decode cX5_move 23 = .ok (.iload_n 1, 1) := by decide +kernel
theorem dX5_move_24 : decode cX5_move 24 = .ok (.iaload, 1) := by decide +kernel
theorem dX5_move_25 : decode cX5_move 25 = .ok (.if_icmp .ge 64, 3) := by decide +kernel
theorem dX5_move_28 : decode cX5_move 28 = .ok (.bipush 8, 2) := by decide +kernel
theorem dX5_move_30 : decode cX5_move 30 = .ok (.iload_n 1, 1) := by decide +kernel
theorem dX5_move_31 : decode cX5_move 31 = .ok (.imul, 1) := by decide +kernel
theorem dX5_move_32 : decode cX5_move 32 = .ok (.iload_n 2, 1) := by decide +kernel
theorem dX5_move_33 : decode cX5_move 33 = .ok (.iadd, 1) := by decide +kernel
theorem dX5_move_34 : decode cX5_move 34 = .ok (.istore_n 3, 1) := by decide +kernel
theorem dX5_move_35 : decode cX5_move 35 = .ok (.aload_n 0, 1) := by decide +kernel
theorem dX5_move_36 : decode cX5_move 36 = .ok (.aload_n 0, 1) := by decide +kernel
theorem dX5_move_37 : decode cX5_move 37 = .ok (.getfield 36, 3) := by decide +kernel
theorem dX5_move_40 : decode cX5_move 40 = .ok (.iload_n 3, 1) := by decide +kernel
theorem dX5_move_41 : decode cX5_move 41 = .ok (.laload, 1) := by decide +kernel
theorem dX5_move_42 : decode cX5_move 42 = .ok (.invokevirtual 133, 3) := by decide +kernel
theorem dX5_move_45 : decode cX5_move 45 = .ok (.ifCond .ge 38, 3) := by decide +kernel
theorem dX5_move_48 : decode cX5_move 48 = .ok (.aload_n 0, 1) := by decide +kernel
theorem dX5_move_49 : decode cX5_move 49 = .ok (.aload_n 0, 1) := by decide +kernel
theorem dX5_move_50 : decode cX5_move 50 = .ok (.getfield 36, 3) := by decide +kernel
theorem dX5_move_53 : decode cX5_move 53 = .ok (.iload_n 3, 1) := by decide +kernel
theorem dX5_move_54 : decode cX5_move 54 = .ok (.laload, 1) := by decide +kernel
theorem dX5_move_55 : decode cX5_move 55 = .ok (.aload_n 0, 1) := by decide +kernel
theorem dX5_move_56 : decode cX5_move 56 = .ok (.getfield 39, 3) := by decide +kernel
theorem dX5_move_59 : decode cX5_move 59 = .ok (.iload_n 3, 1) := by decide +kernel
theorem dX5_move_60 : decode cX5_move 60 = .ok (.iaload, 1) := by decide +kernel
theorem dX5_move_61 : decode cX5_move 61 = .ok (.aload_n 0, 1) := by decide +kernel
theorem dX5_move_62 : decode cX5_move 62 = .ok (.getfield 42, 3) := by decide +kernel
theorem dX5_move_65 : decode cX5_move 65 = .ok (.iload_n 3, 1) := by decide +kernel
theorem dX5_move_66 : decode cX5_move 66 = .ok (.iaload, 1) := by decide +kernel
theorem dX5_move_67 : decode cX5_move 67 = .ok (.aload_n 0, 1) := by decide +kernel
theorem dX5_move_68 : decode cX5_move 68 = .ok (.getfield 45, 3) := by decide +kernel
theorem dX5_move_71 : decode cX5_move 71 = .ok (.iload_n 3, 1) := by decide +kernel
theorem dX5_move_72 : decode cX5_move 72 = .ok (.iaload, 1) := by decide +kernel
theorem dX5_move_73 : decode cX5_move 73 = .ok (.aload_n 0, 1) := by decide +kernel
theorem dX5_move_74 : decode cX5_move 74 = .ok (.getfield 48, 3) := by decide +kernel
theorem dX5_move_77 : decode cX5_move 77 = .ok (.iload_n 3, 1) := by decide +kernel
theorem dX5_move_78 : decode cX5_move 78 = .ok (.baload, 1) := by decide +kernel
theorem dX5_move_79 : decode cX5_move 79 = .ok (.iconst 1, 1) := by decide +kernel
theorem dX5_move_80 : decode cX5_move 80 = .ok (.invokevirtual 136, 3) := by decide +kernel
theorem dX5_move_83 : decode cX5_move 83 = .ok (.iinc 2 1, 3) := by decide +kernel
theorem dX5_move_86 : decode cX5_move 86 = .ok (.goto (-68), 3) := by decide +kernel
theorem dX5_move_89 : decode cX5_move 89 = .ok (.iconst 0, 1) := by decide +kernel
theorem dX5_move_90 : decode cX5_move 90 = .ok (.istore_n 2, 1) := by decide +kernel
theorem dX5_move_91 : decode cX5_move 91 = .ok (.iload_n 2, 1) := by decide +kernel
theorem dX5_move_92 : decode cX5_move 92 = .ok (.aload_n 0, 1) := by decide +kernel
theorem dX5_move_93 : decode cX5_move 93 = .ok (.getfield 96, 3) := by decide +kernel
theorem dX5_move_96 : decode cX5_move 96 = .ok (.if_icmp .ge 84, 3) := by decide +kernel
theorem dX5_move_99 : decode cX5_move 99 = .ok (.aload_n 0, 1) := by decide +kernel
theorem dX5_move_100 : decode cX5_move 100 = .ok (.getfield 23, 3) := by decide +kernel
theorem dX5_move_103 : decode cX5_move 103 = .ok (.iload_n 2, 1) := by decide +kernel
theorem dX5_move_104 : decode cX5_move 104 = .ok (.baload, 1) := by decide +kernel
theorem dX5_move_105 : decode cX5_move 105 = .ok (.ifCond .eq 69, 3) := by decide +kernel
theorem dX5_move_108 : decode cX5_move 108 = .ok (.aload_n 0, 1) := by decide +kernel
theorem dX5_move_109 : decode cX5_move 109 = .ok (.aload_n 0, 1) := by decide +kernel
theorem dX5_move_110 : decode cX5_move 110 = .ok (.getfield 7, 3) := by decide +kernel
theorem dX5_move_113 : decode cX5_move 113 = .ok (.iload_n 2, 1) := by decide +kernel
theorem dX5_move_114 : decode cX5_move 114 = .ok (.laload, 1) := by decide +kernel
theorem dX5_move_115 : decode cX5_move 115 = .ok (.invokevirtual 88, 3) := by decide +kernel
theorem dX5_move_118 : decode cX5_move 118 = .ok (.iload_n 1, 1) := by decide +kernel
theorem dX5_move_119 : decode cX5_move 119 = .ok (.if_icmp .ne 55, 3) := by decide +kernel
theorem dX5_move_122 : decode cX5_move 122 = .ok (.aload_n 0, 1) := by decide +kernel
theorem dX5_move_123 : decode cX5_move 123 = .ok (.aload_n 0, 1) := by decide +kernel
theorem dX5_move_124 : decode cX5_move 124 = .ok (.getfield 7, 3) := by decide +kernel
theorem dX5_move_127 : decode cX5_move 127 = .ok (.iload_n 2, 1) := by decide +kernel
theorem dX5_move_128 : decode cX5_move 128 = .ok (.laload, 1) := by decide +kernel
theorem dX5_move_129 : decode cX5_move 129 = .ok (.aload_n 0, 1) := by decide +kernel
theorem dX5_move_130 : decode cX5_move 130 = .ok (.getfield 13, 3) := by decide +kernel
theorem dX5_move_133 : decode cX5_move 133 = .ok (.iload_n 2, 1) := by decide +kernel
theorem dX5_move_134 : decode cX5_move 134 = .ok (.iaload, 1) := by decide +kernel
theorem dX5_move_135 : decode cX5_move 135 = .ok (.aload_n 0, 1) := by decide +kernel
theorem dX5_move_136 : decode cX5_move 136 = .ok (.getfield 17, 3) := by decide +kernel
theorem dX5_move_139 : decode cX5_move 139 = .ok (.iload_n 2, 1) := by decide +kernel
theorem dX5_move_140 : decode cX5_move 140 = .ok (.iaload, 1) := by decide +kernel
theorem dX5_move_141 : decode cX5_move 141 = .ok (.aload_n 0, 1) := by decide +kernel
theorem dX5_move_142 : decode cX5_move 142 = .ok (.getfield 20, 3) := by decide +kernel
theorem dX5_move_145 : decode cX5_move 145 = .ok (.iload_n 2, 1) := by decide +kernel
theorem dX5_move_146 : decode cX5_move 146 = .ok (.iaload, 1) := by decide +kernel
theorem dX5_move_147 : decode cX5_move 147 = .ok (.aload_n 0, 1) := by decide +kernel
theorem dX5_move_148 : decode cX5_move 148 = .ok (.getfield 27, 3) := by decide +kernel
theorem dX5_move_151 : decode cX5_move 151 = .ok (.iload_n 2, 1) := by decide +kernel
theorem dX5_move_152 : decode cX5_move 152 = .ok (.baload, 1) := by decide +kernel
theorem dX5_move_153 : decode cX5_move 153 = .ok (.iconst 0, 1) := by decide +kernel
theorem dX5_move_154 : decode cX5_move 154 = .ok (.invokevirtual 136, 3) := by decide +kernel
theorem dX5_move_157 : decode cX5_move 157 = .ok (.aload_n 0, 1) := by decide +kernel
theorem dX5_move_158 : decode cX5_move 158 = .ok (.getfield 23, 3) := by decide +kernel
theorem dX5_move_161 : decode cX5_move 161 = .ok (.iload_n 2, 1) := by decide +kernel
theorem dX5_move_162 : decode cX5_move 162 = .ok (.iconst 0, 1) := by decide +kernel
theorem dX5_move_163 : decode cX5_move 163 = .ok (.bastore, 1) := by decide +kernel
theorem dX5_move_164 : decode cX5_move 164 = .ok (.aload_n 0, 1) := by decide +kernel
theorem dX5_move_165 : decode cX5_move 165 = .ok (.getfield 72, 3) := by decide +kernel
theorem dX5_move_168 : decode cX5_move 168 = .ok (.iconst 5, 1) := by decide +kernel
theorem dX5_move_169 : decode cX5_move 169 = .ok (.dup2, 1) := by decide +kernel
theorem dX5_move_170 : decode cX5_move 170 = .ok (.iaload, 1) := by decide +kernel
theorem dX5_move_171 : decode cX5_move 171 = .ok (.iconst 1, 1) := by decide +kernel
theorem dX5_move_172 : decode cX5_move 172 = .ok (.iadd, 1) := by decide +kernel
theorem dX5_move_173 : decode cX5_move 173 = .ok (.iastore, 1) := by decide +kernel
theorem dX5_move_174 : decode cX5_move 174 = .ok (.iinc 2 1, 3) := by decide +kernel
theorem dX5_move_177 : decode cX5_move 177 = .ok (.goto (-86), 3) := by decide +kernel
theorem dX5_move_180 : decode cX5_move 180 = .ok (.aload_n 0, 1) := by decide +kernel
theorem dX5_move_181 : decode cX5_move 181 = .ok (.invokevirtual 140, 3) := by decide +kernel
theorem dX5_move_184 : decode cX5_move 184 = .ok (.bipush 32, 2) := by decide +kernel
theorem dX5_move_186 : decode cX5_move 186 = .ok (.if_icmp .le 10, 3) := by decide +kernel
theorem dX5_move_189 : decode cX5_move 189 = .ok (.aload_n 0, 1) := by decide +kernel
theorem dX5_move_190 : decode cX5_move 190 = .ok (.invokevirtual 144, 3) := by decide +kernel
theorem dX5_move_193 : decode cX5_move 193 = .ok (.goto (-13), 3) := by decide +kernel
theorem dX5_move_196 : decode cX5_move 196 = .ok (.aload_n 0, 1) := by decide +kernel
theorem dX5_move_197 : decode cX5_move 197 = .ok (.iload_n 1, 1) := by decide +kernel
theorem dX5_move_198 : decode cX5_move 198 = .ok (.invokevirtual 147, 3) := by decide +kernel
theorem dX5_move_201 : decode cX5_move 201 = .ok (.aload_n 0, 1) := by decide +kernel
theorem dX5_move_202 : decode cX5_move 202 = .ok (.getfield 72, 3) := by decide +kernel
theorem dX5_move_205 : decode cX5_move 205 = .ok (.iconst 2, 1) := by decide +kernel
theorem dX5_move_206 : decode cX5_move 206 = .ok (.dup2, 1) := by decide +kernel
theorem dX5_move_207 : decode cX5_move 207 = .ok (.iaload, 1) := by decide +kernel
theorem dX5_move_208 : decode cX5_move 208 = .ok (.iconst 1, 1) := by decide +kernel
theorem dX5_move_209 : decode cX5_move 209 = .ok (.iadd, 1) := by decide +kernel
theorem dX5_move_210 : decode cX5_move 210 = .ok (.iastore, 1) := by decide +kernel
theorem dX5_move_211 : decode cX5_move 211 = .ok (.return_, 1) := by decide +kernel
theorem dX5_placesOfNew_0 : decode cX5_placesOfNew 0 = .ok (.iconst 0, 1) := by decide +kernel
theorem dX5_placesOfNew_1 : decode cX5_placesOfNew 1 = .ok (.istore_n 1, 1) := by decide +kernel
theorem dX5_placesOfNew_2 : decode cX5_placesOfNew 2 = .ok (.iconst 0, 1) := by decide +kernel
theorem dX5_placesOfNew_3 : decode cX5_placesOfNew 3 = .ok (.istore_n 2, 1) := by decide +kernel
theorem dX5_placesOfNew_4 : decode cX5_placesOfNew 4 = .ok (.iload_n 2, 1) := by decide +kernel
theorem dX5_placesOfNew_5 : decode cX5_placesOfNew 5 = .ok (.aload_n 0, 1) := by decide +kernel
theorem dX5_placesOfNew_6 : decode cX5_placesOfNew 6 = .ok (.getfield 130, 3) := by decide +kernel
theorem dX5_placesOfNew_9 : decode cX5_placesOfNew 9 = .ok (.if_icmp .ge 20, 3) := by decide +kernel
theorem dX5_placesOfNew_12 : decode cX5_placesOfNew 12 = .ok (.iload_n 1, 1) := by decide +kernel
theorem dX5_placesOfNew_13 : decode cX5_placesOfNew 13 = .ok (.iconst 3, 1) := by decide +kernel
theorem dX5_placesOfNew_14 : decode cX5_placesOfNew 14 = .ok (.aload_n 0, 1) := by decide +kernel
theorem dX5_placesOfNew_15 : decode cX5_placesOfNew 15 = .ok (.getfield 57, 3) := by decide +kernel
theorem dX5_placesOfNew_18 : decode cX5_placesOfNew 18 = .ok (.iload_n 2, 1) := by decide +kernel
theorem dX5_placesOfNew_19 : decode cX5_placesOfNew 19 = .ok (.iaload, 1) := by decide +kernel
theorem dX5_placesOfNew_20 : decode cX5_placesOfNew 20 = .ok (.iadd, 1) := by decide +kernel
theorem dX5_placesOfNew_21 : decode cX5_placesOfNew 21 = .ok (.iadd, 1) := by decide +kernel
theorem dX5_placesOfNew_22 : decode cX5_placesOfNew 22 = .ok (.istore_n 1, 1) := by decide +kernel
theorem dX5_placesOfNew_23 : decode cX5_placesOfNew 23 = .ok (.iinc 2 1, 3) := by decide +kernel
theorem dX5_placesOfNew_26 : decode cX5_placesOfNew 26 = .ok (.goto (-22), 3) := by decide +kernel
theorem dX5_placesOfNew_29 : decode cX5_placesOfNew 29 = .ok (.iload_n 1, 1) := by decide +kernel
theorem dX5_placesOfNew_30 : decode cX5_placesOfNew 30 = .ok (.ireturn, 1) := by decide +kernel
theorem dX5_dropOne_0 : decode cX5_dropOne 0 = .ok (.iconst (-1), 1) := by decide +kernel
theorem dX5_dropOne_1 : decode cX5_dropOne 1 = .ok (.istore_n 1, 1) := by decide +kernel
theorem dX5_dropOne_2 : decode cX5_dropOne 2 = .ok (.iconst (-1), 1) := by decide +kernel
theorem dX5_dropOne_3 : decode cX5_dropOne 3 = .ok (.istore_n 2, 1) := by decide +kernel
theorem dX5_dropOne_4 : decode cX5_dropOne 4 = .ok (.aload_n 0, 1) := by decide +kernel
theorem dX5_dropOne_5 : decode cX5_dropOne 5 = .ok (.getfield 130, 3) := by decide +kernel
theorem dX5_dropOne_8 : decode cX5_dropOne 8 = .ok (.iconst 1, 1) := by decide +kernel
theorem dX5_dropOne_9 : decode cX5_dropOne 9 = .ok (.isub, 1) := by decide +kernel
theorem dX5_dropOne_10 : decode cX5_dropOne 10 = .ok (.istore_n 3, 1) := by decide +kernel
theorem dX5_dropOne_11 : decode cX5_dropOne 11 = .ok (.iload_n 3, 1) := by decide +kernel
theorem dX5_dropOne_12 : decode cX5_dropOne 12 = .ok (.ifCond .lt 48, 3) := by decide +kernel
theorem dX5_dropOne_15 : decode cX5_dropOne 15 = .ok (.aload_n 0, 1) := by decide +kernel
theorem dX5_dropOne_16 : decode cX5_dropOne 16 = .ok (.getfield 69, 3) := by decide +kernel
theorem dX5_dropOne_19 : decode cX5_dropOne 19 = .ok (.iload_n 3, 1) := by decide +kernel
theorem dX5_dropOne_20 : decode cX5_dropOne 20 = .ok (.baload, 1) := by decide +kernel
theorem dX5_dropOne_21 : decode cX5_dropOne 21 = .ok (.ifCond .eq 16, 3) := by decide +kernel
theorem dX5_dropOne_24 : decode cX5_dropOne 24 = .ok (.aload_n 0, 1) := by decide +kernel
theorem dX5_dropOne_25 : decode cX5_dropOne 25 = .ok (.getfield 66, 3) := by decide +kernel
theorem dX5_dropOne_28 : decode cX5_dropOne 28 = .ok (.iload_n 3, 1) := by decide +kernel
theorem dX5_dropOne_29 : decode cX5_dropOne 29 = .ok (.baload, 1) := by decide +kernel
theorem dX5_dropOne_30 : decode cX5_dropOne 30 = .ok (.ifCond .ne 7, 3) := by decide +kernel
theorem dX5_dropOne_33 : decode cX5_dropOne 33 = .ok (.iload_n 3, 1) := by decide +kernel
theorem dX5_dropOne_34 : decode cX5_dropOne 34 = .ok (.goto 4, 3) := by decide +kernel
theorem dX5_dropOne_37 : decode cX5_dropOne 37 = .ok (.iload_n 1, 1) := by decide +kernel
theorem dX5_dropOne_38 : decode cX5_dropOne 38 = .ok (.istore_n 1, 1) := by decide +kernel
theorem dX5_dropOne_39 : decode cX5_dropOne 39 = .ok (.aload_n 0, 1) := by decide +kernel
theorem dX5_dropOne_40 : decode cX5_dropOne 40 = .ok (.getfield 69, 3) := by decide +kernel
theorem dX5_dropOne_43 : decode cX5_dropOne 43 = .ok (.iload_n 3, 1) := by decide +kernel
theorem dX5_dropOne_44 : decode cX5_dropOne 44 = .ok (.baload, 1) := by decide +kernel
end
section
theorem dX5_dropOne_45 : decode cX5_dropOne 45 = .ok (.ifCond .eq 7, 3) := by decide +kernel
theorem dX5_dropOne_48 : decode cX5_dropOne 48 = .ok (.iload_n 3, 1) := by decide +kernel
theorem dX5_dropOne_49 : decode cX5_dropOne 49 = .ok (.goto 4, 3) := by decide +kernel
theorem dX5_dropOne_52 : decode cX5_dropOne 52 = .ok (.iload_n 2, 1) := by decide +kernel
theorem dX5_dropOne_53 : decode cX5_dropOne 53 = .ok (.istore_n 2, 1) := by decide +kernel
theorem dX5_dropOne_54 : decode cX5_dropOne 54 = .ok (.iinc 3 (-1), 3) := by decide +kernel
theorem dX5_dropOne_57 : decode cX5_dropOne 57 = .ok (.goto (-46), 3) := by decide +kernel
theorem dX5_dropOne_60 : decode cX5_dropOne 60 = .ok (.iload_n 1, 1) := by decide +kernel
theorem dX5_dropOne_61 : decode cX5_dropOne 61 = .ok (.ifCond .lt 7, 3) := by decide +kernel
theorem dX5_dropOne_64 : decode cX5_dropOne 64 = .ok (.iload_n 1, 1) := by decide +kernel
theorem dX5_dropOne_65 : decode cX5_dropOne 65 = .ok (.goto 12, 3) := by decide +kernel
theorem dX5_dropOne_68 : decode cX5_dropOne 68 = .ok (.iload_n 2, 1) := by decide +kernel
theorem dX5_dropOne_69 : decode cX5_dropOne 69 = .ok (.ifCond .lt 7, 3) := by decide +kernel
theorem dX5_dropOne_72 : decode cX5_dropOne 72 = .ok (.iload_n 2, 1) := by decide +kernel
theorem dX5_dropOne_73 : decode cX5_dropOne 73 = .ok (.goto 4, 3) := by decide +kernel
theorem dX5_dropOne_76 : decode cX5_dropOne 76 = .ok (.iconst 0, 1) := by decide +kernel
theorem dX5_dropOne_77 : decode cX5_dropOne 77 = .ok (.istore_n 3, 1) := by decide +kernel
theorem dX5_dropOne_78 : decode cX5_dropOne 78 = .ok (.aload_n 0, 1) := by decide +kernel
theorem dX5_dropOne_79 : decode cX5_dropOne 79 = .ok (.getfield 72, 3) := by decide +kernel
theorem dX5_dropOne_82 : decode cX5_dropOne 82 = .ok (.iload_n 1, 1) := by decide +kernel
theorem dX5_dropOne_83 : decode cX5_dropOne 83 = .ok (.ifCond .lt 8, 3) := by decide +kernel
theorem dX5_dropOne_86 : decode cX5_dropOne 86 = .ok (.bipush 6, 2) := by decide +kernel
theorem dX5_dropOne_88 : decode cX5_dropOne 88 = .ok (.goto 14, 3) := by decide +kernel
theorem dX5_dropOne_91 : decode cX5_dropOne 91 = .ok (.iload_n 2, 1) := by decide +kernel
theorem dX5_dropOne_92 : decode cX5_dropOne 92 = .ok (.ifCond .lt 8, 3) := by decide +kernel
theorem dX5_dropOne_95 : decode cX5_dropOne 95 = .ok (.bipush 7, 2) := by decide +kernel
theorem dX5_dropOne_97 : decode cX5_dropOne 97 = .ok (.goto 5, 3) := by decide +kernel
theorem dX5_dropOne_100 : decode cX5_dropOne 100 = .ok (.bipush 8, 2) := by decide +kernel
theorem dX5_dropOne_102 : decode cX5_dropOne 102 = .ok (.dup2, 1) := by decide +kernel
theorem dX5_dropOne_103 : decode cX5_dropOne 103 = .ok (.iaload, 1) := by decide +kernel
theorem dX5_dropOne_104 : decode cX5_dropOne 104 = .ok (.iconst 1, 1) := by decide +kernel
theorem dX5_dropOne_105 : decode cX5_dropOne 105 = .ok (.iadd, 1) := by decide +kernel
theorem dX5_dropOne_106 : decode cX5_dropOne 106 = .ok (.iastore, 1) := by decide +kernel
theorem dX5_dropOne_107 : decode cX5_dropOne 107 = .ok (.aload_n 0, 1) := by decide +kernel
theorem dX5_dropOne_108 : decode cX5_dropOne 108 = .ok (.dup, 1) := by decide +kernel
theorem dX5_dropOne_109 : decode cX5_dropOne 109 = .ok (.getfield 130, 3) := by decide +kernel
theorem dX5_dropOne_112 : decode cX5_dropOne 112 = .ok (.iconst 1, 1) := by decide +kernel
theorem dX5_dropOne_113 : decode cX5_dropOne 113 = .ok (.isub, 1) := by decide +kernel
theorem dX5_dropOne_114 : decode cX5_dropOne 114 = .ok (.putfield 130, 3) := by decide +kernel
theorem dX5_dropOne_117 : decode cX5_dropOne 117 = .ok (.iload_n 3, 1) := by decide +kernel
theorem dX5_dropOne_118 : decode cX5_dropOne 118 = .ok (.istore 4, 2) := by decide +kernel
theorem dX5_dropOne_120 : decode cX5_dropOne 120 = .ok (.iload 4, 2) := by decide +kernel
theorem dX5_dropOne_122 : decode cX5_dropOne 122 = .ok (.aload_n 0, 1) := by decide +kernel
theorem dX5_dropOne_123 : decode cX5_dropOne 123 = .ok (.getfield 130, 3) := by decide +kernel
theorem dX5_dropOne_126 : decode cX5_dropOne 126 = .ok (.if_icmp .ge 105, 3) := by decide +kernel
theorem dX5_dropOne_129 : decode cX5_dropOne 129 = .ok (.aload_n 0, 1) := by decide +kernel
theorem dX5_dropOne_130 : decode cX5_dropOne 130 = .ok (.getfield 54, 3) := by decide +kernel
theorem dX5_dropOne_133 : decode cX5_dropOne 133 = .ok (.iload 4, 2) := by decide +kernel
theorem dX5_dropOne_135 : decode cX5_dropOne 135 = .ok (.aload_n 0, 1) := by decide +kernel
theorem dX5_dropOne_136 : decode cX5_dropOne 136 = .ok (.getfield 54, 3) := by decide +kernel
theorem dX5_dropOne_139 : decode cX5_dropOne 139 = .ok (.iload 4, 2) := by decide +kernel
theorem dX5_dropOne_141 : decode cX5_dropOne 141 = .ok (.iconst 1, 1) := by decide +kernel
theorem dX5_dropOne_142 : decode cX5_dropOne 142 = .ok (.iadd, 1) := by decide +kernel
theorem dX5_dropOne_143 : decode cX5_dropOne 143 = .ok (.laload, 1) := by decide +kernel
theorem dX5_dropOne_144 : decode cX5_dropOne 144 = .ok (.lastore, 1) := by decide +kernel
theorem dX5_dropOne_145 : decode cX5_dropOne 145 = .ok (.aload_n 0, 1) := by decide +kernel
theorem dX5_dropOne_146 : decode cX5_dropOne 146 = .ok (.getfield 57, 3) := by decide +kernel
theorem dX5_dropOne_149 : decode cX5_dropOne 149 = .ok (.iload 4, 2) := by decide +kernel
theorem dX5_dropOne_151 : decode cX5_dropOne 151 = .ok (.aload_n 0, 1) := by decide +kernel
theorem dX5_dropOne_152 : decode cX5_dropOne 152 = .ok (.getfield 57, 3) := by decide +kernel
theorem dX5_dropOne_155 : decode cX5_dropOne 155 = .ok (.iload 4, 2) := by decide +kernel
theorem dX5_dropOne_157 : decode cX5_dropOne 157 = .ok (.iconst 1, 1) := by decide +kernel
theorem dX5_dropOne_158 : decode cX5_dropOne 158 = .ok (.iadd, 1) := by decide +kernel
theorem dX5_dropOne_159 : decode cX5_dropOne 159 = .ok (.iaload, 1) := by decide +kernel
theorem dX5_dropOne_160 : decode cX5_dropOne 160 = .ok (.iastore, 1) := by decide +kernel
theorem dX5_dropOne_161 : decode cX5_dropOne 161 = .ok (.aload_n 0, 1) := by decide +kernel
theorem dX5_dropOne_162 : decode cX5_dropOne 162 = .ok (.getfield 60, 3) := by decide +kernel
theorem dX5_dropOne_165 : decode cX5_dropOne 165 = .ok (.iload 4, 2) := by decide +kernel
theorem dX5_dropOne_167 : decode cX5_dropOne 167 = .ok (.aload_n 0, 1) := by decide +kernel
theorem dX5_dropOne_168 : decode cX5_dropOne 168 = .ok (.getfield 60, 3) := by decide +kernel
theorem dX5_dropOne_171 : decode cX5_dropOne 171 = .ok (.iload 4, 2) := by decide +kernel
theorem dX5_dropOne_173 : decode cX5_dropOne 173 = .ok (.iconst 1, 1) := by decide +kernel
theorem dX5_dropOne_174 : decode cX5_dropOne 174 = .ok (.iadd, 1) := by decide +kernel
theorem dX5_dropOne_175 : decode cX5_dropOne 175 = .ok (.iaload, 1) := by decide +kernel
theorem dX5_dropOne_176 : decode cX5_dropOne 176 = .ok (.iastore, 1) := by decide +kernel
theorem dX5_dropOne_177 : decode cX5_dropOne 177 = .ok (.aload_n 0, 1) := by decide +kernel
theorem dX5_dropOne_178 : decode cX5_dropOne 178 = .ok (.getfield 63, 3) := by decide +kernel
theorem dX5_dropOne_181 : decode cX5_dropOne 181 = .ok (.iload 4, 2) := by decide +kernel
theorem dX5_dropOne_183 : decode cX5_dropOne 183 = .ok (.aload_n 0, 1) := by decide +kernel
theorem dX5_dropOne_184 : decode cX5_dropOne 184 = .ok (.getfield 63, 3) := by decide +kernel
theorem dX5_dropOne_187 : decode cX5_dropOne 187 = .ok (.iload 4, 2) := by decide +kernel
theorem dX5_dropOne_189 : decode cX5_dropOne 189 = .ok (.iconst 1, 1) := by decide +kernel
theorem dX5_dropOne_190 : decode cX5_dropOne 190 = .ok (.iadd, 1) := by decide +kernel
theorem dX5_dropOne_191 : decode cX5_dropOne 191 = .ok (.iaload, 1) := by decide +kernel
theorem dX5_dropOne_192 : decode cX5_dropOne 192 = .ok (.iastore, 1) := by decide +kernel
theorem dX5_dropOne_193 : decode cX5_dropOne 193 = .ok (.aload_n 0, 1) := by decide +kernel
theorem dX5_dropOne_194 : decode cX5_dropOne 194 = .ok (.getfield 66, 3) := by decide +kernel
theorem dX5_dropOne_197 : decode cX5_dropOne 197 = .ok (.iload 4, 2) := by decide +kernel
theorem dX5_dropOne_199 : decode cX5_dropOne 199 = .ok (.aload_n 0, 1) := by decide +kernel
theorem dX5_dropOne_200 : decode cX5_dropOne 200 = .ok (.getfield 66, 3) := by decide +kernel
theorem dX5_dropOne_203 : decode cX5_dropOne 203 = .ok (.iload 4, 2) := by decide +kernel
theorem dX5_dropOne_205 : decode cX5_dropOne 205 = .ok (.iconst 1, 1) := by decide +kernel
theorem dX5_dropOne_206 : decode cX5_dropOne 206 = .ok (.iadd, 1) := by decide +kernel
theorem dX5_dropOne_207 : decode cX5_dropOne 207 = .ok (.baload, 1) := by decide +kernel
theorem dX5_dropOne_208 : decode cX5_dropOne 208 = .ok (.bastore, 1) := by decide +kernel
theorem dX5_dropOne_209 : decode cX5_dropOne 209 = .ok (.aload_n 0, 1) := by decide +kernel
theorem dX5_dropOne_210 : decode cX5_dropOne 210 = .ok (.getfield 69, 3) := by decide +kernel
theorem dX5_dropOne_213 : decode cX5_dropOne 213 = .ok (.iload 4, 2) := by decide +kernel
theorem dX5_dropOne_215 : decode cX5_dropOne 215 = .ok (.aload_n 0, 1) := by decide +kernel
theorem dX5_dropOne_216 : decode cX5_dropOne 216 = .ok (.getfield 69, 3) := by decide +kernel
theorem dX5_dropOne_219 : decode cX5_dropOne 219 = .ok (.iload 4, 2) := by decide +kernel
theorem dX5_dropOne_221 : decode cX5_dropOne 221 = .ok (.iconst 1, 1) := by decide +kernel
theorem dX5_dropOne_222 : decode cX5_dropOne 222 = .ok (.iadd, 1) := by decide +kernel
theorem dX5_dropOne_223 : decode cX5_dropOne 223 = .ok (.baload, 1) := by decide +kernel
theorem dX5_dropOne_224 : decode cX5_dropOne 224 = .ok (.bastore, 1) := by decide +kernel
theorem dX5_dropOne_225 : decode cX5_dropOne 225 = .ok (.iinc 4 1, 3) := by decide +kernel
theorem dX5_dropOne_228 : decode cX5_dropOne 228 = .ok (.goto (-108), 3) := by decide +kernel
theorem dX5_dropOne_231 : decode cX5_dropOne 231 = .ok (.return_, 1) := by decide +kernel
theorem dX5_writePage_0 : decode cX5_writePage 0 = .ok (.iconst 0, 1) := by decide +kernel
theorem dX5_writePage_1 : decode cX5_writePage 1 = .ok (.istore_n 2, 1) := by decide +kernel
theorem dX5_writePage_2 : decode cX5_writePage 2 = .ok (.iload_n 2, 1) := by decide +kernel
theorem dX5_writePage_3 : decode cX5_writePage 3 = .ok (.aload_n 0, 1) := by decide +kernel
theorem dX5_writePage_4 : decode cX5_writePage 4 = .ok (.getfield 130, 3) := by decide +kernel
theorem dX5_writePage_7 : decode cX5_writePage 7 = .ok (.if_icmp .ge 71, 3) := by decide +kernel
theorem dX5_writePage_10 : decode cX5_writePage 10 = .ok (.bipush 8, 2) := by decide +kernel
theorem dX5_writePage_12 : decode cX5_writePage 12 = .ok (.iload_n 1, 1) := by decide +kernel
theorem dX5_writePage_13 : decode cX5_writePage 13 = .ok (.imul, 1) := by decide +kernel
theorem dX5_writePage_14 : decode cX5_writePage 14 = .ok (.iload_n 2, 1) := by decide +kernel
theorem dX5_writePage_15 : decode cX5_writePage 15 = .ok (.iadd, 1) := by decide +kernel
theorem dX5_writePage_16 : decode cX5_writePage 16 = .ok (.istore_n 3, 1) := by decide +kernel
theorem dX5_writePage_17 : decode cX5_writePage 17 = .ok (.aload_n 0, 1) := by decide +kernel
theorem dX5_writePage_18 : decode cX5_writePage 18 = .ok (.getfield 36, 3) := by decide +kernel
theorem dX5_writePage_21 : decode cX5_writePage 21 = .ok (.iload_n 3, 1) := by decide +kernel
theorem dX5_writePage_22 : decode cX5_writePage 22 = .ok (.aload_n 0, 1) := by decide +kernel
theorem dX5_writePage_23 : decode cX5_writePage 23 = .ok (.getfield 54, 3) := by decide +kernel
theorem dX5_writePage_26 : decode cX5_writePage 26 = .ok (.iload_n 2, 1) := by decide +kernel
theorem dX5_writePage_27 : decode cX5_writePage 27 = .ok (.laload, 1) := by decide +kernel
theorem dX5_writePage_28 : decode cX5_writePage 28 = .ok (.lastore, 1) := by decide +kernel
theorem dX5_writePage_29 : decode cX5_writePage 29 = .ok (.aload_n 0, 1) := by decide +kernel
theorem dX5_writePage_30 : decode cX5_writePage 30 = .ok (.getfield 39, 3) := by decide +kernel
theorem dX5_writePage_33 : decode cX5_writePage 33 = .ok (.iload_n 3, 1) := by decide +kernel
theorem dX5_writePage_34 : decode cX5_writePage 34 = .ok (.aload_n 0, 1) := by decide +kernel
theorem dX5_writePage_35 : decode cX5_writePage 35 = .ok (.getfield 57, 3) := by decide +kernel
theorem dX5_writePage_38 : decode cX5_writePage 38 = .ok (.iload_n 2, 1) := by decide +kernel
theorem dX5_writePage_39 : decode cX5_writePage 39 = .ok (.iaload, 1) := by decide +kernel
theorem dX5_writePage_40 : decode cX5_writePage 40 = .ok (.iastore, 1) := by decide +kernel
theorem dX5_writePage_41 : decode cX5_writePage 41 = .ok (.aload_n 0, 1) := by decide +kernel
theorem dX5_writePage_42 : decode cX5_writePage 42 = .ok (.getfield 42, 3) := by decide +kernel
theorem dX5_writePage_45 : decode cX5_writePage 45 = .ok (.iload_n 3, 1) := by decide +kernel
theorem dX5_writePage_46 : decode cX5_writePage 46 = .ok (.aload_n 0, 1) := by decide +kernel
theorem dX5_writePage_47 : decode cX5_writePage 47 = .ok (.getfield 60, 3) := by decide +kernel
theorem dX5_writePage_50 : decode cX5_writePage 50 = .ok (.iload_n 2, 1) := by decide +kernel
theorem dX5_writePage_51 : decode cX5_writePage 51 = .ok (.iaload, 1) := by decide +kernel
theorem dX5_writePage_52 : decode cX5_writePage 52 = .ok (.iastore, 1) := by decide +kernel
theorem dX5_writePage_53 : decode cX5_writePage 53 = .ok (.aload_n 0, 1) := by decide +kernel
theorem dX5_writePage_54 : decode cX5_writePage 54 = .ok (.getfield 45, 3) := by decide +kernel
theorem dX5_writePage_57 : decode cX5_writePage 57 = .ok (.iload_n 3, 1) := by decide +kernel
theorem dX5_writePage_58 : decode cX5_writePage 58 = .ok (.aload_n 0, 1) := by decide +kernel
theorem dX5_writePage_59 : decode cX5_writePage 59 = .ok (.getfield 63, 3) := by decide +kernel
theorem dX5_writePage_62 : decode cX5_writePage 62 = .ok (.iload_n 2, 1) := by decide +kernel
theorem dX5_writePage_63 : decode cX5_writePage 63 = .ok (.iaload, 1) := by decide +kernel
theorem dX5_writePage_64 : decode cX5_writePage 64 = .ok (.iastore, 1) := by decide +kernel
theorem dX5_writePage_65 : decode cX5_writePage 65 = .ok (.aload_n 0, 1) := by decide +kernel
theorem dX5_writePage_66 : decode cX5_writePage 66 = .ok (.getfield 48, 3) := by decide +kernel
theorem dX5_writePage_69 : decode cX5_writePage 69 = .ok (.iload_n 3, 1) := by decide +kernel
theorem dX5_writePage_70 : decode cX5_writePage 70 = .ok (.iconst 0, 1) := by decide +kernel
theorem dX5_writePage_71 : decode cX5_writePage 71 = .ok (.bastore, 1) := by decide +kernel
theorem dX5_writePage_72 : decode cX5_writePage 72 = .ok (.iinc 2 1, 3) := by decide +kernel
theorem dX5_writePage_75 : decode cX5_writePage 75 = .ok (.goto (-73), 3) := by decide +kernel
theorem dX5_writePage_78 : decode cX5_writePage 78 = .ok (.aload_n 0, 1) := by decide +kernel
theorem dX5_writePage_79 : decode cX5_writePage 79 = .ok (.getfield 51, 3) := by decide +kernel
theorem dX5_writePage_82 : decode cX5_writePage 82 = .ok (.iload_n 1, 1) := by decide +kernel
theorem dX5_writePage_83 : decode cX5_writePage 83 = .ok (.aload_n 0, 1) := by decide +kernel
theorem dX5_writePage_84 : decode cX5_writePage 84 = .ok (.getfield 130, 3) := by decide +kernel
theorem dX5_writePage_87 : decode cX5_writePage 87 = .ok (.iastore, 1) := by decide +kernel
theorem dX5_writePage_88 : decode cX5_writePage 88 = .ok (.return_, 1) := by decide +kernel
theorem dX5_takeOut_0 : decode cX5_takeOut 0 = .ok (.aload_n 0, 1) := by decide +kernel
theorem dX5_takeOut_1 : decode cX5_takeOut 1 = .ok (.lload_n 1, 1) := by decide +kernel
theorem dX5_takeOut_2 : decode cX5_takeOut 2 = .ok (.invokevirtual 150, 3) := by decide +kernel
theorem dX5_takeOut_5 : decode cX5_takeOut 5 = .ok (.ifCond .ne 5, 3) := by decide +kernel
theorem dX5_takeOut_8 : decode cX5_takeOut 8 = .ok (.iconst 0, 1) := by decide +kernel
theorem dX5_takeOut_9 : decode cX5_takeOut 9 = .ok (.ireturn, 1) := by decide +kernel
theorem dX5_takeOut_10 : decode cX5_takeOut 10 = .ok (.aload_n 0, 1) := by decide +kernel
theorem dX5_takeOut_11 : decode cX5_takeOut 11 = .ok (.getfield 72, 3) := by decide +kernel
theorem dX5_takeOut_14 : decode cX5_takeOut 14 = .ok (.bipush 11, 2) := by decide +kernel
theorem dX5_takeOut_16 : decode cX5_takeOut 16 = .ok (.dup2, 1) := by decide +kernel
theorem dX5_takeOut_17 : decode cX5_takeOut 17 = .ok (.iaload, 1) := by decide +kernel
theorem dX5_takeOut_18 : decode cX5_takeOut 18 = .ok (.iconst 1, 1) := by decide +kernel
theorem dX5_takeOut_19 : decode cX5_takeOut 19 = .ok (.iadd, 1) := by decide +kernel
theorem dX5_takeOut_20 : decode cX5_takeOut 20 = .ok (.iastore, 1) := by decide +kernel
theorem dX5_takeOut_21 : decode cX5_takeOut 21 = .ok (.aload_n 0, 1) := by decide +kernel
theorem dX5_takeOut_22 : decode cX5_takeOut 22 = .ok (.lload_n 1, 1) := by decide +kernel
theorem dX5_takeOut_23 : decode cX5_takeOut 23 = .ok (.invokevirtual 154, 3) := by decide +kernel
theorem dX5_takeOut_26 : decode cX5_takeOut 26 = .ok (.istore 4, 2) := by decide +kernel
theorem dX5_takeOut_28 : decode cX5_takeOut 28 = .ok (.iload 4, 2) := by decide +kernel
theorem dX5_takeOut_30 : decode cX5_takeOut 30 = .ok (.ifCond .ge 5, 3) := by decide +kernel
theorem dX5_takeOut_33 : decode cX5_takeOut 33 = .ok (.iconst 0, 1) := by decide +kernel
theorem dX5_takeOut_34 : decode cX5_takeOut 34 = .ok (.ireturn, 1) := by decide +kernel
theorem dX5_takeOut_35 : decode cX5_takeOut 35 = .ok (.iload 4, 2) := by decide +kernel
theorem dX5_takeOut_37 : decode cX5_takeOut 37 = .ok (.bipush 8, 2) := by decide +kernel
theorem dX5_takeOut_39 : decode cX5_takeOut 39 = .ok (.idiv, 1) := by decide +kernel
theorem dX5_takeOut_40 : decode cX5_takeOut 40 = .ok (.istore 5, 2) := by decide +kernel
theorem dX5_takeOut_42 : decode cX5_takeOut 42 = .ok (.aload_n 0, 1) := by decide +kernel
theorem dX5_takeOut_43 : decode cX5_takeOut 43 = .ok (.getfield 51, 3) := by decide +kernel
theorem dX5_takeOut_46 : decode cX5_takeOut 46 = .ok (.iload 5, 2) := by decide +kernel
theorem dX5_takeOut_48 : decode cX5_takeOut 48 = .ok (.dup2, 1) := by decide +kernel
theorem dX5_takeOut_49 : decode cX5_takeOut 49 = .ok (.iaload, 1) := by decide +kernel
theorem dX5_takeOut_50 : decode cX5_takeOut 50 = .ok (.iconst 1, 1) := by decide +kernel
theorem dX5_takeOut_51 : decode cX5_takeOut 51 = .ok (.isub, 1) := by decide +kernel
theorem dX5_takeOut_52 : decode cX5_takeOut 52 = .ok (.iastore, 1) := by decide +kernel
theorem dX5_takeOut_53 : decode cX5_takeOut 53 = .ok (.iload 4, 2) := by decide +kernel
theorem dX5_takeOut_55 : decode cX5_takeOut 55 = .ok (.istore 6, 2) := by decide +kernel
theorem dX5_takeOut_57 : decode cX5_takeOut 57 = .ok (.iload 6, 2) := by decide +kernel
theorem dX5_takeOut_59 : decode cX5_takeOut 59 = .ok (.bipush 8, 2) := by decide +kernel
theorem dX5_takeOut_61 : decode cX5_takeOut 61 = .ok (.iload 5, 2) := by decide +kernel
theorem dX5_takeOut_63 : decode cX5_takeOut 63 = .ok (.imul, 1) := by decide +kernel
theorem dX5_takeOut_64 : decode cX5_takeOut 64 = .ok (.aload_n 0, 1) := by decide +kernel
theorem dX5_takeOut_65 : decode cX5_takeOut 65 = .ok (.getfield 51, 3) := by decide +kernel
theorem dX5_takeOut_68 : decode cX5_takeOut 68 = .ok (.iload 5, 2) := by decide +kernel
theorem dX5_takeOut_70 : decode cX5_takeOut 70 = .ok (.iaload, 1) := by decide +kernel
theorem dX5_takeOut_71 : decode cX5_takeOut 71 = .ok (.iadd, 1) := by decide +kernel
theorem dX5_takeOut_72 : decode cX5_takeOut 72 = .ok (.if_icmp .ge 89, 3) := by decide +kernel
theorem dX5_takeOut_75 : decode cX5_takeOut 75 = .ok (.aload_n 0, 1) := by decide +kernel
theorem dX5_takeOut_76 : decode cX5_takeOut 76 = .ok (.getfield 36, 3) := by decide +kernel
theorem dX5_takeOut_79 : decode cX5_takeOut 79 = .ok (.iload 6, 2) := by decide +kernel
theorem dX5_takeOut_81 : decode cX5_takeOut 81 = .ok (.aload_n 0, 1) := by decide +kernel
theorem dX5_takeOut_82 : decode cX5_takeOut 82 = .ok (.getfield 36, 3) := by decide +kernel
theorem dX5_takeOut_85 : decode cX5_takeOut 85 = .ok (.iload 6, 2) := by decide +kernel
theorem dX5_takeOut_87 : decode cX5_takeOut 87 = .ok (.iconst 1, 1) := by decide +kernel
theorem dX5_takeOut_88 : decode cX5_takeOut 88 = .ok (.iadd, 1) := by decide +kernel
theorem dX5_takeOut_89 : decode cX5_takeOut 89 = .ok (.laload, 1) := by decide +kernel
theorem dX5_takeOut_90 : decode cX5_takeOut 90 = .ok (.lastore, 1) := by decide +kernel
theorem dX5_takeOut_91 : decode cX5_takeOut 91 = .ok (.aload_n 0, 1) := by decide +kernel
theorem dX5_takeOut_92 : decode cX5_takeOut 92 = .ok (.getfield 39, 3) := by decide +kernel
theorem dX5_takeOut_95 : decode cX5_takeOut 95 = .ok (.iload 6, 2) := by decide +kernel
theorem dX5_takeOut_97 : decode cX5_takeOut 97 = .ok (.aload_n 0, 1) := by decide +kernel
theorem dX5_takeOut_98 : decode cX5_takeOut 98 = .ok (.getfield 39, 3) := by decide +kernel
theorem dX5_takeOut_101 : decode cX5_takeOut 101 = .ok (.iload 6, 2) := by decide +kernel
theorem dX5_takeOut_103 : decode cX5_takeOut 103 = .ok (.iconst 1, 1) := by decide +kernel
theorem dX5_takeOut_104 : decode cX5_takeOut 104 = .ok (.iadd, 1) := by decide +kernel
theorem dX5_takeOut_105 : decode cX5_takeOut 105 = .ok (.iaload, 1) := by decide +kernel
theorem dX5_takeOut_106 : decode cX5_takeOut 106 = .ok (.iastore, 1) := by decide +kernel
theorem dX5_takeOut_107 : decode cX5_takeOut 107 = .ok (.aload_n 0, 1) := by decide +kernel
theorem dX5_takeOut_108 : decode cX5_takeOut 108 = .ok (.getfield 42, 3) := by decide +kernel
theorem dX5_takeOut_111 : decode cX5_takeOut 111 = .ok (.iload 6, 2) := by decide +kernel
theorem dX5_takeOut_113 : decode cX5_takeOut 113 = .ok (.aload_n 0, 1) := by decide +kernel
theorem dX5_takeOut_114 : decode cX5_takeOut 114 = .ok (.getfield 42, 3) := by decide +kernel
theorem dX5_takeOut_117 : decode cX5_takeOut 117 = .ok (.iload 6, 2) := by decide +kernel
theorem dX5_takeOut_119 : decode cX5_takeOut 119 = .ok (.iconst 1, 1) := by decide +kernel
theorem dX5_takeOut_120 : decode cX5_takeOut 120 = .ok (.iadd, 1) := by decide +kernel
theorem dX5_takeOut_121 : decode cX5_takeOut 121 = .ok (.iaload, 1) := by decide +kernel
theorem dX5_takeOut_122 : decode cX5_takeOut 122 = .ok (.iastore, 1) := by decide +kernel
theorem dX5_takeOut_123 : decode cX5_takeOut 123 = .ok (.aload_n 0, 1) := by decide +kernel
theorem dX5_takeOut_124 : decode cX5_takeOut 124 = .ok (.getfield 45, 3) := by decide +kernel
theorem dX5_takeOut_127 : decode cX5_takeOut 127 = .ok (.iload 6, 2) := by decide +kernel
theorem dX5_takeOut_129 : decode cX5_takeOut 129 = .ok (.aload_n 0, 1) := by decide +kernel
theorem dX5_takeOut_130 : decode cX5_takeOut 130 = .ok (.getfield 45, 3) := by decide +kernel
theorem dX5_takeOut_133 : decode cX5_takeOut 133 = .ok (.iload 6, 2) := by decide +kernel
theorem dX5_takeOut_135 : decode cX5_takeOut 135 = .ok (.iconst 1, 1) := by decide +kernel
theorem dX5_takeOut_136 : decode cX5_takeOut 136 = .ok (.iadd, 1) := by decide +kernel
theorem dX5_takeOut_137 : decode cX5_takeOut 137 = .ok (.iaload, 1) := by decide +kernel
theorem dX5_takeOut_138 : decode cX5_takeOut 138 = .ok (.iastore, 1) := by decide +kernel
theorem dX5_takeOut_139 : decode cX5_takeOut 139 = .ok (.aload_n 0, 1) := by decide +kernel
theorem dX5_takeOut_140 : decode cX5_takeOut 140 = .ok (.getfield 48, 3) := by decide +kernel
theorem dX5_takeOut_143 : decode cX5_takeOut 143 = .ok (.iload 6, 2) := by decide +kernel
theorem dX5_takeOut_145 : decode cX5_takeOut 145 = .ok (.aload_n 0, 1) := by decide +kernel
theorem dX5_takeOut_146 : decode cX5_takeOut 146 = .ok (.getfield 48, 3) := by decide +kernel
theorem dX5_takeOut_149 : decode cX5_takeOut 149 = .ok (.iload 6, 2) := by decide +kernel
theorem dX5_takeOut_151 : decode cX5_takeOut 151 = .ok (.iconst 1, 1) := by decide +kernel
theorem dX5_takeOut_152 : decode cX5_takeOut 152 = .ok (.iadd, 1) := by decide +kernel
theorem dX5_takeOut_153 : decode cX5_takeOut 153 = .ok (.baload, 1) := by decide +kernel
theorem dX5_takeOut_154 : decode cX5_takeOut 154 = .ok (.bastore, 1) := by decide +kernel
theorem dX5_takeOut_155 : decode cX5_takeOut 155 = .ok (.iinc 6 1, 3) := by decide +kernel
theorem dX5_takeOut_158 : decode cX5_takeOut 158 = .ok (.goto (-101), 3) := by decide +kernel
theorem dX5_takeOut_161 : decode cX5_takeOut 161 = .ok (.aload_n 0, 1) := by decide +kernel
theorem dX5_takeOut_162 : decode cX5_takeOut 162 = .ok (.getfield 72, 3) := by decide +kernel
theorem dX5_takeOut_165 : decode cX5_takeOut 165 = .ok (.iload_n 3, 1) := by decide +kernel
theorem dX5_takeOut_166 : decode cX5_takeOut 166 = .ok (.dup2, 1) := by decide +kernel
theorem dX5_takeOut_167 : decode cX5_takeOut 167 = .ok (.iaload, 1) := by decide +kernel
theorem dX5_takeOut_168 : decode cX5_takeOut 168 = .ok (.iconst 1, 1) := by decide +kernel
theorem dX5_takeOut_169 : decode cX5_takeOut 169 = .ok (.iadd, 1) := by decide +kernel
theorem dX5_takeOut_170 : decode cX5_takeOut 170 = .ok (.iastore, 1) := by decide +kernel
theorem dX5_takeOut_171 : decode cX5_takeOut 171 = .ok (.iconst 1, 1) := by decide +kernel
theorem dX5_takeOut_172 : decode cX5_takeOut 172 = .ok (.ireturn, 1) := by decide +kernel
theorem dX5_put_0 : decode cX5_put 0 = .ok (.aload_n 0, 1) := by decide +kernel
theorem dX5_put_1 : decode cX5_put 1 = .ok (.getfield 157, 3) := by decide +kernel
theorem dX5_put_4 : decode cX5_put 4 = .ok (.ifCond .eq 6, 3) := by decide +kernel
theorem dX5_put_7 : decode cX5_put 7 = .ok (.bipush (-2), 2) := by decide +kernel
theorem dX5_put_9 : decode cX5_put 9 = .ok (.ireturn, 1) := by decide +kernel
theorem dX5_put_10 : decode cX5_put 10 = .ok (.iload_n 3, 1) := by decide +kernel
theorem dX5_put_11 : decode cX5_put 11 = .ok (.iconst 1, 1) := by decide +kernel
theorem dX5_put_12 : decode cX5_put 12 = .ok (.if_icmp .lt 9, 3) := by decide +kernel
theorem dX5_put_15 : decode cX5_put 15 = .ok (.iload_n 3, 1) := by decide +kernel
theorem dX5_put_16 : decode cX5_put 16 = .ok (.bipush 12, 2) := by decide +kernel
theorem dX5_put_18 : decode cX5_put 18 = .ok (.if_icmp .le 5, 3) := by decide +kernel
theorem dX5_put_21 : decode cX5_put 21 = .ok (.iconst (-1), 1) := by decide +kernel
theorem dX5_put_22 : decode cX5_put 22 = .ok (.ireturn, 1) := by decide +kernel
theorem dX5_put_23 : decode cX5_put 23 = .ok (.aload_n 0, 1) := by decide +kernel
theorem dX5_put_24 : decode cX5_put 24 = .ok (.lload_n 1, 1) := by decide +kernel
theorem dX5_put_25 : decode cX5_put 25 = .ok (.invokevirtual 133, 3) := by decide +kernel
theorem dX5_put_28 : decode cX5_put 28 = .ok (.istore 6, 2) := by decide +kernel
theorem dX5_put_30 : decode cX5_put 30 = .ok (.iload 6, 2) := by decide +kernel
theorem dX5_put_32 : decode cX5_put 32 = .ok (.ifCond .lt 11, 3) := by decide +kernel
theorem dX5_put_35 : decode cX5_put 35 = .ok (.aload_n 0, 1) := by decide +kernel
theorem dX5_put_36 : decode cX5_put 36 = .ok (.getfield 23, 3) := by decide +kernel
theorem dX5_put_39 : decode cX5_put 39 = .ok (.iload 6, 2) := by decide +kernel
theorem dX5_put_41 : decode cX5_put 41 = .ok (.iconst 0, 1) := by decide +kernel
theorem dX5_put_42 : decode cX5_put 42 = .ok (.bastore, 1) := by decide +kernel
theorem dX5_put_43 : decode cX5_put 43 = .ok (.aload_n 0, 1) := by decide +kernel
theorem dX5_put_44 : decode cX5_put 44 = .ok (.lload_n 1, 1) := by decide +kernel
theorem dX5_put_45 : decode cX5_put 45 = .ok (.iload_n 3, 1) := by decide +kernel
theorem dX5_put_46 : decode cX5_put 46 = .ok (.iload 4, 2) := by decide +kernel
theorem dX5_put_48 : decode cX5_put 48 = .ok (.iload 5, 2) := by decide +kernel
theorem dX5_put_50 : decode cX5_put 50 = .ok (.invokevirtual 122, 3) := by decide +kernel
theorem dX5_put_53 : decode cX5_put 53 = .ok (.iconst 1, 1) := by decide +kernel
theorem dX5_put_54 : decode cX5_put 54 = .ok (.ireturn, 1) := by decide +kernel
theorem dX5_get_0 : decode cX5_get 0 = .ok (.aload_n 0, 1) := by decide +kernel
theorem dX5_get_1 : decode cX5_get 1 = .ok (.getfield 157, 3) := by decide +kernel
theorem dX5_get_4 : decode cX5_get 4 = .ok (.ifCond .eq 6, 3) := by decide +kernel
theorem dX5_get_7 : decode cX5_get 7 = .ok (.bipush (-2), 2) := by decide +kernel
theorem dX5_get_9 : decode cX5_get 9 = .ok (.ireturn, 1) := by decide +kernel
theorem dX5_get_10 : decode cX5_get 10 = .ok (.aload_n 0, 1) := by decide +kernel
theorem dX5_get_11 : decode cX5_get 11 = .ok (.lload_n 1, 1) := by decide +kernel
theorem dX5_get_12 : decode cX5_get 12 = .ok (.invokevirtual 133, 3) := by decide +kernel
theorem dX5_get_15 : decode cX5_get 15 = .ok (.istore_n 3, 1) := by decide +kernel
theorem dX5_get_16 : decode cX5_get 16 = .ok (.iload_n 3, 1) := by decide +kernel
theorem dX5_get_17 : decode cX5_get 17 = .ok (.ifCond .lt 45, 3) := by decide +kernel
theorem dX5_get_20 : decode cX5_get 20 = .ok (.aload_n 0, 1) := by decide +kernel
theorem dX5_get_21 : decode cX5_get 21 = .ok (.getfield 27, 3) := by decide +kernel
theorem dX5_get_24 : decode cX5_get 24 = .ok (.iload_n 3, 1) := by decide +kernel
theorem dX5_get_25 : decode cX5_get 25 = .ok (.iconst 1, 1) := by decide +kernel
theorem dX5_get_26 : decode cX5_get 26 = .ok (.bastore, 1) := by decide +kernel
theorem dX5_get_27 : decode cX5_get 27 = .ok (.aload_n 0, 1) := by decide +kernel
theorem dX5_get_28 : decode cX5_get 28 = .ok (.aload_n 0, 1) := by decide +kernel
theorem dX5_get_29 : decode cX5_get 29 = .ok (.getfield 13, 3) := by decide +kernel
theorem dX5_get_32 : decode cX5_get 32 = .ok (.iload_n 3, 1) := by decide +kernel
theorem dX5_get_33 : decode cX5_get 33 = .ok (.iaload, 1) := by decide +kernel
theorem dX5_get_34 : decode cX5_get 34 = .ok (.putfield 161, 3) := by decide +kernel
theorem dX5_get_37 : decode cX5_get 37 = .ok (.aload_n 0, 1) := by decide +kernel
theorem dX5_get_38 : decode cX5_get 38 = .ok (.aload_n 0, 1) := by decide +kernel
theorem dX5_get_39 : decode cX5_get 39 = .ok (.getfield 17, 3) := by decide +kernel
theorem dX5_get_42 : decode cX5_get 42 = .ok (.iload_n 3, 1) := by decide +kernel
theorem dX5_get_43 : decode cX5_get 43 = .ok (.iaload, 1) := by decide +kernel
theorem dX5_get_44 : decode cX5_get 44 = .ok (.putfield 164, 3) := by decide +kernel
theorem dX5_get_47 : decode cX5_get 47 = .ok (.aload_n 0, 1) := by decide +kernel
theorem dX5_get_48 : decode cX5_get 48 = .ok (.aload_n 0, 1) := by decide +kernel
theorem dX5_get_49 : decode cX5_get 49 = .ok (.getfield 20, 3) := by decide +kernel
theorem dX5_get_52 : decode cX5_get 52 = .ok (.iload_n 3, 1) := by decide +kernel
theorem dX5_get_53 : decode cX5_get 53 = .ok (.iaload, 1) := by decide +kernel
theorem dX5_get_54 : decode cX5_get 54 = .ok (.putfield 167, 3) := by decide +kernel
theorem dX5_get_57 : decode cX5_get 57 = .ok (.aload_n 0, 1) := by decide +kernel
theorem dX5_get_58 : decode cX5_get 58 = .ok (.getfield 161, 3) := by decide +kernel
theorem dX5_get_61 : decode cX5_get 61 = .ok (.ireturn, 1) := by decide +kernel
theorem dX5_get_62 : decode cX5_get 62 = .ok (.aload_n 0, 1) := by decide +kernel
theorem dX5_get_63 : decode cX5_get 63 = .ok (.lload_n 1, 1) := by decide +kernel
theorem dX5_get_64 : decode cX5_get 64 = .ok (.invokevirtual 150, 3) := by decide +kernel
theorem dX5_get_67 : decode cX5_get 67 = .ok (.ifCond .ne 5, 3) := by decide +kernel
theorem dX5_get_70 : decode cX5_get 70 = .ok (.iconst 0, 1) := by decide +kernel
theorem dX5_get_71 : decode cX5_get 71 = .ok (.ireturn, 1) := by decide +kernel
theorem dX5_get_72 : decode cX5_get 72 = .ok (.aload_n 0, 1) := by decide +kernel
theorem dX5_get_73 : decode cX5_get 73 = .ok (.getfield 72, 3) := by decide +kernel
theorem dX5_get_76 : decode cX5_get 76 = .ok (.bipush 11, 2) := by decide +kernel
theorem dX5_get_78 : decode cX5_get 78 = .ok (.dup2, 1) := by decide +kernel
theorem dX5_get_79 : decode cX5_get 79 = .ok (.iaload, 1) := by decide +kernel
theorem dX5_get_80 : decode cX5_get 80 = .ok (.iconst 1, 1) := by decide +kernel
theorem dX5_get_81 : decode cX5_get 81 = .ok (.iadd, 1) := by decide +kernel
theorem dX5_get_82 : decode cX5_get 82 = .ok (.iastore, 1) := by decide +kernel
theorem dX5_get_83 : decode cX5_get 83 = .ok (.aload_n 0, 1) := by decide +kernel
theorem dX5_get_84 : decode cX5_get 84 = .ok (.lload_n 1, 1) := by decide +kernel
theorem dX5_get_85 : decode cX5_get 85 = .ok (.invokevirtual 154, 3) := by decide +kernel
theorem dX5_get_88 : decode cX5_get 88 = .ok (.istore 4, 2) := by decide +kernel
theorem dX5_get_90 : decode cX5_get 90 = .ok (.iload 4, 2) := by decide +kernel
theorem dX5_get_92 : decode cX5_get 92 = .ok (.ifCond .ge 5, 3) := by decide +kernel
theorem dX5_get_95 : decode cX5_get 95 = .ok (.iconst 0, 1) := by decide +kernel
theorem dX5_get_96 : decode cX5_get 96 = .ok (.ireturn, 1) := by decide +kernel
theorem dX5_get_97 : decode cX5_get 97 = .ok (.aload_n 0, 1) := by decide +kernel
theorem dX5_get_98 : decode cX5_get 98 = .ok (.getfield 48, 3) := by decide +kernel
theorem dX5_get_101 : decode cX5_get 101 = .ok (.iload 4, 2) := by decide +kernel
theorem dX5_get_103 : decode cX5_get 103 = .ok (.iconst 1, 1) := by decide +kernel
theorem dX5_get_104 : decode cX5_get 104 = .ok (.bastore, 1) := by decide +kernel
theorem dX5_get_105 : decode cX5_get 105 = .ok (.aload_n 0, 1) := by decide +kernel
theorem dX5_get_106 : decode cX5_get 106 = .ok (.aload_n 0, 1) := by decide +kernel
theorem dX5_get_107 : decode cX5_get 107 = .ok (.getfield 39, 3) := by decide +kernel
theorem dX5_get_110 : decode cX5_get 110 = .ok (.iload 4, 2) := by decide +kernel
theorem dX5_get_112 : decode cX5_get 112 = .ok (.iaload, 1) := by decide +kernel
theorem dX5_get_113 : decode cX5_get 113 = .ok (.putfield 161, 3) := by decide +kernel
theorem dX5_get_116 : decode cX5_get 116 = .ok (.aload_n 0, 1) := by decide +kernel
theorem dX5_get_117 : decode cX5_get 117 = .ok (.aload_n 0, 1) := by decide +kernel
theorem dX5_get_118 : decode cX5_get 118 = .ok (.getfield 42, 3) := by decide +kernel
theorem dX5_get_121 : decode cX5_get 121 = .ok (.iload 4, 2) := by decide +kernel
theorem dX5_get_123 : decode cX5_get 123 = .ok (.iaload, 1) := by decide +kernel
theorem dX5_get_124 : decode cX5_get 124 = .ok (.putfield 164, 3) := by decide +kernel
theorem dX5_get_127 : decode cX5_get 127 = .ok (.aload_n 0, 1) := by decide +kernel
theorem dX5_get_128 : decode cX5_get 128 = .ok (.aload_n 0, 1) := by decide +kernel
theorem dX5_get_129 : decode cX5_get 129 = .ok (.getfield 45, 3) := by decide +kernel
theorem dX5_get_132 : decode cX5_get 132 = .ok (.iload 4, 2) := by decide +kernel
theorem dX5_get_134 : decode cX5_get 134 = .ok (.iaload, 1) := by decide +kernel
theorem dX5_get_135 : decode cX5_get 135 = .ok (.putfield 167, 3) := by decide +kernel
theorem dX5_get_138 : decode cX5_get 138 = .ok (.aload_n 0, 1) := by decide +kernel
theorem dX5_get_139 : decode cX5_get 139 = .ok (.getfield 161, 3) := by decide +kernel
theorem dX5_get_142 : decode cX5_get 142 = .ok (.ireturn, 1) := by decide +kernel
theorem dX5_got_0 : decode cX5_got 0 = .ok (.iload_n 1, 1) := by decide +kernel
theorem dX5_got_1 : decode cX5_got 1 = .ok (.ifCond .lt 25, 3) := by decide +kernel
theorem dX5_got_4 : decode cX5_got 4 = .ok (.iload_n 1, 1) := by decide +kernel
theorem dX5_got_5 : decode cX5_got 5 = .ok (.aload_n 0, 1) := by decide +kernel
theorem dX5_got_6 : decode cX5_got 6 = .ok (.getfield 161, 3) := by decide +kernel
theorem dX5_got_9 : decode cX5_got 9 = .ok (.if_icmp .ge 17, 3) := by decide +kernel
theorem dX5_got_12 : decode cX5_got 12 = .ok (.aload_n 0, 1) := by decide +kernel
theorem dX5_got_13 : decode cX5_got 13 = .ok (.getfield 164, 3) := by decide +kernel
theorem dX5_got_16 : decode cX5_got 16 = .ok (.iload_n 1, 1) := by decide +kernel
theorem dX5_got_17 : decode cX5_got 17 = .ok (.aload_n 0, 1) := by decide +kernel
theorem dX5_got_18 : decode cX5_got 18 = .ok (.getfield 167, 3) := by decide +kernel
theorem dX5_got_21 : decode cX5_got 21 = .ok (.imul, 1) := by decide +kernel
theorem dX5_got_22 : decode cX5_got 22 = .ok (.iadd, 1) := by decide +kernel
theorem dX5_got_23 : decode cX5_got 23 = .ok (.goto 4, 3) := by decide +kernel
theorem dX5_got_26 : decode cX5_got 26 = .ok (.iconst 0, 1) := by decide +kernel
theorem dX5_got_27 : decode cX5_got 27 = .ok (.ireturn, 1) := by decide +kernel
theorem dX5_remove_0 : decode cX5_remove 0 = .ok (.aload_n 0, 1) := by decide +kernel
theorem dX5_remove_1 : decode cX5_remove 1 = .ok (.getfield 157, 3) := by decide +kernel
theorem dX5_remove_4 : decode cX5_remove 4 = .ok (.ifCond .eq 6, 3) := by decide +kernel
theorem dX5_remove_7 : decode cX5_remove 7 = .ok (.bipush (-2), 2) := by decide +kernel
theorem dX5_remove_9 : decode cX5_remove 9 = .ok (.ireturn, 1) := by decide +kernel
theorem dX5_remove_10 : decode cX5_remove 10 = .ok (.aload_n 0, 1) := by decide +kernel
theorem dX5_remove_11 : decode cX5_remove 11 = .ok (.lload_n 1, 1) := by decide +kernel
theorem dX5_remove_12 : decode cX5_remove 12 = .ok (.invokevirtual 133, 3) := by decide +kernel
theorem dX5_remove_15 : decode cX5_remove 15 = .ok (.istore_n 3, 1) := by decide +kernel
theorem dX5_remove_16 : decode cX5_remove 16 = .ok (.iload_n 3, 1) := by decide +kernel
theorem dX5_remove_17 : decode cX5_remove 17 = .ok (.ifCond .lt 10, 3) := by decide +kernel
theorem dX5_remove_20 : decode cX5_remove 20 = .ok (.aload_n 0, 1) := by decide +kernel
theorem dX5_remove_21 : decode cX5_remove 21 = .ok (.getfield 23, 3) := by decide +kernel
theorem dX5_remove_24 : decode cX5_remove 24 = .ok (.iload_n 3, 1) := by decide +kernel
theorem dX5_remove_25 : decode cX5_remove 25 = .ok (.iconst 0, 1) := by decide +kernel
theorem dX5_remove_26 : decode cX5_remove 26 = .ok (.bastore, 1) := by decide +kernel
theorem dX5_remove_27 : decode cX5_remove 27 = .ok (.aload_n 0, 1) := by decide +kernel
theorem dX5_remove_28 : decode cX5_remove 28 = .ok (.lload_n 1, 1) := by decide +kernel
theorem dX5_remove_29 : decode cX5_remove 29 = .ok (.iconst 4, 1) := by decide +kernel
theorem dX5_remove_30 : decode cX5_remove 30 = .ok (.invokevirtual 126, 3) := by decide +kernel
theorem dX5_remove_33 : decode cX5_remove 33 = .ok (.istore 4, 2) := by decide +kernel
theorem dX5_remove_35 : decode cX5_remove 35 = .ok (.iload_n 3, 1) := by decide +kernel
theorem dX5_remove_36 : decode cX5_remove 36 = .ok (.ifCond .ge 8, 3) := by decide +kernel
theorem dX5_remove_39 : decode cX5_remove 39 = .ok (.iload 4, 2) := by decide +kernel
theorem dX5_remove_41 : decode cX5_remove 41 = .ok (.ifCond .eq 7, 3) := by decide +kernel
theorem dX5_remove_44 : decode cX5_remove 44 = .ok (.iconst 1, 1) := by decide +kernel
theorem dX5_remove_45 : decode cX5_remove 45 = .ok (.goto 4, 3) := by decide +kernel
theorem dX5_remove_48 : decode cX5_remove 48 = .ok (.iconst 0, 1) := by decide +kernel
theorem dX5_remove_49 : decode cX5_remove 49 = .ok (.ireturn, 1) := by decide +kernel
theorem dX5_where_0 : decode cX5_where 0 = .ok (.aload_n 0, 1) := by decide +kernel
theorem dX5_where_1 : decode cX5_where 1 = .ok (.getfield 157, 3) := by decide +kernel
theorem dX5_where_4 : decode cX5_where 4 = .ok (.ifCond .eq 8, 3) := by decide +kernel
theorem dX5_where_7 : decode cX5_where 7 = .ok (.bipush (-2), 2) := by decide +kernel
theorem dX5_where_9 : decode cX5_where 9 = .ok (.goto 28, 3) := by decide +kernel
theorem dX5_where_12 : decode cX5_where 12 = .ok (.aload_n 0, 1) := by decide +kernel
theorem dX5_where_13 : decode cX5_where 13 = .ok (.lload_n 1, 1) := by decide +kernel
theorem dX5_where_14 : decode cX5_where 14 = .ok (.invokevirtual 133, 3) := by decide +kernel
theorem dX5_where_17 : decode cX5_where 17 = .ok (.ifCond .lt 7, 3) := by decide +kernel
theorem dX5_where_20 : decode cX5_where 20 = .ok (.iconst 1, 1) := by decide +kernel
theorem dX5_where_21 : decode cX5_where 21 = .ok (.goto 16, 3) := by decide +kernel
theorem dX5_where_24 : decode cX5_where 24 = .ok (.aload_n 0, 1) := by decide +kernel
theorem dX5_where_25 : decode cX5_where 25 = .ok (.lload_n 1, 1) := by decide +kernel
theorem dX5_where_26 : decode cX5_where 26 = .ok (.invokevirtual 154, 3) := by decide +kernel
theorem dX5_where_29 : decode cX5_where 29 = .ok (.ifCond .lt 7, 3) := by decide +kernel
theorem dX5_where_32 : decode cX5_where 32 = .ok (.iconst 2, 1) := by decide +kernel
theorem dX5_where_33 : decode cX5_where 33 = .ok (.goto 4, 3) := by decide +kernel
theorem dX5_where_36 : decode cX5_where 36 = .ok (.iconst 0, 1) := by decide +kernel
theorem dX5_where_37 : decode cX5_where 37 = .ok (.ireturn, 1) := by decide +kernel
theorem dX5_mark_0 : decode cX5_mark 0 = .ok (.aload_n 0, 1) := by decide +kernel
theorem dX5_mark_1 : decode cX5_mark 1 = .ok (.getfield 157, 3) := by decide +kernel
theorem dX5_mark_4 : decode cX5_mark 4 = .ok (.ifCond .eq 6, 3) := by decide +kernel
theorem dX5_mark_7 : decode cX5_mark 7 = .ok (.bipush (-2), 2) := by decide +kernel
theorem dX5_mark_9 : decode cX5_mark 9 = .ok (.ireturn, 1) := by decide +kernel
theorem dX5_mark_10 : decode cX5_mark 10 = .ok (.aload_n 0, 1) := by decide +kernel
theorem dX5_mark_11 : decode cX5_mark 11 = .ok (.lload_n 1, 1) := by decide +kernel
theorem dX5_mark_12 : decode cX5_mark 12 = .ok (.invokevirtual 133, 3) := by decide +kernel
theorem dX5_mark_15 : decode cX5_mark 15 = .ok (.istore_n 3, 1) := by decide +kernel
theorem dX5_mark_16 : decode cX5_mark 16 = .ok (.iload_n 3, 1) := by decide +kernel
theorem dX5_mark_17 : decode cX5_mark 17 = .ok (.ifCond .lt 18, 3) := by decide +kernel
theorem dX5_mark_20 : decode cX5_mark 20 = .ok (.aload_n 0, 1) := by decide +kernel
theorem dX5_mark_21 : decode cX5_mark 21 = .ok (.getfield 27, 3) := by decide +kernel
theorem dX5_mark_24 : decode cX5_mark 24 = .ok (.iload_n 3, 1) := by decide +kernel
theorem dX5_mark_25 : decode cX5_mark 25 = .ok (.baload, 1) := by decide +kernel
theorem dX5_mark_26 : decode cX5_mark 26 = .ok (.ifCond .eq 7, 3) := by decide +kernel
theorem dX5_mark_29 : decode cX5_mark 29 = .ok (.iconst 1, 1) := by decide +kernel
theorem dX5_mark_30 : decode cX5_mark 30 = .ok (.goto 4, 3) := by decide +kernel
theorem dX5_mark_33 : decode cX5_mark 33 = .ok (.iconst 0, 1) := by decide +kernel
theorem dX5_mark_34 : decode cX5_mark 34 = .ok (.ireturn, 1) := by decide +kernel
theorem dX5_mark_35 : decode cX5_mark 35 = .ok (.aload_n 0, 1) := by decide +kernel
theorem dX5_mark_36 : decode cX5_mark 36 = .ok (.lload_n 1, 1) := by decide +kernel
theorem dX5_mark_37 : decode cX5_mark 37 = .ok (.invokevirtual 154, 3) := by decide +kernel
theorem dX5_mark_40 : decode cX5_mark 40 = .ok (.istore 4, 2) := by decide +kernel
theorem dX5_mark_42 : decode cX5_mark 42 = .ok (.iload 4, 2) := by decide +kernel
theorem dX5_mark_44 : decode cX5_mark 44 = .ok (.ifCond .lt 17, 3) := by decide +kernel
theorem dX5_mark_47 : decode cX5_mark 47 = .ok (.aload_n 0, 1) := by decide +kernel
theorem dX5_mark_48 : decode cX5_mark 48 = .ok (.getfield 48, 3) := by decide +kernel
theorem dX5_mark_51 : decode cX5_mark 51 = .ok (.iload 4, 2) := by decide +kernel
theorem dX5_mark_53 : decode cX5_mark 53 = .ok (.baload, 1) := by decide +kernel
theorem dX5_mark_54 : decode cX5_mark 54 = .ok (.ifCond .eq 7, 3) := by decide +kernel
theorem dX5_mark_57 : decode cX5_mark 57 = .ok (.iconst 1, 1) := by decide +kernel
theorem dX5_mark_58 : decode cX5_mark 58 = .ok (.goto 4, 3) := by decide +kernel
theorem dX5_mark_61 : decode cX5_mark 61 = .ok (.iconst 0, 1) := by decide +kernel
theorem dX5_mark_62 : decode cX5_mark 62 = .ok (.ireturn, 1) := by decide +kernel
theorem dX5_isSet_0 : decode cX5_isSet 0 = .ok (.iload_n 0, 1) := by decide +kernel
theorem dX5_isSet_1 : decode cX5_isSet 1 = .ok (.ifCond .lt 13, 3) := by decide +kernel
theorem dX5_isSet_4 : decode cX5_isSet 4 = .ok (.iload_n 0, 1) := by decide +kernel
theorem dX5_isSet_5 : decode cX5_isSet 5 = .ok (.bipush 64, 2) := by decide +kernel
theorem dX5_isSet_7 : decode cX5_isSet 7 = .ok (.if_icmp .ge 7, 3) := by decide +kernel
theorem dX5_isSet_10 : decode cX5_isSet 10 = .ok (.iconst 1, 1) := by decide +kernel
theorem dX5_isSet_11 : decode cX5_isSet 11 = .ok (.goto 4, 3) := by decide +kernel
theorem dX5_isSet_14 : decode cX5_isSet 14 = .ok (.iconst 0, 1) := by decide +kernel
theorem dX5_isSet_15 : decode cX5_isSet 15 = .ok (.ireturn, 1) := by decide +kernel
theorem dX5_stands_0 : decode cX5_stands 0 = .ok (.aload_n 0, 1) := by decide +kernel
theorem dX5_stands_1 : decode cX5_stands 1 = .ok (.getfield 157, 3) := by decide +kernel
theorem dX5_stands_4 : decode cX5_stands 4 = .ok (.ifCond .eq 8, 3) := by decide +kernel
theorem dX5_stands_7 : decode cX5_stands 7 = .ok (.bipush (-2), 2) := by decide +kernel
theorem dX5_stands_9 : decode cX5_stands 9 = .ok (.goto 20, 3) := by decide +kernel
theorem dX5_stands_12 : decode cX5_stands 12 = .ok (.iload_n 1, 1) := by decide +kernel
theorem dX5_stands_13 : decode cX5_stands 13 = .ok (.invokestatic 170, 3) := by decide +kernel
theorem dX5_stands_16 : decode cX5_stands 16 = .ok (.ifCond .eq 12, 3) := by decide +kernel
theorem dX5_stands_19 : decode cX5_stands 19 = .ok (.aload_n 0, 1) := by decide +kernel
theorem dX5_stands_20 : decode cX5_stands 20 = .ok (.getfield 51, 3) := by decide +kernel
theorem dX5_stands_23 : decode cX5_stands 23 = .ok (.iload_n 1, 1) := by decide +kernel
theorem dX5_stands_24 : decode cX5_stands 24 = .ok (.iaload, 1) := by decide +kernel
theorem dX5_stands_25 : decode cX5_stands 25 = .ok (.goto 4, 3) := by decide +kernel
theorem dX5_stands_28 : decode cX5_stands 28 = .ok (.iconst (-1), 1) := by decide +kernel
theorem dX5_stands_29 : decode cX5_stands 29 = .ok (.ireturn, 1) := by decide +kernel
theorem dX5_key_0 : decode cX5_key 0 = .ok (.aload_n 0, 1) := by decide +kernel
theorem dX5_key_1 : decode cX5_key 1 = .ok (.getfield 157, 3) := by decide +kernel
theorem dX5_key_4 : decode cX5_key 4 = .ok (.ifCond .ne 38, 3) := by decide +kernel
theorem dX5_key_7 : decode cX5_key 7 = .ok (.iload_n 1, 1) := by decide +kernel
theorem dX5_key_8 : decode cX5_key 8 = .ok (.invokestatic 170, 3) := by decide +kernel
theorem dX5_key_11 : decode cX5_key 11 = .ok (.ifCond .eq 31, 3) := by decide +kernel
theorem dX5_key_14 : decode cX5_key 14 = .ok (.iload_n 2, 1) := by decide +kernel
theorem dX5_key_15 : decode cX5_key 15 = .ok (.ifCond .lt 27, 3) := by decide +kernel
theorem dX5_key_18 : decode cX5_key 18 = .ok (.iload_n 2, 1) := by decide +kernel
theorem dX5_key_19 : decode cX5_key 19 = .ok (.aload_n 0, 1) := by decide +kernel
theorem dX5_key_20 : decode cX5_key 20 = .ok (.getfield 51, 3) := by decide +kernel
theorem dX5_key_23 : decode cX5_key 23 = .ok (.iload_n 1, 1) := by decide +kernel
theorem dX5_key_24 : decode cX5_key 24 = .ok (.iaload, 1) := by decide +kernel
theorem dX5_key_25 : decode cX5_key 25 = .ok (.if_icmp .ge 17, 3) := by decide +kernel
theorem dX5_key_28 : decode cX5_key 28 = .ok (.aload_n 0, 1) := by decide +kernel
theorem dX5_key_29 : decode cX5_key 29 = .ok (.getfield 36, 3) := by decide +kernel
theorem dX5_key_32 : decode cX5_key 32 = .ok (.bipush 8, 2) := by decide +kernel
theorem dX5_key_34 : decode cX5_key 34 = .ok (.iload_n 1, 1) := by decide +kernel
theorem dX5_key_35 : decode cX5_key 35 = .ok (.imul, 1) := by decide +kernel
theorem dX5_key_36 : decode cX5_key 36 = .ok (.iload_n 2, 1) := by decide +kernel
theorem dX5_key_37 : decode cX5_key 37 = .ok (.iadd, 1) := by decide +kernel
theorem dX5_key_38 : decode cX5_key 38 = .ok (.laload, 1) := by decide +kernel
theorem dX5_key_39 : decode cX5_key 39 = .ok (.goto 4, 3) := by decide +kernel
theorem dX5_key_42 : decode cX5_key 42 = .ok (.lconst 0, 1) := by decide +kernel
theorem dX5_key_43 : decode cX5_key 43 = .ok (.lreturn, 1) := by decide +kernel
theorem dX5_filter_0 : decode cX5_filter 0 = .ok (.aload_n 0, 1) := by decide +kernel
theorem dX5_filter_1 : decode cX5_filter 1 = .ok (.getfield 157, 3) := by decide +kernel
theorem dX5_filter_4 : decode cX5_filter 4 = .ok (.ifCond .ne 18, 3) := by decide +kernel
theorem dX5_filter_7 : decode cX5_filter 7 = .ok (.iload_n 1, 1) := by decide +kernel
theorem dX5_filter_8 : decode cX5_filter 8 = .ok (.invokestatic 170, 3) := by decide +kernel
theorem dX5_filter_11 : decode cX5_filter 11 = .ok (.ifCond .eq 11, 3) := by decide +kernel
theorem dX5_filter_14 : decode cX5_filter 14 = .ok (.aload_n 0, 1) := by decide +kernel
theorem dX5_filter_15 : decode cX5_filter 15 = .ok (.iload_n 1, 1) := by decide +kernel
theorem dX5_filter_16 : decode cX5_filter 16 = .ok (.invokevirtual 92, 3) := by decide +kernel
theorem dX5_filter_19 : decode cX5_filter 19 = .ok (.goto 4, 3) := by decide +kernel
theorem dX5_filter_22 : decode cX5_filter 22 = .ok (.lconst 0, 1) := by decide +kernel
theorem dX5_filter_23 : decode cX5_filter 23 = .ok (.lreturn, 1) := by decide +kernel
theorem dX5_alive_0 : decode cX5_alive 0 = .ok (.aload_n 0, 1) := by decide +kernel
theorem dX5_alive_1 : decode cX5_alive 1 = .ok (.getfield 157, 3) := by decide +kernel
theorem dX5_alive_4 : decode cX5_alive 4 = .ok (.ifCond .eq 6, 3) := by decide +kernel
theorem dX5_alive_7 : decode cX5_alive 7 = .ok (.bipush (-2), 2) := by decide +kernel
theorem dX5_alive_9 : decode cX5_alive 9 = .ok (.ireturn, 1) := by decide +kernel
theorem dX5_alive_10 : decode cX5_alive 10 = .ok (.iload_n 1, 1) := by decide +kernel
theorem dX5_alive_11 : decode cX5_alive 11 = .ok (.ifCond .lt 9, 3) := by decide +kernel
theorem dX5_alive_14 : decode cX5_alive 14 = .ok (.iload_n 1, 1) := by decide +kernel
theorem dX5_alive_15 : decode cX5_alive 15 = .ok (.bipush 8, 2) := by decide +kernel
theorem dX5_alive_17 : decode cX5_alive 17 = .ok (.if_icmp .le 5, 3) := by decide +kernel
theorem dX5_alive_20 : decode cX5_alive 20 = .ok (.iconst (-1), 1) := by decide +kernel
theorem dX5_alive_21 : decode cX5_alive 21 = .ok (.ireturn, 1) := by decide +kernel
theorem dX5_alive_22 : decode cX5_alive 22 = .ok (.iconst 0, 1) := by decide +kernel
theorem dX5_alive_23 : decode cX5_alive 23 = .ok (.istore_n 2, 1) := by decide +kernel
theorem dX5_alive_24 : decode cX5_alive 24 = .ok (.iconst 0, 1) := by decide +kernel
theorem dX5_alive_25 : decode cX5_alive 25 = .ok (.istore_n 3, 1) := by decide +kernel
theorem dX5_alive_26 : decode cX5_alive 26 = .ok (.iload_n 3, 1) := by decide +kernel
theorem dX5_alive_27 : decode cX5_alive 27 = .ok (.aload_n 0, 1) := by decide +kernel
theorem dX5_alive_28 : decode cX5_alive 28 = .ok (.getfield 96, 3) := by decide +kernel
theorem dX5_alive_31 : decode cX5_alive 31 = .ok (.if_icmp .ge 36, 3) := by decide +kernel
theorem dX5_alive_34 : decode cX5_alive 34 = .ok (.iload_n 2, 1) := by decide +kernel
theorem dX5_alive_35 : decode cX5_alive 35 = .ok (.aload_n 0, 1) := by decide +kernel
theorem dX5_alive_36 : decode cX5_alive 36 = .ok (.getfield 23, 3) := by decide +kernel
theorem dX5_alive_39 : decode cX5_alive 39 = .ok (.iload_n 3, 1) := by decide +kernel
theorem dX5_alive_40 : decode cX5_alive 40 = .ok (.baload, 1) := by decide +kernel
theorem dX5_alive_41 : decode cX5_alive 41 = .ok (.ifCond .eq 17, 3) := by decide +kernel
theorem dX5_alive_44 : decode cX5_alive 44 = .ok (.aload_n 0, 1) := by decide +kernel
theorem dX5_alive_45 : decode cX5_alive 45 = .ok (.getfield 30, 3) := by decide +kernel
theorem dX5_alive_48 : decode cX5_alive 48 = .ok (.iload_n 3, 1) := by decide +kernel
theorem dX5_alive_49 : decode cX5_alive 49 = .ok (.iaload, 1) := by decide +kernel
theorem dX5_alive_50 : decode cX5_alive 50 = .ok (.iload_n 1, 1) := by decide +kernel
theorem dX5_alive_51 : decode cX5_alive 51 = .ok (.if_icmp .ne 7, 3) := by decide +kernel
theorem dX5_alive_54 : decode cX5_alive 54 = .ok (.iconst 1, 1) := by decide +kernel
theorem dX5_alive_55 : decode cX5_alive 55 = .ok (.goto 4, 3) := by decide +kernel
theorem dX5_alive_58 : decode cX5_alive 58 = .ok (.iconst 0, 1) := by decide +kernel
theorem dX5_alive_59 : decode cX5_alive 59 = .ok (.iadd, 1) := by decide +kernel
theorem dX5_alive_60 : decode cX5_alive 60 = .ok (.istore_n 2, 1) := by decide +kernel
theorem dX5_alive_61 : decode cX5_alive 61 = .ok (.iinc 3 1, 3) := by decide +kernel
theorem dX5_alive_64 : decode cX5_alive 64 = .ok (.goto (-38), 3) := by decide +kernel
theorem dX5_alive_67 : decode cX5_alive 67 = .ok (.iload_n 2, 1) := by decide +kernel
theorem dX5_alive_68 : decode cX5_alive 68 = .ok (.ireturn, 1) := by decide +kernel
theorem dX5_aliveInLog_0 : decode cX5_aliveInLog 0 = .ok (.iconst 0, 1) := by decide +kernel
theorem dX5_aliveInLog_1 : decode cX5_aliveInLog 1 = .ok (.istore_n 1, 1) := by decide +kernel
theorem dX5_aliveInLog_2 : decode cX5_aliveInLog 2 = .ok (.iconst 0, 1) := by decide +kernel
theorem dX5_aliveInLog_3 : decode cX5_aliveInLog 3 = .ok (.istore_n 2, 1) := by decide +kernel
theorem dX5_aliveInLog_4 : decode cX5_aliveInLog 4 = .ok (.iload_n 2, 1) := by decide +kernel
theorem dX5_aliveInLog_5 : decode cX5_aliveInLog 5 = .ok (.aload_n 0, 1) := by decide +kernel
theorem dX5_aliveInLog_6 : decode cX5_aliveInLog 6 = .ok (.getfield 96, 3) := by decide +kernel
theorem dX5_aliveInLog_9 : decode cX5_aliveInLog 9 = .ok (.if_icmp .ge 26, 3) := by decide +kernel
theorem dX5_aliveInLog_12 : decode cX5_aliveInLog 12 = .ok (.iload_n 1, 1) := by decide +kernel
theorem dX5_aliveInLog_13 : decode cX5_aliveInLog 13 = .ok (.aload_n 0, 1) := by decide +kernel
theorem dX5_aliveInLog_14 : decode cX5_aliveInLog 14 = .ok (.getfield 23, 3) := by decide +kernel
theorem dX5_aliveInLog_17 : decode cX5_aliveInLog 17 = .ok (.iload_n 2, 1) := by decide +kernel
theorem dX5_aliveInLog_18 : decode cX5_aliveInLog 18 = .ok (.baload, 1) := by decide +kernel
theorem dX5_aliveInLog_19 : decode cX5_aliveInLog 19 = .ok (.ifCond .eq 7, 3) := by decide +kernel
theorem dX5_aliveInLog_22 : decode cX5_aliveInLog 22 = .ok (.iconst 1, 1) := by decide +kernel
theorem dX5_aliveInLog_23 : decode cX5_aliveInLog 23 = .ok (.goto 4, 3) := by decide +kernel
theorem dX5_aliveInLog_26 : decode cX5_aliveInLog 26 = .ok (.iconst 0, 1) := by decide +kernel
theorem dX5_aliveInLog_27 : decode cX5_aliveInLog 27 = .ok (.iadd, 1) := by decide +kernel
theorem dX5_aliveInLog_28 : decode cX5_aliveInLog 28 = .ok (.istore_n 1, 1) := by decide +kernel
theorem dX5_aliveInLog_29 : decode cX5_aliveInLog 29 = .ok (.iinc 2 1, 3) := by decide +kernel
theorem dX5_aliveInLog_32 : decode cX5_aliveInLog 32 = .ok (.goto (-28), 3) := by decide +kernel
theorem dX5_aliveInLog_35 : decode cX5_aliveInLog 35 = .ok (.iload_n 1, 1) := by decide +kernel
theorem dX5_aliveInLog_36 : decode cX5_aliveInLog 36 = .ok (.ireturn, 1) := by decide +kernel
theorem dX5_inPages_0 : decode cX5_inPages 0 = .ok (.iconst 0, 1) := by decide +kernel
theorem dX5_inPages_1 : decode cX5_inPages 1 = .ok (.istore_n 1, 1) := by decide +kernel
theorem dX5_inPages_2 : decode cX5_inPages 2 = .ok (.iconst 0, 1) := by decide +kernel
theorem dX5_inPages_3 : decode cX5_inPages 3 = .ok (.istore_n 2, 1) := by decide +kernel
theorem dX5_inPages_4 : decode cX5_inPages 4 = .ok (.iload_n 2, 1) := by decide +kernel
theorem dX5_inPages_5 : decode cX5_inPages 5 = .ok (.bipush 64, 2) := by decide +kernel
theorem dX5_inPages_7 : decode cX5_inPages 7 = .ok (.if_icmp .ge 18, 3) := by decide +kernel
theorem dX5_inPages_10 : decode cX5_inPages 10 = .ok (.iload_n 1, 1) := by decide +kernel
theorem dX5_inPages_11 : decode cX5_inPages 11 = .ok (.aload_n 0, 1) := by decide +kernel
theorem dX5_inPages_12 : decode cX5_inPages 12 = .ok (.getfield 51, 3) := by decide +kernel
theorem dX5_inPages_15 : decode cX5_inPages 15 = .ok (.iload_n 2, 1) := by decide +kernel
theorem dX5_inPages_16 : decode cX5_inPages 16 = .ok (.iaload, 1) := by decide +kernel
theorem dX5_inPages_17 : decode cX5_inPages 17 = .ok (.iadd, 1) := by decide +kernel
theorem dX5_inPages_18 : decode cX5_inPages 18 = .ok (.istore_n 1, 1) := by decide +kernel
theorem dX5_inPages_19 : decode cX5_inPages 19 = .ok (.iinc 2 1, 3) := by decide +kernel
theorem dX5_inPages_22 : decode cX5_inPages 22 = .ok (.goto (-18), 3) := by decide +kernel
theorem dX5_inPages_25 : decode cX5_inPages 25 = .ok (.iload_n 1, 1) := by decide +kernel
theorem dX5_inPages_26 : decode cX5_inPages 26 = .ok (.ireturn, 1) := by decide +kernel
theorem dX5_count_0 : decode cX5_count 0 = .ok (.iload_n 1, 1) := by decide +kernel
theorem dX5_count_1 : decode cX5_count 1 = .ok (.ifCond .lt 16, 3) := by decide +kernel
theorem dX5_count_4 : decode cX5_count 4 = .ok (.iload_n 1, 1) := by decide +kernel
theorem dX5_count_5 : decode cX5_count 5 = .ok (.bipush 12, 2) := by decide +kernel
theorem dX5_count_7 : decode cX5_count 7 = .ok (.if_icmp .ge 10, 3) := by decide +kernel
theorem dX5_count_10 : decode cX5_count 10 = .ok (.aload_n 0, 1) := by decide +kernel
theorem dX5_count_11 : decode cX5_count 11 = .ok (.getfield 72, 3) := by decide +kernel
theorem dX5_count_14 : decode cX5_count 14 = .ok (.iload_n 1, 1) := by decide +kernel
theorem dX5_count_15 : decode cX5_count 15 = .ok (.iaload, 1) := by decide +kernel
theorem dX5_count_16 : decode cX5_count 16 = .ok (.ireturn, 1) := by decide +kernel
theorem dX5_count_17 : decode cX5_count 17 = .ok (.iload_n 1, 1) := by decide +kernel
theorem dX5_count_18 : decode cX5_count 18 = .ok (.tableswitch 81 12 17 #[38, 43, 48, 53, 58, 68], 38) := by decide +kernel
theorem dX5_count_56 : decode cX5_count 56 = .ok (.aload_n 0, 1) := by decide +kernel
theorem dX5_count_57 : decode cX5_count 57 = .ok (.invokevirtual 174, 3) := by decide +kernel
theorem dX5_count_60 : decode cX5_count 60 = .ok (.ireturn, 1) := by decide +kernel
theorem dX5_count_61 : decode cX5_count 61 = .ok (.aload_n 0, 1) := by decide +kernel
theorem dX5_count_62 : decode cX5_count 62 = .ok (.invokevirtual 177, 3) := by decide +kernel
theorem dX5_count_65 : decode cX5_count 65 = .ok (.ireturn, 1) := by decide +kernel
theorem dX5_count_66 : decode cX5_count 66 = .ok (.aload_n 0, 1) := by decide +kernel
theorem dX5_count_67 : decode cX5_count 67 = .ok (.getfield 100, 3) := by decide +kernel
theorem dX5_count_70 : decode cX5_count 70 = .ok (.ireturn, 1) := by decide +kernel
theorem dX5_count_71 : decode cX5_count 71 = .ok (.aload_n 0, 1) := by decide +kernel
theorem dX5_count_72 : decode cX5_count 72 = .ok (.getfield 106, 3) := by decide +kernel
theorem dX5_count_75 : decode cX5_count 75 = .ok (.ireturn, 1) := by decide +kernel
theorem dX5_count_76 : decode cX5_count 76 = .ok (.aload_n 0, 1) := by decide +kernel
theorem dX5_count_77 : decode cX5_count 77 = .ok (.getfield 33, 3) := by decide +kernel
theorem dX5_count_80 : decode cX5_count 80 = .ok (.aload_n 0, 1) := by decide +kernel
theorem dX5_count_81 : decode cX5_count 81 = .ok (.getfield 106, 3) := by decide +kernel
theorem dX5_count_84 : decode cX5_count 84 = .ok (.iaload, 1) := by decide +kernel
theorem dX5_count_85 : decode cX5_count 85 = .ok (.ireturn, 1) := by decide +kernel
theorem dX5_count_86 : decode cX5_count 86 = .ok (.aload_n 0, 1) := by decide +kernel
theorem dX5_count_87 : decode cX5_count 87 = .ok (.getfield 157, 3) := by decide +kernel
theorem dX5_count_90 : decode cX5_count 90 = .ok (.ifCond .eq 7, 3) := by decide +kernel
theorem dX5_count_93 : decode cX5_count 93 = .ok (.iconst 1, 1) := by decide +kernel
theorem dX5_count_94 : decode cX5_count 94 = .ok (.goto 4, 3) := by decide +kernel
theorem dX5_count_97 : decode cX5_count 97 = .ok (.iconst 0, 1) := by decide +kernel
theorem dX5_count_98 : decode cX5_count 98 = .ok (.ireturn, 1) := by decide +kernel
theorem dX5_count_99 : decode cX5_count 99 = .ok (.iconst (-1), 1) := by decide +kernel
theorem dX5_count_100 : decode cX5_count 100 = .ok (.ireturn, 1) := by decide +kernel
theorem dX5_close_0 : decode cX5_close 0 = .ok (.aload_n 0, 1) := by decide +kernel
theorem dX5_close_1 : decode cX5_close 1 = .ok (.getfield 157, 3) := by decide +kernel
theorem dX5_close_4 : decode cX5_close 4 = .ok (.ifCond .eq 6, 3) := by decide +kernel
theorem dX5_close_7 : decode cX5_close 7 = .ok (.bipush (-2), 2) := by decide +kernel
theorem dX5_close_9 : decode cX5_close 9 = .ok (.ireturn, 1) := by decide +kernel
theorem dX5_close_10 : decode cX5_close 10 = .ok (.aload_n 0, 1) := by decide +kernel
theorem dX5_close_11 : decode cX5_close 11 = .ok (.iconst 1, 1) := by decide +kernel
theorem dX5_close_12 : decode cX5_close 12 = .ok (.putfield 157, 3) := by decide +kernel
theorem dX5_close_15 : decode cX5_close 15 = .ok (.iconst 1, 1) := by decide +kernel
theorem dX5_close_16 : decode cX5_close 16 = .ok (.ireturn, 1) := by decide +kernel
theorem dX5_crash_0 : decode cX5_crash 0 = .ok (.aload_n 0, 1) := by decide +kernel
theorem dX5_crash_1 : decode cX5_crash 1 = .ok (.invokevirtual 174, 3) := by decide +kernel
theorem dX5_crash_4 : decode cX5_crash 4 = .ok (.istore_n 1, 1) := by decide +kernel
theorem dX5_crash_5 : decode cX5_crash 5 = .ok (.aload_n 0, 1) := by decide +kernel
theorem dX5_crash_6 : decode cX5_crash 6 = .ok (.iconst 0, 1) := by decide +kernel
theorem dX5_crash_7 : decode cX5_crash 7 = .ok (.putfield 96, 3) := by decide +kernel
theorem dX5_crash_10 : decode cX5_crash 10 = .ok (.aload_n 0, 1) := by decide +kernel
theorem dX5_crash_11 : decode cX5_crash 11 = .ok (.iconst 0, 1) := by decide +kernel
theorem dX5_crash_12 : decode cX5_crash 12 = .ok (.putfield 106, 3) := by decide +kernel
theorem dX5_crash_15 : decode cX5_crash 15 = .ok (.aload_n 0, 1) := by decide +kernel
theorem dX5_crash_16 : decode cX5_crash 16 = .ok (.iconst 0, 1) := by decide +kernel
theorem dX5_crash_17 : decode cX5_crash 17 = .ok (.putfield 100, 3) := by decide +kernel
theorem dX5_crash_20 : decode cX5_crash 20 = .ok (.iconst 0, 1) := by decide +kernel
theorem dX5_crash_21 : decode cX5_crash 21 = .ok (.istore_n 2, 1) := by decide +kernel
theorem dX5_crash_22 : decode cX5_crash 22 = .ok (.iload_n 2, 1) := by decide +kernel
theorem dX5_crash_23 : decode cX5_crash 23 = .ok (.bipush 64, 2) := by decide +kernel
theorem dX5_crash_25 : decode cX5_crash 25 = .ok (.if_icmp .ge 26, 3) := by decide +kernel
theorem dX5_crash_28 : decode cX5_crash 28 = .ok (.aload_n 0, 1) := by decide +kernel
theorem dX5_crash_29 : decode cX5_crash 29 = .ok (.getfield 51, 3) := by decide +kernel
theorem dX5_crash_32 : decode cX5_crash 32 = .ok (.iload_n 2, 1) := by decide +kernel
theorem dX5_crash_33 : decode cX5_crash 33 = .ok (.iconst 0, 1) := by decide +kernel
theorem dX5_crash_34 : decode cX5_crash 34 = .ok (.iastore, 1) := by decide +kernel
theorem dX5_crash_35 : decode cX5_crash 35 = .ok (.aload_n 0, 1) := by decide +kernel
theorem dX5_crash_36 : decode cX5_crash 36 = .ok (.getfield 33, 3) := by decide +kernel
theorem dX5_crash_39 : decode cX5_crash 39 = .ok (.iload_n 2, 1) := by decide +kernel
theorem dX5_crash_40 : decode cX5_crash 40 = .ok (.bipush 8, 2) := by decide +kernel
theorem dX5_crash_42 : decode cX5_crash 42 = .ok (.irem, 1) := by decide +kernel
theorem dX5_crash_43 : decode cX5_crash 43 = .ok (.iconst 0, 1) := by decide +kernel
theorem dX5_crash_44 : decode cX5_crash 44 = .ok (.iastore, 1) := by decide +kernel
theorem dX5_crash_45 : decode cX5_crash 45 = .ok (.iinc 2 1, 3) := by decide +kernel
theorem dX5_crash_48 : decode cX5_crash 48 = .ok (.goto (-26), 3) := by decide +kernel
theorem dX5_crash_51 : decode cX5_crash 51 = .ok (.aload_n 0, 1) := by decide +kernel
theorem dX5_crash_52 : decode cX5_crash 52 = .ok (.iconst 1, 1) := by decide +kernel
theorem dX5_crash_53 : decode cX5_crash 53 = .ok (.putfield 157, 3) := by decide +kernel
theorem dX5_crash_56 : decode cX5_crash 56 = .ok (.iload_n 1, 1) := by decide +kernel
theorem dX5_crash_57 : decode cX5_crash 57 = .ok (.ireturn, 1) := by decide +kernel
theorem dX5_open_0 : decode cX5_open 0 = .ok (.aload_n 0, 1) := by decide +kernel
theorem dX5_open_1 : decode cX5_open 1 = .ok (.getfield 157, 3) := by decide +kernel
theorem dX5_open_4 : decode cX5_open 4 = .ok (.ifCond .ne 5, 3) := by decide +kernel
theorem dX5_open_7 : decode cX5_open 7 = .ok (.iconst (-1), 1) := by decide +kernel
theorem dX5_open_8 : decode cX5_open 8 = .ok (.ireturn, 1) := by decide +kernel
theorem dX5_open_9 : decode cX5_open 9 = .ok (.aload_n 0, 1) := by decide +kernel
theorem dX5_open_10 : decode cX5_open 10 = .ok (.iconst 0, 1) := by decide +kernel
theorem dX5_open_11 : decode cX5_open 11 = .ok (.putfield 157, 3) := by decide +kernel
theorem dX5_open_14 : decode cX5_open 14 = .ok (.aload_n 0, 1) := by decide +kernel
theorem dX5_open_15 : decode cX5_open 15 = .ok (.invokevirtual 174, 3) := by decide +kernel
theorem dX5_open_18 : decode cX5_open 18 = .ok (.ireturn, 1) := by decide +kernel
theorem dX5_check_0 : decode cX5_check 0 = .ok (.aload_n 0, 1) := by decide +kernel
theorem dX5_check_1 : decode cX5_check 1 = .ok (.getfield 157, 3) := by decide +kernel
theorem dX5_check_4 : decode cX5_check 4 = .ok (.ifCond .eq 6, 3) := by decide +kernel
theorem dX5_check_7 : decode cX5_check 7 = .ok (.bipush (-2), 2) := by decide +kernel
theorem dX5_check_9 : decode cX5_check 9 = .ok (.ireturn, 1) := by decide +kernel
theorem dX5_check_10 : decode cX5_check 10 = .ok (.iconst 0, 1) := by decide +kernel
theorem dX5_check_11 : decode cX5_check 11 = .ok (.istore_n 1, 1) := by decide +kernel
theorem dX5_check_12 : decode cX5_check 12 = .ok (.iconst 0, 1) := by decide +kernel
theorem dX5_check_13 : decode cX5_check 13 = .ok (.istore_n 2, 1) := by decide +kernel
theorem dX5_check_14 : decode cX5_check 14 = .ok (.iconst 0, 1) := by decide +kernel
theorem dX5_check_15 : decode cX5_check 15 = .ok (.istore_n 3, 1) := by decide +kernel
theorem dX5_check_16 : decode cX5_check 16 = .ok (.iconst 0, 1) := by decide +kernel
theorem dX5_check_17 : decode cX5_check 17 = .ok (.istore 4, 2) := by decide +kernel
theorem dX5_check_19 : decode cX5_check 19 = .ok (.iload 4, 2) := by decide +kernel
theorem dX5_check_21 : decode cX5_check 21 = .ok (.aload_n 0, 1) := by decide +kernel
theorem dX5_check_22 : decode cX5_check 22 = .ok (.getfield 96, 3) := by decide +kernel
theorem dX5_check_25 : decode cX5_check 25 = .ok (.if_icmp .ge 43, 3) := by decide +kernel
theorem dX5_check_28 : decode cX5_check 28 = .ok (.iload_n 1, 1) := by decide +kernel
theorem dX5_check_29 : decode cX5_check 29 = .ok (.aload_n 0, 1) := by decide +kernel
theorem dX5_check_30 : decode cX5_check 30 = .ok (.getfield 23, 3) := by decide +kernel
theorem dX5_check_33 : decode cX5_check 33 = .ok (.iload 4, 2) := by decide +kernel
theorem dX5_check_35 : decode cX5_check 35 = .ok (.baload, 1) := by decide +kernel
theorem dX5_check_36 : decode cX5_check 36 = .ok (.ifCond .eq 23, 3) := by decide +kernel
theorem dX5_check_39 : decode cX5_check 39 = .ok (.aload_n 0, 1) := by decide +kernel
theorem dX5_check_40 : decode cX5_check 40 = .ok (.aload_n 0, 1) := by decide +kernel
theorem dX5_check_41 : decode cX5_check 41 = .ok (.getfield 7, 3) := by decide +kernel
theorem dX5_check_44 : decode cX5_check 44 = .ok (.iload 4, 2) := by decide +kernel
theorem dX5_check_46 : decode cX5_check 46 = .ok (.laload, 1) := by decide +kernel
theorem dX5_check_47 : decode cX5_check 47 = .ok (.invokevirtual 133, 3) := by decide +kernel
theorem dX5_check_50 : decode cX5_check 50 = .ok (.iload 4, 2) := by decide +kernel
theorem dX5_check_52 : decode cX5_check 52 = .ok (.if_icmp .eq 7, 3) := by decide +kernel
theorem dX5_check_55 : decode cX5_check 55 = .ok (.iconst 1, 1) := by decide +kernel
theorem dX5_check_56 : decode cX5_check 56 = .ok (.goto 4, 3) := by decide +kernel
theorem dX5_check_59 : decode cX5_check 59 = .ok (.iconst 0, 1) := by decide +kernel
theorem dX5_check_60 : decode cX5_check 60 = .ok (.ior, 1) := by decide +kernel
theorem dX5_check_61 : decode cX5_check 61 = .ok (.istore_n 1, 1) := by decide +kernel
theorem dX5_check_62 : decode cX5_check 62 = .ok (.iinc 4 1, 3) := by decide +kernel
theorem dX5_check_65 : decode cX5_check 65 = .ok (.goto (-46), 3) := by decide +kernel
theorem dX5_check_68 : decode cX5_check 68 = .ok (.iconst 0, 1) := by decide +kernel
theorem dX5_check_69 : decode cX5_check 69 = .ok (.istore 4, 2) := by decide +kernel
theorem dX5_check_71 : decode cX5_check 71 = .ok (.iload 4, 2) := by decide +kernel
theorem dX5_check_73 : decode cX5_check 73 = .ok (.bipush 64, 2) := by decide +kernel
theorem dX5_check_75 : decode cX5_check 75 = .ok (.if_icmp .ge 104, 3) := by decide +kernel
theorem dX5_check_78 : decode cX5_check 78 = .ok (.iconst 0, 1) := by decide +kernel
theorem dX5_check_79 : decode cX5_check 79 = .ok (.istore 5, 2) := by decide +kernel
theorem dX5_check_81 : decode cX5_check 81 = .ok (.iconst 0, 1) := by decide +kernel
theorem dX5_check_82 : decode cX5_check 82 = .ok (.istore 6, 2) := by decide +kernel
theorem dX5_check_84 : decode cX5_check 84 = .ok (.iload 6, 2) := by decide +kernel
theorem dX5_check_86 : decode cX5_check 86 = .ok (.aload_n 0, 1) := by decide +kernel
theorem dX5_check_87 : decode cX5_check 87 = .ok (.getfield 51, 3) := by decide +kernel
theorem dX5_check_90 : decode cX5_check 90 = .ok (.iload 4, 2) := by decide +kernel
theorem dX5_check_92 : decode cX5_check 92 = .ok (.iaload, 1) := by decide +kernel
theorem dX5_check_93 : decode cX5_check 93 = .ok (.if_icmp .ge 65, 3) := by decide +kernel
theorem dX5_check_96 : decode cX5_check 96 = .ok (.iload 5, 2) := by decide +kernel
theorem dX5_check_98 : decode cX5_check 98 = .ok (.iconst 3, 1) := by decide +kernel
theorem dX5_check_99 : decode cX5_check 99 = .ok (.aload_n 0, 1) := by decide +kernel
theorem dX5_check_100 : decode cX5_check 100 = .ok (.getfield 39, 3) := by decide +kernel
theorem dX5_check_103 : decode cX5_check 103 = .ok (.bipush 8, 2) := by decide +kernel
theorem dX5_check_105 : decode cX5_check 105 = .ok (.iload 4, 2) := by decide +kernel
theorem dX5_check_107 : decode cX5_check 107 = .ok (.imul, 1) := by decide +kernel
theorem dX5_check_108 : decode cX5_check 108 = .ok (.iload 6, 2) := by decide +kernel
theorem dX5_check_110 : decode cX5_check 110 = .ok (.iadd, 1) := by decide +kernel
theorem dX5_check_111 : decode cX5_check 111 = .ok (.iaload, 1) := by decide +kernel
theorem dX5_check_112 : decode cX5_check 112 = .ok (.iadd, 1) := by decide +kernel
theorem dX5_check_113 : decode cX5_check 113 = .ok (.iadd, 1) := by decide +kernel
theorem dX5_check_114 : decode cX5_check 114 = .ok (.istore 5, 2) := by decide +kernel
theorem dX5_check_116 : decode cX5_check 116 = .ok (.iload_n 3, 1) := by decide +kernel
theorem dX5_check_117 : decode cX5_check 117 = .ok (.aload_n 0, 1) := by decide +kernel
theorem dX5_check_118 : decode cX5_check 118 = .ok (.aload_n 0, 1) := by decide +kernel
theorem dX5_check_119 : decode cX5_check 119 = .ok (.getfield 36, 3) := by decide +kernel
theorem dX5_check_122 : decode cX5_check 122 = .ok (.bipush 8, 2) := by decide +kernel
theorem dX5_check_124 : decode cX5_check 124 = .ok (.iload 4, 2) := by decide +kernel
theorem dX5_check_126 : decode cX5_check 126 = .ok (.imul, 1) := by decide +kernel
theorem dX5_check_127 : decode cX5_check 127 = .ok (.iload 6, 2) := by decide +kernel
theorem dX5_check_129 : decode cX5_check 129 = .ok (.iadd, 1) := by decide +kernel
theorem dX5_check_130 : decode cX5_check 130 = .ok (.laload, 1) := by decide +kernel
theorem dX5_check_131 : decode cX5_check 131 = .ok (.invokevirtual 154, 3) := by decide +kernel
theorem dX5_check_134 : decode cX5_check 134 = .ok (.bipush 8, 2) := by decide +kernel
theorem dX5_check_136 : decode cX5_check 136 = .ok (.iload 4, 2) := by decide +kernel
theorem dX5_check_138 : decode cX5_check 138 = .ok (.imul, 1) := by decide +kernel
theorem dX5_check_139 : decode cX5_check 139 = .ok (.iload 6, 2) := by decide +kernel
theorem dX5_check_141 : decode cX5_check 141 = .ok (.iadd, 1) := by decide +kernel
theorem dX5_check_142 : decode cX5_check 142 = .ok (.if_icmp .eq 7, 3) := by decide +kernel
theorem dX5_check_145 : decode cX5_check 145 = .ok (.iconst 1, 1) := by decide +kernel
theorem dX5_check_146 : decode cX5_check 146 = .ok (.goto 4, 3) := by decide +kernel
theorem dX5_check_149 : decode cX5_check 149 = .ok (.iconst 0, 1) := by decide +kernel
theorem dX5_check_150 : decode cX5_check 150 = .ok (.ior, 1) := by decide +kernel
theorem dX5_check_151 : decode cX5_check 151 = .ok (.istore_n 3, 1) := by decide +kernel
theorem dX5_check_152 : decode cX5_check 152 = .ok (.iinc 6 1, 3) := by decide +kernel
theorem dX5_check_155 : decode cX5_check 155 = .ok (.goto (-71), 3) := by decide +kernel
theorem dX5_check_158 : decode cX5_check 158 = .ok (.iload_n 2, 1) := by decide +kernel
theorem dX5_check_159 : decode cX5_check 159 = .ok (.iload 5, 2) := by decide +kernel
theorem dX5_check_161 : decode cX5_check 161 = .ok (.bipush 32, 2) := by decide +kernel
theorem dX5_check_163 : decode cX5_check 163 = .ok (.if_icmp .le 7, 3) := by decide +kernel
theorem dX5_check_166 : decode cX5_check 166 = .ok (.iconst 1, 1) := by decide +kernel
theorem dX5_check_167 : decode cX5_check 167 = .ok (.goto 4, 3) := by decide +kernel
theorem dX5_check_170 : decode cX5_check 170 = .ok (.iconst 0, 1) := by decide +kernel
theorem dX5_check_171 : decode cX5_check 171 = .ok (.ior, 1) := by decide +kernel
theorem dX5_check_172 : decode cX5_check 172 = .ok (.istore_n 2, 1) := by decide +kernel
theorem dX5_check_173 : decode cX5_check 173 = .ok (.iinc 4 1, 3) := by decide +kernel
theorem dX5_check_176 : decode cX5_check 176 = .ok (.goto (-105), 3) := by decide +kernel
theorem dX5_check_179 : decode cX5_check 179 = .ok (.iload_n 1, 1) := by decide +kernel
theorem dX5_check_180 : decode cX5_check 180 = .ok (.iload_n 2, 1) := by decide +kernel
theorem dX5_check_181 : decode cX5_check 181 = .ok (.iadd, 1) := by decide +kernel
theorem dX5_check_182 : decode cX5_check 182 = .ok (.iload_n 3, 1) := by decide +kernel
theorem dX5_check_183 : decode cX5_check 183 = .ok (.iadd, 1) := by decide +kernel
theorem dX5_check_184 : decode cX5_check 184 = .ok (.ireturn, 1) := by decide +kernel
end
section
theorem dL_law_0 : decode cL_law 0 = .ok (.new 7, 3) := by decide +kernel
theorem dL_law_3 : decode cL_law 3 = .ok (.dup, 1) := by decide +kernel
theorem dL_law_4 : decode cL_law 4 = .ok (.invokespecial 9, 3) := by decide +kernel
theorem dL_law_7 : decode cL_law 7 = .ok (.astore_n 1, 1) := by decide +kernel
theorem dL_law_8 : decode cL_law 8 = .ok (.new 10, 3) := by decide +kernel
theorem dL_law_11 : decode cL_law 11 = .ok (.dup, 1) := by decide +kernel
theorem dL_law_12 : decode cL_law 12 = .ok (.invokespecial 12, 3) := by decide +kernel
theorem dL_law_15 : decode cL_law 15 = .ok (.astore_n 2, 1) := by decide +kernel
theorem dL_law_16 : decode cL_law 16 = .ok (.iconst 0, 1) := by decide +kernel
theorem dL_law_17 : decode cL_law 17 = .ok (.istore_n 3, 1) := by decide +kernel
theorem dL_law_18 : decode cL_law 18 = .ok (.iload_n 3, 1) := by decide +kernel
theorem dL_law_19 : decode cL_law 19 = .ok (.aload_n 0, 1) := by decide +kernel
theorem dL_law_20 : decode cL_law 20 = .ok (.arraylength, 1) := by decide +kernel
theorem dL_law_21 : decode cL_law 21 = .ok (.bipush 6, 2) := by decide +kernel
theorem dL_law_23 : decode cL_law 23 = .ok (.isub, 1) := by decide +kernel
theorem dL_law_24 : decode cL_law 24 = .ok (.if_icmp .gt 760, 3) := by decide +kernel
theorem dL_law_27 : decode cL_law 27 = .ok (.aload_n 0, 1) := by decide +kernel
theorem dL_law_28 : decode cL_law 28 = .ok (.iload_n 3, 1) := by decide +kernel
theorem dL_law_29 : decode cL_law 29 = .ok (.iaload, 1) := by decide +kernel
theorem dL_law_30 : decode cL_law 30 = .ok (.bipush 31, 2) := by decide +kernel
theorem dL_law_32 : decode cL_law 32 = .ok (.iand, 1) := by decide +kernel
theorem dL_law_33 : decode cL_law 33 = .ok (.tableswitch 745 0 17 #[87, 170, 223, 246, 299, 353, 407, 460, 513, 566, 589, 623, 647, 670, 693, 706, 719, 732], 87) := by decide +kernel
theorem dL_law_120 : decode cL_law 120 = .ok (.aload_n 1, 1) := by decide +kernel
theorem dL_law_121 : decode cL_law 121 = .ok (.aload_n 0, 1) := by decide +kernel
theorem dL_law_122 : decode cL_law 122 = .ok (.iload_n 3, 1) := by decide +kernel
theorem dL_law_123 : decode cL_law 123 = .ok (.iconst 1, 1) := by decide +kernel
theorem dL_law_124 : decode cL_law 124 = .ok (.iadd, 1) := by decide +kernel
theorem dL_law_125 : decode cL_law 125 = .ok (.iaload, 1) := by decide +kernel
theorem dL_law_126 : decode cL_law 126 = .ok (.i2l, 1) := by decide +kernel
theorem dL_law_127 : decode cL_law 127 = .ok (.bipush 32, 2) := by decide +kernel
theorem dL_law_129 : decode cL_law 129 = .ok (.lshl, 1) := by decide +kernel
theorem dL_law_130 : decode cL_law 130 = .ok (.aload_n 0, 1) := by decide +kernel
theorem dL_law_131 : decode cL_law 131 = .ok (.iload_n 3, 1) := by decide +kernel
theorem dL_law_132 : decode cL_law 132 = .ok (.iconst 2, 1) := by decide +kernel
theorem dL_law_133 : decode cL_law 133 = .ok (.iadd, 1) := by decide +kernel
theorem dL_law_134 : decode cL_law 134 = .ok (.iaload, 1) := by decide +kernel
theorem dL_law_135 : decode cL_law 135 = .ok (.i2l, 1) := by decide +kernel
theorem dL_law_136 : decode cL_law 136 = .ok (.ldc2_w 13, 3) := by decide +kernel
theorem dL_law_139 : decode cL_law 139 = .ok (.land, 1) := by decide +kernel
theorem dL_law_140 : decode cL_law 140 = .ok (.lor, 1) := by decide +kernel
theorem dL_law_141 : decode cL_law 141 = .ok (.aload_n 0, 1) := by decide +kernel
theorem dL_law_142 : decode cL_law 142 = .ok (.iload_n 3, 1) := by decide +kernel
theorem dL_law_143 : decode cL_law 143 = .ok (.iconst 3, 1) := by decide +kernel
theorem dL_law_144 : decode cL_law 144 = .ok (.iadd, 1) := by decide +kernel
theorem dL_law_145 : decode cL_law 145 = .ok (.iaload, 1) := by decide +kernel
theorem dL_law_146 : decode cL_law 146 = .ok (.aload_n 0, 1) := by decide +kernel
theorem dL_law_147 : decode cL_law 147 = .ok (.iload_n 3, 1) := by decide +kernel
theorem dL_law_148 : decode cL_law 148 = .ok (.iconst 4, 1) := by decide +kernel
theorem dL_law_149 : decode cL_law 149 = .ok (.iadd, 1) := by decide +kernel
theorem dL_law_150 : decode cL_law 150 = .ok (.iaload, 1) := by decide +kernel
theorem dL_law_151 : decode cL_law 151 = .ok (.aload_n 0, 1) := by decide +kernel
theorem dL_law_152 : decode cL_law 152 = .ok (.iload_n 3, 1) := by decide +kernel
theorem dL_law_153 : decode cL_law 153 = .ok (.iconst 5, 1) := by decide +kernel
theorem dL_law_154 : decode cL_law 154 = .ok (.iadd, 1) := by decide +kernel
theorem dL_law_155 : decode cL_law 155 = .ok (.iaload, 1) := by decide +kernel
theorem dL_law_156 : decode cL_law 156 = .ok (.invokevirtual 15, 3) := by decide +kernel
theorem dL_law_159 : decode cL_law 159 = .ok (.aload_n 2, 1) := by decide +kernel
theorem dL_law_160 : decode cL_law 160 = .ok (.aload_n 0, 1) := by decide +kernel
theorem dL_law_161 : decode cL_law 161 = .ok (.iload_n 3, 1) := by decide +kernel
theorem dL_law_162 : decode cL_law 162 = .ok (.iconst 1, 1) := by decide +kernel
theorem dL_law_163 : decode cL_law 163 = .ok (.iadd, 1) := by decide +kernel
theorem dL_law_164 : decode cL_law 164 = .ok (.iaload, 1) := by decide +kernel
theorem dL_law_165 : decode cL_law 165 = .ok (.i2l, 1) := by decide +kernel
theorem dL_law_166 : decode cL_law 166 = .ok (.bipush 32, 2) := by decide +kernel
theorem dL_law_168 : decode cL_law 168 = .ok (.lshl, 1) := by decide +kernel
theorem dL_law_169 : decode cL_law 169 = .ok (.aload_n 0, 1) := by decide +kernel
theorem dL_law_170 : decode cL_law 170 = .ok (.iload_n 3, 1) := by decide +kernel
theorem dL_law_171 : decode cL_law 171 = .ok (.iconst 2, 1) := by decide +kernel
theorem dL_law_172 : decode cL_law 172 = .ok (.iadd, 1) := by decide +kernel
theorem dL_law_173 : decode cL_law 173 = .ok (.iaload, 1) := by decide +kernel
theorem dL_law_174 : decode cL_law 174 = .ok (.i2l, 1) := by decide +kernel
theorem dL_law_175 : decode cL_law 175 = .ok (.ldc2_w 13, 3) := by decide +kernel
theorem dL_law_178 : decode cL_law 178 = .ok (.land, 1) := by decide +kernel
theorem dL_law_179 : decode cL_law 179 = .ok (.lor, 1) := by decide +kernel
theorem dL_law_180 : decode cL_law 180 = .ok (.aload_n 0, 1) := by decide +kernel
theorem dL_law_181 : decode cL_law 181 = .ok (.iload_n 3, 1) := by decide +kernel
theorem dL_law_182 : decode cL_law 182 = .ok (.iconst 3, 1) := by decide +kernel
theorem dL_law_183 : decode cL_law 183 = .ok (.iadd, 1) := by decide +kernel
theorem dL_law_184 : decode cL_law 184 = .ok (.iaload, 1) := by decide +kernel
theorem dL_law_185 : decode cL_law 185 = .ok (.aload_n 0, 1) := by decide +kernel
theorem dL_law_186 : decode cL_law 186 = .ok (.iload_n 3, 1) := by decide +kernel
theorem dL_law_187 : decode cL_law 187 = .ok (.iconst 4, 1) := by decide +kernel
theorem dL_law_188 : decode cL_law 188 = .ok (.iadd, 1) := by decide +kernel
theorem dL_law_189 : decode cL_law 189 = .ok (.iaload, 1) := by decide +kernel
theorem dL_law_190 : decode cL_law 190 = .ok (.aload_n 0, 1) := by decide +kernel
theorem dL_law_191 : decode cL_law 191 = .ok (.iload_n 3, 1) := by decide +kernel
theorem dL_law_192 : decode cL_law 192 = .ok (.iconst 5, 1) := by decide +kernel
theorem dL_law_193 : decode cL_law 193 = .ok (.iadd, 1) := by decide +kernel
theorem dL_law_194 : decode cL_law 194 = .ok (.iaload, 1) := by decide +kernel
theorem dL_law_195 : decode cL_law 195 = .ok (.invokevirtual 19, 3) := by decide +kernel
theorem dL_law_198 : decode cL_law 198 = .ok (.if_icmp .eq 580, 3) := by decide +kernel
theorem dL_law_201 : decode cL_law 201 = .ok (.iconst 0, 1) := by decide +kernel
theorem dL_law_202 : decode cL_law 202 = .ok (.ireturn, 1) := by decide +kernel
theorem dL_law_203 : decode cL_law 203 = .ok (.aload_n 1, 1) := by decide +kernel
theorem dL_law_204 : decode cL_law 204 = .ok (.aload_n 0, 1) := by decide +kernel
theorem dL_law_205 : decode cL_law 205 = .ok (.iload_n 3, 1) := by decide +kernel
theorem dL_law_206 : decode cL_law 206 = .ok (.iconst 1, 1) := by decide +kernel
theorem dL_law_207 : decode cL_law 207 = .ok (.iadd, 1) := by decide +kernel
theorem dL_law_208 : decode cL_law 208 = .ok (.iaload, 1) := by decide +kernel
theorem dL_law_209 : decode cL_law 209 = .ok (.i2l, 1) := by decide +kernel
theorem dL_law_210 : decode cL_law 210 = .ok (.bipush 32, 2) := by decide +kernel
theorem dL_law_212 : decode cL_law 212 = .ok (.lshl, 1) := by decide +kernel
theorem dL_law_213 : decode cL_law 213 = .ok (.aload_n 0, 1) := by decide +kernel
theorem dL_law_214 : decode cL_law 214 = .ok (.iload_n 3, 1) := by decide +kernel
theorem dL_law_215 : decode cL_law 215 = .ok (.iconst 2, 1) := by decide +kernel
theorem dL_law_216 : decode cL_law 216 = .ok (.iadd, 1) := by decide +kernel
theorem dL_law_217 : decode cL_law 217 = .ok (.iaload, 1) := by decide +kernel
theorem dL_law_218 : decode cL_law 218 = .ok (.i2l, 1) := by decide +kernel
theorem dL_law_219 : decode cL_law 219 = .ok (.ldc2_w 13, 3) := by decide +kernel
theorem dL_law_222 : decode cL_law 222 = .ok (.land, 1) := by decide +kernel
theorem dL_law_223 : decode cL_law 223 = .ok (.lor, 1) := by decide +kernel
theorem dL_law_224 : decode cL_law 224 = .ok (.invokevirtual 20, 3) := by decide +kernel
theorem dL_law_227 : decode cL_law 227 = .ok (.aload_n 2, 1) := by decide +kernel
theorem dL_law_228 : decode cL_law 228 = .ok (.aload_n 0, 1) := by decide +kernel
theorem dL_law_229 : decode cL_law 229 = .ok (.iload_n 3, 1) := by decide +kernel
theorem dL_law_230 : decode cL_law 230 = .ok (.iconst 1, 1) := by decide +kernel
theorem dL_law_231 : decode cL_law 231 = .ok (.iadd, 1) := by decide +kernel
theorem dL_law_232 : decode cL_law 232 = .ok (.iaload, 1) := by decide +kernel
theorem dL_law_233 : decode cL_law 233 = .ok (.i2l, 1) := by decide +kernel
theorem dL_law_234 : decode cL_law 234 = .ok (.bipush 32, 2) := by decide +kernel
theorem dL_law_236 : decode cL_law 236 = .ok (.lshl, 1) := by decide +kernel
theorem dL_law_237 : decode cL_law 237 = .ok (.aload_n 0, 1) := by decide +kernel
theorem dL_law_238 : decode cL_law 238 = .ok (.iload_n 3, 1) := by decide +kernel
theorem dL_law_239 : decode cL_law 239 = .ok (.iconst 2, 1) := by decide +kernel
theorem dL_law_240 : decode cL_law 240 = .ok (.iadd, 1) := by decide +kernel
theorem dL_law_241 : decode cL_law 241 = .ok (.iaload, 1) := by decide +kernel
theorem dL_law_242 : decode cL_law 242 = .ok (.i2l, 1) := by decide +kernel
theorem dL_law_243 : decode cL_law 243 = .ok (.ldc2_w 13, 3) := by decide +kernel
theorem dL_law_246 : decode cL_law 246 = .ok (.land, 1) := by decide +kernel
theorem dL_law_247 : decode cL_law 247 = .ok (.lor, 1) := by decide +kernel
theorem dL_law_248 : decode cL_law 248 = .ok (.invokevirtual 24, 3) := by decide +kernel
theorem dL_law_251 : decode cL_law 251 = .ok (.if_icmp .eq 527, 3) := by decide +kernel
theorem dL_law_254 : decode cL_law 254 = .ok (.iconst 0, 1) := by decide +kernel
theorem dL_law_255 : decode cL_law 255 = .ok (.ireturn, 1) := by decide +kernel
theorem dL_law_256 : decode cL_law 256 = .ok (.aload_n 1, 1) := by decide +kernel
theorem dL_law_257 : decode cL_law 257 = .ok (.aload_n 0, 1) := by decide +kernel
theorem dL_law_258 : decode cL_law 258 = .ok (.iload_n 3, 1) := by decide +kernel
theorem dL_law_259 : decode cL_law 259 = .ok (.iconst 1, 1) := by decide +kernel
theorem dL_law_260 : decode cL_law 260 = .ok (.iadd, 1) := by decide +kernel
theorem dL_law_261 : decode cL_law 261 = .ok (.iaload, 1) := by decide +kernel
theorem dL_law_262 : decode cL_law 262 = .ok (.invokevirtual 25, 3) := by decide +kernel
theorem dL_law_265 : decode cL_law 265 = .ok (.aload_n 2, 1) := by decide +kernel
theorem dL_law_266 : decode cL_law 266 = .ok (.aload_n 0, 1) := by decide +kernel
theorem dL_law_267 : decode cL_law 267 = .ok (.iload_n 3, 1) := by decide +kernel
theorem dL_law_268 : decode cL_law 268 = .ok (.iconst 1, 1) := by decide +kernel
theorem dL_law_269 : decode cL_law 269 = .ok (.iadd, 1) := by decide +kernel
theorem dL_law_270 : decode cL_law 270 = .ok (.iaload, 1) := by decide +kernel
theorem dL_law_271 : decode cL_law 271 = .ok (.invokevirtual 29, 3) := by decide +kernel
theorem dL_law_274 : decode cL_law 274 = .ok (.if_icmp .eq 504, 3) := by decide +kernel
theorem dL_law_277 : decode cL_law 277 = .ok (.iconst 0, 1) := by decide +kernel
theorem dL_law_278 : decode cL_law 278 = .ok (.ireturn, 1) := by decide +kernel
theorem dL_law_279 : decode cL_law 279 = .ok (.aload_n 1, 1) := by decide +kernel
theorem dL_law_280 : decode cL_law 280 = .ok (.aload_n 0, 1) := by decide +kernel
theorem dL_law_281 : decode cL_law 281 = .ok (.iload_n 3, 1) := by decide +kernel
theorem dL_law_282 : decode cL_law 282 = .ok (.iconst 1, 1) := by decide +kernel
theorem dL_law_283 : decode cL_law 283 = .ok (.iadd, 1) := by decide +kernel
theorem dL_law_284 : decode cL_law 284 = .ok (.iaload, 1) := by decide +kernel
theorem dL_law_285 : decode cL_law 285 = .ok (.i2l, 1) := by decide +kernel
theorem dL_law_286 : decode cL_law 286 = .ok (.bipush 32, 2) := by decide +kernel
theorem dL_law_288 : decode cL_law 288 = .ok (.lshl, 1) := by decide +kernel
theorem dL_law_289 : decode cL_law 289 = .ok (.aload_n 0, 1) := by decide +kernel
theorem dL_law_290 : decode cL_law 290 = .ok (.iload_n 3, 1) := by decide +kernel
theorem dL_law_291 : decode cL_law 291 = .ok (.iconst 2, 1) := by decide +kernel
theorem dL_law_292 : decode cL_law 292 = .ok (.iadd, 1) := by decide +kernel
theorem dL_law_293 : decode cL_law 293 = .ok (.iaload, 1) := by decide +kernel
theorem dL_law_294 : decode cL_law 294 = .ok (.i2l, 1) := by decide +kernel
theorem dL_law_295 : decode cL_law 295 = .ok (.ldc2_w 13, 3) := by decide +kernel
theorem dL_law_298 : decode cL_law 298 = .ok (.land, 1) := by decide +kernel
theorem dL_law_299 : decode cL_law 299 = .ok (.lor, 1) := by decide +kernel
theorem dL_law_300 : decode cL_law 300 = .ok (.invokevirtual 30, 3) := by decide +kernel
theorem dL_law_303 : decode cL_law 303 = .ok (.aload_n 2, 1) := by decide +kernel
theorem dL_law_304 : decode cL_law 304 = .ok (.aload_n 0, 1) := by decide +kernel
theorem dL_law_305 : decode cL_law 305 = .ok (.iload_n 3, 1) := by decide +kernel
theorem dL_law_306 : decode cL_law 306 = .ok (.iconst 1, 1) := by decide +kernel
theorem dL_law_307 : decode cL_law 307 = .ok (.iadd, 1) := by decide +kernel
theorem dL_law_308 : decode cL_law 308 = .ok (.iaload, 1) := by decide +kernel
theorem dL_law_309 : decode cL_law 309 = .ok (.i2l, 1) := by decide +kernel
theorem dL_law_310 : decode cL_law 310 = .ok (.bipush 32, 2) := by decide +kernel
theorem dL_law_312 : decode cL_law 312 = .ok (.lshl, 1) := by decide +kernel
theorem dL_law_313 : decode cL_law 313 = .ok (.aload_n 0, 1) := by decide +kernel
theorem dL_law_314 : decode cL_law 314 = .ok (.iload_n 3, 1) := by decide +kernel
theorem dL_law_315 : decode cL_law 315 = .ok (.iconst 2, 1) := by decide +kernel
theorem dL_law_316 : decode cL_law 316 = .ok (.iadd, 1) := by decide +kernel
theorem dL_law_317 : decode cL_law 317 = .ok (.iaload, 1) := by decide +kernel
theorem dL_law_318 : decode cL_law 318 = .ok (.i2l, 1) := by decide +kernel
theorem dL_law_319 : decode cL_law 319 = .ok (.ldc2_w 13, 3) := by decide +kernel
theorem dL_law_322 : decode cL_law 322 = .ok (.land, 1) := by decide +kernel
theorem dL_law_323 : decode cL_law 323 = .ok (.lor, 1) := by decide +kernel
theorem dL_law_324 : decode cL_law 324 = .ok (.invokevirtual 33, 3) := by decide +kernel
theorem dL_law_327 : decode cL_law 327 = .ok (.if_icmp .eq 451, 3) := by decide +kernel
theorem dL_law_330 : decode cL_law 330 = .ok (.iconst 0, 1) := by decide +kernel
theorem dL_law_331 : decode cL_law 331 = .ok (.ireturn, 1) := by decide +kernel
theorem dL_law_332 : decode cL_law 332 = .ok (.aload_n 1, 1) := by decide +kernel
theorem dL_law_333 : decode cL_law 333 = .ok (.aload_n 0, 1) := by decide +kernel
theorem dL_law_334 : decode cL_law 334 = .ok (.iload_n 3, 1) := by decide +kernel
theorem dL_law_335 : decode cL_law 335 = .ok (.iconst 1, 1) := by decide +kernel
theorem dL_law_336 : decode cL_law 336 = .ok (.iadd, 1) := by decide +kernel
theorem dL_law_337 : decode cL_law 337 = .ok (.iaload, 1) := by decide +kernel
theorem dL_law_338 : decode cL_law 338 = .ok (.i2l, 1) := by decide +kernel
theorem dL_law_339 : decode cL_law 339 = .ok (.bipush 32, 2) := by decide +kernel
theorem dL_law_341 : decode cL_law 341 = .ok (.lshl, 1) := by decide +kernel
theorem dL_law_342 : decode cL_law 342 = .ok (.aload_n 0, 1) := by decide +kernel
theorem dL_law_343 : decode cL_law 343 = .ok (.iload_n 3, 1) := by decide +kernel
theorem dL_law_344 : decode cL_law 344 = .ok (.iconst 2, 1) := by decide +kernel
theorem dL_law_345 : decode cL_law 345 = .ok (.iadd, 1) := by decide +kernel
theorem dL_law_346 : decode cL_law 346 = .ok (.iaload, 1) := by decide +kernel
theorem dL_law_347 : decode cL_law 347 = .ok (.i2l, 1) := by decide +kernel
theorem dL_law_348 : decode cL_law 348 = .ok (.ldc2_w 13, 3) := by decide +kernel
theorem dL_law_351 : decode cL_law 351 = .ok (.land, 1) := by decide +kernel
theorem dL_law_352 : decode cL_law 352 = .ok (.lor, 1) := by decide +kernel
theorem dL_law_353 : decode cL_law 353 = .ok (.invokevirtual 34, 3) := by decide +kernel
theorem dL_law_356 : decode cL_law 356 = .ok (.aload_n 2, 1) := by decide +kernel
theorem dL_law_357 : decode cL_law 357 = .ok (.aload_n 0, 1) := by decide +kernel
theorem dL_law_358 : decode cL_law 358 = .ok (.iload_n 3, 1) := by decide +kernel
theorem dL_law_359 : decode cL_law 359 = .ok (.iconst 1, 1) := by decide +kernel
theorem dL_law_360 : decode cL_law 360 = .ok (.iadd, 1) := by decide +kernel
theorem dL_law_361 : decode cL_law 361 = .ok (.iaload, 1) := by decide +kernel
theorem dL_law_362 : decode cL_law 362 = .ok (.i2l, 1) := by decide +kernel
theorem dL_law_363 : decode cL_law 363 = .ok (.bipush 32, 2) := by decide +kernel
theorem dL_law_365 : decode cL_law 365 = .ok (.lshl, 1) := by decide +kernel
theorem dL_law_366 : decode cL_law 366 = .ok (.aload_n 0, 1) := by decide +kernel
theorem dL_law_367 : decode cL_law 367 = .ok (.iload_n 3, 1) := by decide +kernel
theorem dL_law_368 : decode cL_law 368 = .ok (.iconst 2, 1) := by decide +kernel
theorem dL_law_369 : decode cL_law 369 = .ok (.iadd, 1) := by decide +kernel
theorem dL_law_370 : decode cL_law 370 = .ok (.iaload, 1) := by decide +kernel
theorem dL_law_371 : decode cL_law 371 = .ok (.i2l, 1) := by decide +kernel
theorem dL_law_372 : decode cL_law 372 = .ok (.ldc2_w 13, 3) := by decide +kernel
theorem dL_law_375 : decode cL_law 375 = .ok (.land, 1) := by decide +kernel
theorem dL_law_376 : decode cL_law 376 = .ok (.lor, 1) := by decide +kernel
theorem dL_law_377 : decode cL_law 377 = .ok (.invokevirtual 38, 3) := by decide +kernel
theorem dL_law_380 : decode cL_law 380 = .ok (.lcmp, 1) := by decide +kernel
theorem dL_law_381 : decode cL_law 381 = .ok (.ifCond .eq 397, 3) := by decide +kernel
theorem dL_law_384 : decode cL_law 384 = .ok (.iconst 0, 1) := by decide +kernel
theorem dL_law_385 : decode cL_law 385 = .ok (.ireturn, 1) := by decide +kernel
theorem dL_law_386 : decode cL_law 386 = .ok (.aload_n 1, 1) := by decide +kernel
theorem dL_law_387 : decode cL_law 387 = .ok (.aload_n 0, 1) := by decide +kernel
theorem dL_law_388 : decode cL_law 388 = .ok (.iload_n 3, 1) := by decide +kernel
theorem dL_law_389 : decode cL_law 389 = .ok (.iconst 1, 1) := by decide +kernel
theorem dL_law_390 : decode cL_law 390 = .ok (.iadd, 1) := by decide +kernel
theorem dL_law_391 : decode cL_law 391 = .ok (.iaload, 1) := by decide +kernel
theorem dL_law_392 : decode cL_law 392 = .ok (.i2l, 1) := by decide +kernel
theorem dL_law_393 : decode cL_law 393 = .ok (.bipush 32, 2) := by decide +kernel
theorem dL_law_395 : decode cL_law 395 = .ok (.lshl, 1) := by decide +kernel
theorem dL_law_396 : decode cL_law 396 = .ok (.aload_n 0, 1) := by decide +kernel
theorem dL_law_397 : decode cL_law 397 = .ok (.iload_n 3, 1) := by decide +kernel
theorem dL_law_398 : decode cL_law 398 = .ok (.iconst 2, 1) := by decide +kernel
theorem dL_law_399 : decode cL_law 399 = .ok (.iadd, 1) := by decide +kernel
theorem dL_law_400 : decode cL_law 400 = .ok (.iaload, 1) := by decide +kernel
theorem dL_law_401 : decode cL_law 401 = .ok (.i2l, 1) := by decide +kernel
theorem dL_law_402 : decode cL_law 402 = .ok (.ldc2_w 13, 3) := by decide +kernel
theorem dL_law_405 : decode cL_law 405 = .ok (.land, 1) := by decide +kernel
theorem dL_law_406 : decode cL_law 406 = .ok (.lor, 1) := by decide +kernel
theorem dL_law_407 : decode cL_law 407 = .ok (.invokevirtual 39, 3) := by decide +kernel
theorem dL_law_410 : decode cL_law 410 = .ok (.aload_n 2, 1) := by decide +kernel
theorem dL_law_411 : decode cL_law 411 = .ok (.aload_n 0, 1) := by decide +kernel
theorem dL_law_412 : decode cL_law 412 = .ok (.iload_n 3, 1) := by decide +kernel
theorem dL_law_413 : decode cL_law 413 = .ok (.iconst 1, 1) := by decide +kernel
theorem dL_law_414 : decode cL_law 414 = .ok (.iadd, 1) := by decide +kernel
theorem dL_law_415 : decode cL_law 415 = .ok (.iaload, 1) := by decide +kernel
theorem dL_law_416 : decode cL_law 416 = .ok (.i2l, 1) := by decide +kernel
theorem dL_law_417 : decode cL_law 417 = .ok (.bipush 32, 2) := by decide +kernel
theorem dL_law_419 : decode cL_law 419 = .ok (.lshl, 1) := by decide +kernel
theorem dL_law_420 : decode cL_law 420 = .ok (.aload_n 0, 1) := by decide +kernel
theorem dL_law_421 : decode cL_law 421 = .ok (.iload_n 3, 1) := by decide +kernel
theorem dL_law_422 : decode cL_law 422 = .ok (.iconst 2, 1) := by decide +kernel
theorem dL_law_423 : decode cL_law 423 = .ok (.iadd, 1) := by decide +kernel
theorem dL_law_424 : decode cL_law 424 = .ok (.iaload, 1) := by decide +kernel
theorem dL_law_425 : decode cL_law 425 = .ok (.i2l, 1) := by decide +kernel
theorem dL_law_426 : decode cL_law 426 = .ok (.ldc2_w 13, 3) := by decide +kernel
theorem dL_law_429 : decode cL_law 429 = .ok (.land, 1) := by decide +kernel
end
section
theorem dL_law_430 : decode cL_law 430 = .ok (.lor, 1) := by decide +kernel
theorem dL_law_431 : decode cL_law 431 = .ok (.invokevirtual 42, 3) := by decide +kernel
theorem dL_law_434 : decode cL_law 434 = .ok (.lcmp, 1) := by decide +kernel
theorem dL_law_435 : decode cL_law 435 = .ok (.ifCond .eq 343, 3) := by decide +kernel
theorem dL_law_438 : decode cL_law 438 = .ok (.iconst 0, 1) := by decide +kernel
theorem dL_law_439 : decode cL_law 439 = .ok (.ireturn, 1) := by decide +kernel
theorem dL_law_440 : decode cL_law 440 = .ok (.aload_n 1, 1) := by decide +kernel
theorem dL_law_441 : decode cL_law 441 = .ok (.aload_n 0, 1) := by decide +kernel
theorem dL_law_442 : decode cL_law 442 = .ok (.iload_n 3, 1) := by decide +kernel
theorem dL_law_443 : decode cL_law 443 = .ok (.iconst 1, 1) := by decide +kernel
theorem dL_law_444 : decode cL_law 444 = .ok (.iadd, 1) := by decide +kernel
theorem dL_law_445 : decode cL_law 445 = .ok (.iaload, 1) := by decide +kernel
theorem dL_law_446 : decode cL_law 446 = .ok (.i2l, 1) := by decide +kernel
theorem dL_law_447 : decode cL_law 447 = .ok (.bipush 32, 2) := by decide +kernel
theorem dL_law_449 : decode cL_law 449 = .ok (.lshl, 1) := by decide +kernel
theorem dL_law_450 : decode cL_law 450 = .ok (.aload_n 0, 1) := by decide +kernel
theorem dL_law_451 : decode cL_law 451 = .ok (.iload_n 3, 1) := by decide +kernel
theorem dL_law_452 : decode cL_law 452 = .ok (.iconst 2, 1) := by decide +kernel
theorem dL_law_453 : decode cL_law 453 = .ok (.iadd, 1) := by decide +kernel
theorem dL_law_454 : decode cL_law 454 = .ok (.iaload, 1) := by decide +kernel
theorem dL_law_455 : decode cL_law 455 = .ok (.i2l, 1) := by decide +kernel
theorem dL_law_456 : decode cL_law 456 = .ok (.ldc2_w 13, 3) := by decide +kernel
theorem dL_law_459 : decode cL_law 459 = .ok (.land, 1) := by decide +kernel
theorem dL_law_460 : decode cL_law 460 = .ok (.lor, 1) := by decide +kernel
theorem dL_law_461 : decode cL_law 461 = .ok (.invokevirtual 43, 3) := by decide +kernel
theorem dL_law_464 : decode cL_law 464 = .ok (.aload_n 2, 1) := by decide +kernel
theorem dL_law_465 : decode cL_law 465 = .ok (.aload_n 0, 1) := by decide +kernel
theorem dL_law_466 : decode cL_law 466 = .ok (.iload_n 3, 1) := by decide +kernel
theorem dL_law_467 : decode cL_law 467 = .ok (.iconst 1, 1) := by decide +kernel
theorem dL_law_468 : decode cL_law 468 = .ok (.iadd, 1) := by decide +kernel
theorem dL_law_469 : decode cL_law 469 = .ok (.iaload, 1) := by decide +kernel
theorem dL_law_470 : decode cL_law 470 = .ok (.i2l, 1) := by decide +kernel
theorem dL_law_471 : decode cL_law 471 = .ok (.bipush 32, 2) := by decide +kernel
theorem dL_law_473 : decode cL_law 473 = .ok (.lshl, 1) := by decide +kernel
theorem dL_law_474 : decode cL_law 474 = .ok (.aload_n 0, 1) := by decide +kernel
theorem dL_law_475 : decode cL_law 475 = .ok (.iload_n 3, 1) := by decide +kernel
theorem dL_law_476 : decode cL_law 476 = .ok (.iconst 2, 1) := by decide +kernel
theorem dL_law_477 : decode cL_law 477 = .ok (.iadd, 1) := by decide +kernel
theorem dL_law_478 : decode cL_law 478 = .ok (.iaload, 1) := by decide +kernel
theorem dL_law_479 : decode cL_law 479 = .ok (.i2l, 1) := by decide +kernel
theorem dL_law_480 : decode cL_law 480 = .ok (.ldc2_w 13, 3) := by decide +kernel
theorem dL_law_483 : decode cL_law 483 = .ok (.land, 1) := by decide +kernel
theorem dL_law_484 : decode cL_law 484 = .ok (.lor, 1) := by decide +kernel
theorem dL_law_485 : decode cL_law 485 = .ok (.invokevirtual 46, 3) := by decide +kernel
theorem dL_law_488 : decode cL_law 488 = .ok (.if_icmp .eq 290, 3) := by decide +kernel
theorem dL_law_491 : decode cL_law 491 = .ok (.iconst 0, 1) := by decide +kernel
theorem dL_law_492 : decode cL_law 492 = .ok (.ireturn, 1) := by decide +kernel
theorem dL_law_493 : decode cL_law 493 = .ok (.aload_n 1, 1) := by decide +kernel
theorem dL_law_494 : decode cL_law 494 = .ok (.aload_n 0, 1) := by decide +kernel
theorem dL_law_495 : decode cL_law 495 = .ok (.iload_n 3, 1) := by decide +kernel
theorem dL_law_496 : decode cL_law 496 = .ok (.iconst 1, 1) := by decide +kernel
theorem dL_law_497 : decode cL_law 497 = .ok (.iadd, 1) := by decide +kernel
theorem dL_law_498 : decode cL_law 498 = .ok (.iaload, 1) := by decide +kernel
theorem dL_law_499 : decode cL_law 499 = .ok (.i2l, 1) := by decide +kernel
theorem dL_law_500 : decode cL_law 500 = .ok (.bipush 32, 2) := by decide +kernel
theorem dL_law_502 : decode cL_law 502 = .ok (.lshl, 1) := by decide +kernel
theorem dL_law_503 : decode cL_law 503 = .ok (.aload_n 0, 1) := by decide +kernel
theorem dL_law_504 : decode cL_law 504 = .ok (.iload_n 3, 1) := by decide +kernel
theorem dL_law_505 : decode cL_law 505 = .ok (.iconst 2, 1) := by decide +kernel
theorem dL_law_506 : decode cL_law 506 = .ok (.iadd, 1) := by decide +kernel
theorem dL_law_507 : decode cL_law 507 = .ok (.iaload, 1) := by decide +kernel
theorem dL_law_508 : decode cL_law 508 = .ok (.i2l, 1) := by decide +kernel
theorem dL_law_509 : decode cL_law 509 = .ok (.ldc2_w 13, 3) := by decide +kernel
theorem dL_law_512 : decode cL_law 512 = .ok (.land, 1) := by decide +kernel
theorem dL_law_513 : decode cL_law 513 = .ok (.lor, 1) := by decide +kernel
theorem dL_law_514 : decode cL_law 514 = .ok (.invokevirtual 47, 3) := by decide +kernel
theorem dL_law_517 : decode cL_law 517 = .ok (.aload_n 2, 1) := by decide +kernel
theorem dL_law_518 : decode cL_law 518 = .ok (.aload_n 0, 1) := by decide +kernel
theorem dL_law_519 : decode cL_law 519 = .ok (.iload_n 3, 1) := by decide +kernel
theorem dL_law_520 : decode cL_law 520 = .ok (.iconst 1, 1) := by decide +kernel
theorem dL_law_521 : decode cL_law 521 = .ok (.iadd, 1) := by decide +kernel
theorem dL_law_522 : decode cL_law 522 = .ok (.iaload, 1) := by decide +kernel
theorem dL_law_523 : decode cL_law 523 = .ok (.i2l, 1) := by decide +kernel
theorem dL_law_524 : decode cL_law 524 = .ok (.bipush 32, 2) := by decide +kernel
theorem dL_law_526 : decode cL_law 526 = .ok (.lshl, 1) := by decide +kernel
theorem dL_law_527 : decode cL_law 527 = .ok (.aload_n 0, 1) := by decide +kernel
theorem dL_law_528 : decode cL_law 528 = .ok (.iload_n 3, 1) := by decide +kernel
theorem dL_law_529 : decode cL_law 529 = .ok (.iconst 2, 1) := by decide +kernel
theorem dL_law_530 : decode cL_law 530 = .ok (.iadd, 1) := by decide +kernel
theorem dL_law_531 : decode cL_law 531 = .ok (.iaload, 1) := by decide +kernel
theorem dL_law_532 : decode cL_law 532 = .ok (.i2l, 1) := by decide +kernel
theorem dL_law_533 : decode cL_law 533 = .ok (.ldc2_w 13, 3) := by decide +kernel
theorem dL_law_536 : decode cL_law 536 = .ok (.land, 1) := by decide +kernel
theorem dL_law_537 : decode cL_law 537 = .ok (.lor, 1) := by decide +kernel
theorem dL_law_538 : decode cL_law 538 = .ok (.invokevirtual 50, 3) := by decide +kernel
theorem dL_law_541 : decode cL_law 541 = .ok (.if_icmp .eq 237, 3) := by decide +kernel
theorem dL_law_544 : decode cL_law 544 = .ok (.iconst 0, 1) := by decide +kernel
theorem dL_law_545 : decode cL_law 545 = .ok (.ireturn, 1) := by decide +kernel
theorem dL_law_546 : decode cL_law 546 = .ok (.aload_n 1, 1) := by decide +kernel
theorem dL_law_547 : decode cL_law 547 = .ok (.aload_n 0, 1) := by decide +kernel
theorem dL_law_548 : decode cL_law 548 = .ok (.iload_n 3, 1) := by decide +kernel
theorem dL_law_549 : decode cL_law 549 = .ok (.iconst 1, 1) := by decide +kernel
theorem dL_law_550 : decode cL_law 550 = .ok (.iadd, 1) := by decide +kernel
theorem dL_law_551 : decode cL_law 551 = .ok (.iaload, 1) := by decide +kernel
theorem dL_law_552 : decode cL_law 552 = .ok (.i2l, 1) := by decide +kernel
theorem dL_law_553 : decode cL_law 553 = .ok (.bipush 32, 2) := by decide +kernel
theorem dL_law_555 : decode cL_law 555 = .ok (.lshl, 1) := by decide +kernel
theorem dL_law_556 : decode cL_law 556 = .ok (.aload_n 0, 1) := by decide +kernel
theorem dL_law_557 : decode cL_law 557 = .ok (.iload_n 3, 1) := by decide +kernel
theorem dL_law_558 : decode cL_law 558 = .ok (.iconst 2, 1) := by decide +kernel
theorem dL_law_559 : decode cL_law 559 = .ok (.iadd, 1) := by decide +kernel
theorem dL_law_560 : decode cL_law 560 = .ok (.iaload, 1) := by decide +kernel
theorem dL_law_561 : decode cL_law 561 = .ok (.i2l, 1) := by decide +kernel
theorem dL_law_562 : decode cL_law 562 = .ok (.ldc2_w 13, 3) := by decide +kernel
theorem dL_law_565 : decode cL_law 565 = .ok (.land, 1) := by decide +kernel
theorem dL_law_566 : decode cL_law 566 = .ok (.lor, 1) := by decide +kernel
theorem dL_law_567 : decode cL_law 567 = .ok (.invokevirtual 51, 3) := by decide +kernel
theorem dL_law_570 : decode cL_law 570 = .ok (.aload_n 2, 1) := by decide +kernel
theorem dL_law_571 : decode cL_law 571 = .ok (.aload_n 0, 1) := by decide +kernel
theorem dL_law_572 : decode cL_law 572 = .ok (.iload_n 3, 1) := by decide +kernel
theorem dL_law_573 : decode cL_law 573 = .ok (.iconst 1, 1) := by decide +kernel
theorem dL_law_574 : decode cL_law 574 = .ok (.iadd, 1) := by decide +kernel
theorem dL_law_575 : decode cL_law 575 = .ok (.iaload, 1) := by decide +kernel
theorem dL_law_576 : decode cL_law 576 = .ok (.i2l, 1) := by decide +kernel
theorem dL_law_577 : decode cL_law 577 = .ok (.bipush 32, 2) := by decide +kernel
theorem dL_law_579 : decode cL_law 579 = .ok (.lshl, 1) := by decide +kernel
theorem dL_law_580 : decode cL_law 580 = .ok (.aload_n 0, 1) := by decide +kernel
theorem dL_law_581 : decode cL_law 581 = .ok (.iload_n 3, 1) := by decide +kernel
theorem dL_law_582 : decode cL_law 582 = .ok (.iconst 2, 1) := by decide +kernel
theorem dL_law_583 : decode cL_law 583 = .ok (.iadd, 1) := by decide +kernel
theorem dL_law_584 : decode cL_law 584 = .ok (.iaload, 1) := by decide +kernel
theorem dL_law_585 : decode cL_law 585 = .ok (.i2l, 1) := by decide +kernel
theorem dL_law_586 : decode cL_law 586 = .ok (.ldc2_w 13, 3) := by decide +kernel
theorem dL_law_589 : decode cL_law 589 = .ok (.land, 1) := by decide +kernel
theorem dL_law_590 : decode cL_law 590 = .ok (.lor, 1) := by decide +kernel
theorem dL_law_591 : decode cL_law 591 = .ok (.invokevirtual 54, 3) := by decide +kernel
theorem dL_law_594 : decode cL_law 594 = .ok (.if_icmp .eq 184, 3) := by decide +kernel
theorem dL_law_597 : decode cL_law 597 = .ok (.iconst 0, 1) := by decide +kernel
theorem dL_law_598 : decode cL_law 598 = .ok (.ireturn, 1) := by decide +kernel
theorem dL_law_599 : decode cL_law 599 = .ok (.aload_n 1, 1) := by decide +kernel
theorem dL_law_600 : decode cL_law 600 = .ok (.aload_n 0, 1) := by decide +kernel
theorem dL_law_601 : decode cL_law 601 = .ok (.iload_n 3, 1) := by decide +kernel
theorem dL_law_602 : decode cL_law 602 = .ok (.iconst 1, 1) := by decide +kernel
theorem dL_law_603 : decode cL_law 603 = .ok (.iadd, 1) := by decide +kernel
theorem dL_law_604 : decode cL_law 604 = .ok (.iaload, 1) := by decide +kernel
theorem dL_law_605 : decode cL_law 605 = .ok (.invokevirtual 55, 3) := by decide +kernel
theorem dL_law_608 : decode cL_law 608 = .ok (.aload_n 2, 1) := by decide +kernel
theorem dL_law_609 : decode cL_law 609 = .ok (.aload_n 0, 1) := by decide +kernel
theorem dL_law_610 : decode cL_law 610 = .ok (.iload_n 3, 1) := by decide +kernel
theorem dL_law_611 : decode cL_law 611 = .ok (.iconst 1, 1) := by decide +kernel
theorem dL_law_612 : decode cL_law 612 = .ok (.iadd, 1) := by decide +kernel
theorem dL_law_613 : decode cL_law 613 = .ok (.iaload, 1) := by decide +kernel
theorem dL_law_614 : decode cL_law 614 = .ok (.invokevirtual 58, 3) := by decide +kernel
theorem dL_law_617 : decode cL_law 617 = .ok (.if_icmp .eq 161, 3) := by decide +kernel
theorem dL_law_620 : decode cL_law 620 = .ok (.iconst 0, 1) := by decide +kernel
theorem dL_law_621 : decode cL_law 621 = .ok (.ireturn, 1) := by decide +kernel
theorem dL_law_622 : decode cL_law 622 = .ok (.aload_n 1, 1) := by decide +kernel
theorem dL_law_623 : decode cL_law 623 = .ok (.aload_n 0, 1) := by decide +kernel
theorem dL_law_624 : decode cL_law 624 = .ok (.iload_n 3, 1) := by decide +kernel
theorem dL_law_625 : decode cL_law 625 = .ok (.iconst 1, 1) := by decide +kernel
theorem dL_law_626 : decode cL_law 626 = .ok (.iadd, 1) := by decide +kernel
theorem dL_law_627 : decode cL_law 627 = .ok (.iaload, 1) := by decide +kernel
theorem dL_law_628 : decode cL_law 628 = .ok (.aload_n 0, 1) := by decide +kernel
theorem dL_law_629 : decode cL_law 629 = .ok (.iload_n 3, 1) := by decide +kernel
theorem dL_law_630 : decode cL_law 630 = .ok (.iconst 2, 1) := by decide +kernel
theorem dL_law_631 : decode cL_law 631 = .ok (.iadd, 1) := by decide +kernel
theorem dL_law_632 : decode cL_law 632 = .ok (.iaload, 1) := by decide +kernel
theorem dL_law_633 : decode cL_law 633 = .ok (.invokevirtual 59, 3) := by decide +kernel
theorem dL_law_636 : decode cL_law 636 = .ok (.aload_n 2, 1) := by decide +kernel
theorem dL_law_637 : decode cL_law 637 = .ok (.aload_n 0, 1) := by decide +kernel
theorem dL_law_638 : decode cL_law 638 = .ok (.iload_n 3, 1) := by decide +kernel
theorem dL_law_639 : decode cL_law 639 = .ok (.iconst 1, 1) := by decide +kernel
theorem dL_law_640 : decode cL_law 640 = .ok (.iadd, 1) := by decide +kernel
theorem dL_law_641 : decode cL_law 641 = .ok (.iaload, 1) := by decide +kernel
theorem dL_law_642 : decode cL_law 642 = .ok (.aload_n 0, 1) := by decide +kernel
theorem dL_law_643 : decode cL_law 643 = .ok (.iload_n 3, 1) := by decide +kernel
theorem dL_law_644 : decode cL_law 644 = .ok (.iconst 2, 1) := by decide +kernel
theorem dL_law_645 : decode cL_law 645 = .ok (.iadd, 1) := by decide +kernel
theorem dL_law_646 : decode cL_law 646 = .ok (.iaload, 1) := by decide +kernel
theorem dL_law_647 : decode cL_law 647 = .ok (.invokevirtual 63, 3) := by decide +kernel
theorem dL_law_650 : decode cL_law 650 = .ok (.lcmp, 1) := by decide +kernel
theorem dL_law_651 : decode cL_law 651 = .ok (.ifCond .eq 127, 3) := by decide +kernel
theorem dL_law_654 : decode cL_law 654 = .ok (.iconst 0, 1) := by decide +kernel
theorem dL_law_655 : decode cL_law 655 = .ok (.ireturn, 1) := by decide +kernel
theorem dL_law_656 : decode cL_law 656 = .ok (.aload_n 1, 1) := by decide +kernel
theorem dL_law_657 : decode cL_law 657 = .ok (.aload_n 0, 1) := by decide +kernel
theorem dL_law_658 : decode cL_law 658 = .ok (.iload_n 3, 1) := by decide +kernel
theorem dL_law_659 : decode cL_law 659 = .ok (.iconst 1, 1) := by decide +kernel
theorem dL_law_660 : decode cL_law 660 = .ok (.iadd, 1) := by decide +kernel
theorem dL_law_661 : decode cL_law 661 = .ok (.iaload, 1) := by decide +kernel
theorem dL_law_662 : decode cL_law 662 = .ok (.invokevirtual 64, 3) := by decide +kernel
theorem dL_law_665 : decode cL_law 665 = .ok (.aload_n 2, 1) := by decide +kernel
theorem dL_law_666 : decode cL_law 666 = .ok (.aload_n 0, 1) := by decide +kernel
theorem dL_law_667 : decode cL_law 667 = .ok (.iload_n 3, 1) := by decide +kernel
theorem dL_law_668 : decode cL_law 668 = .ok (.iconst 1, 1) := by decide +kernel
theorem dL_law_669 : decode cL_law 669 = .ok (.iadd, 1) := by decide +kernel
theorem dL_law_670 : decode cL_law 670 = .ok (.iaload, 1) := by decide +kernel
theorem dL_law_671 : decode cL_law 671 = .ok (.invokevirtual 68, 3) := by decide +kernel
theorem dL_law_674 : decode cL_law 674 = .ok (.lcmp, 1) := by decide +kernel
theorem dL_law_675 : decode cL_law 675 = .ok (.ifCond .eq 103, 3) := by decide +kernel
theorem dL_law_678 : decode cL_law 678 = .ok (.iconst 0, 1) := by decide +kernel
theorem dL_law_679 : decode cL_law 679 = .ok (.ireturn, 1) := by decide +kernel
theorem dL_law_680 : decode cL_law 680 = .ok (.aload_n 1, 1) := by decide +kernel
theorem dL_law_681 : decode cL_law 681 = .ok (.aload_n 0, 1) := by decide +kernel
theorem dL_law_682 : decode cL_law 682 = .ok (.iload_n 3, 1) := by decide +kernel
theorem dL_law_683 : decode cL_law 683 = .ok (.iconst 1, 1) := by decide +kernel
theorem dL_law_684 : decode cL_law 684 = .ok (.iadd, 1) := by decide +kernel
theorem dL_law_685 : decode cL_law 685 = .ok (.iaload, 1) := by decide +kernel
theorem dL_law_686 : decode cL_law 686 = .ok (.invokevirtual 69, 3) := by decide +kernel
theorem dL_law_689 : decode cL_law 689 = .ok (.aload_n 2, 1) := by decide +kernel
theorem dL_law_690 : decode cL_law 690 = .ok (.aload_n 0, 1) := by decide +kernel
theorem dL_law_691 : decode cL_law 691 = .ok (.iload_n 3, 1) := by decide +kernel
theorem dL_law_692 : decode cL_law 692 = .ok (.iconst 1, 1) := by decide +kernel
theorem dL_law_693 : decode cL_law 693 = .ok (.iadd, 1) := by decide +kernel
theorem dL_law_694 : decode cL_law 694 = .ok (.iaload, 1) := by decide +kernel
theorem dL_law_695 : decode cL_law 695 = .ok (.invokevirtual 72, 3) := by decide +kernel
theorem dL_law_698 : decode cL_law 698 = .ok (.if_icmp .eq 80, 3) := by decide +kernel
theorem dL_law_701 : decode cL_law 701 = .ok (.iconst 0, 1) := by decide +kernel
theorem dL_law_702 : decode cL_law 702 = .ok (.ireturn, 1) := by decide +kernel
theorem dL_law_703 : decode cL_law 703 = .ok (.aload_n 1, 1) := by decide +kernel
theorem dL_law_704 : decode cL_law 704 = .ok (.aload_n 0, 1) := by decide +kernel
theorem dL_law_705 : decode cL_law 705 = .ok (.iload_n 3, 1) := by decide +kernel
theorem dL_law_706 : decode cL_law 706 = .ok (.iconst 1, 1) := by decide +kernel
theorem dL_law_707 : decode cL_law 707 = .ok (.iadd, 1) := by decide +kernel
theorem dL_law_708 : decode cL_law 708 = .ok (.iaload, 1) := by decide +kernel
theorem dL_law_709 : decode cL_law 709 = .ok (.invokevirtual 73, 3) := by decide +kernel
theorem dL_law_712 : decode cL_law 712 = .ok (.aload_n 2, 1) := by decide +kernel
theorem dL_law_713 : decode cL_law 713 = .ok (.aload_n 0, 1) := by decide +kernel
theorem dL_law_714 : decode cL_law 714 = .ok (.iload_n 3, 1) := by decide +kernel
theorem dL_law_715 : decode cL_law 715 = .ok (.iconst 1, 1) := by decide +kernel
theorem dL_law_716 : decode cL_law 716 = .ok (.iadd, 1) := by decide +kernel
theorem dL_law_717 : decode cL_law 717 = .ok (.iaload, 1) := by decide +kernel
theorem dL_law_718 : decode cL_law 718 = .ok (.invokevirtual 76, 3) := by decide +kernel
theorem dL_law_721 : decode cL_law 721 = .ok (.if_icmp .eq 57, 3) := by decide +kernel
theorem dL_law_724 : decode cL_law 724 = .ok (.iconst 0, 1) := by decide +kernel
theorem dL_law_725 : decode cL_law 725 = .ok (.ireturn, 1) := by decide +kernel
theorem dL_law_726 : decode cL_law 726 = .ok (.aload_n 1, 1) := by decide +kernel
theorem dL_law_727 : decode cL_law 727 = .ok (.invokevirtual 77, 3) := by decide +kernel
theorem dL_law_730 : decode cL_law 730 = .ok (.aload_n 2, 1) := by decide +kernel
theorem dL_law_731 : decode cL_law 731 = .ok (.invokevirtual 81, 3) := by decide +kernel
theorem dL_law_734 : decode cL_law 734 = .ok (.if_icmp .eq 44, 3) := by decide +kernel
theorem dL_law_737 : decode cL_law 737 = .ok (.iconst 0, 1) := by decide +kernel
theorem dL_law_738 : decode cL_law 738 = .ok (.ireturn, 1) := by decide +kernel
theorem dL_law_739 : decode cL_law 739 = .ok (.aload_n 1, 1) := by decide +kernel
theorem dL_law_740 : decode cL_law 740 = .ok (.invokevirtual 82, 3) := by decide +kernel
theorem dL_law_743 : decode cL_law 743 = .ok (.aload_n 2, 1) := by decide +kernel
theorem dL_law_744 : decode cL_law 744 = .ok (.invokevirtual 85, 3) := by decide +kernel
theorem dL_law_747 : decode cL_law 747 = .ok (.if_icmp .eq 31, 3) := by decide +kernel
theorem dL_law_750 : decode cL_law 750 = .ok (.iconst 0, 1) := by decide +kernel
theorem dL_law_751 : decode cL_law 751 = .ok (.ireturn, 1) := by decide +kernel
theorem dL_law_752 : decode cL_law 752 = .ok (.aload_n 1, 1) := by decide +kernel
theorem dL_law_753 : decode cL_law 753 = .ok (.invokevirtual 86, 3) := by decide +kernel
theorem dL_law_756 : decode cL_law 756 = .ok (.aload_n 2, 1) := by decide +kernel
theorem dL_law_757 : decode cL_law 757 = .ok (.invokevirtual 89, 3) := by decide +kernel
theorem dL_law_760 : decode cL_law 760 = .ok (.if_icmp .eq 18, 3) := by decide +kernel
theorem dL_law_763 : decode cL_law 763 = .ok (.iconst 0, 1) := by decide +kernel
theorem dL_law_764 : decode cL_law 764 = .ok (.ireturn, 1) := by decide +kernel
theorem dL_law_765 : decode cL_law 765 = .ok (.aload_n 1, 1) := by decide +kernel
theorem dL_law_766 : decode cL_law 766 = .ok (.invokevirtual 90, 3) := by decide +kernel
theorem dL_law_769 : decode cL_law 769 = .ok (.aload_n 2, 1) := by decide +kernel
theorem dL_law_770 : decode cL_law 770 = .ok (.invokevirtual 93, 3) := by decide +kernel
theorem dL_law_773 : decode cL_law 773 = .ok (.if_icmp .eq 5, 3) := by decide +kernel
theorem dL_law_776 : decode cL_law 776 = .ok (.iconst 0, 1) := by decide +kernel
theorem dL_law_777 : decode cL_law 777 = .ok (.ireturn, 1) := by decide +kernel
theorem dL_law_778 : decode cL_law 778 = .ok (.iinc 3 6, 3) := by decide +kernel
theorem dL_law_781 : decode cL_law 781 = .ok (.goto (-763), 3) := by decide +kernel
theorem dL_law_784 : decode cL_law 784 = .ok (.iconst 1, 1) := by decide +kernel
theorem dL_law_785 : decode cL_law 785 = .ok (.ireturn, 1) := by decide +kernel
end
section
/-! the abstract heap: an array (number of its type, length, contents) or an object (number of its class, fields) -/
abbrev Ce : Type := (Nat × Nat × (Nat → Value)) ⊕ (Nat × List Value)
abbrev Gd : Type := va_G × (Nat → ClassId)
abbrev Wd : Type := Nat → Option Ce
def ce_at (G : Gd) (a : Nat) (x : Ce) (H : Heap) : Prop := match x with
  | .inl r => H[a]? = some (arrV (G.2 r.1) r.2.1 r.2.2)
  | .inr o => va_at G.1 classes (a, .inr o) H
def tysG (G : Gd) : List (ClassId × FieldType) := [(G.2 0, .int), (G.2 1, .long), (G.2 2, .boolean), (G.2 3, .object "EmberCache$Item"), (G.2 4, .object "EmberCache$Row")]
def KK (G : Gd) (U : State) : Prop := va_K G.1 classes (tysG G) U ∧ (∀ w ∈ NW, va_Nw w U) ∧ va_AO "EmberCache$Item" U ∧ va_AO "EmberCache$Row" U
def Hd (G : Gd) (A : Nat → Prop) (w : Wd) (H : Heap) : Prop := (∀ a x, w a = some x → ce_at G a x H ∧ A a) ∧ ∀ q, H.size ≤ q → A q
def us (w : Wd) (a : Nat) (x : Ce) : Wd := fun b => if b = a then some x else w b
theorem us_same (w : Wd) (a : Nat) (x : Ce) : us w a x a = some x := if_pos rfl
theorem us_ne (w : Wd) {a b : Nat} (x : Ce) (h : b ≠ a) : us w a x b = w b := if_neg h
theorem ce_lt {G : Gd} {a : Nat} {x : Ce} {H : Heap} (h : ce_at G a x H) : a < H.size := by
  cases x with
  | inl r => exact (Array.getElem?_eq_some_iff.mp h).1
  | inr o => exact va_at.lt (q := (a, .inr o)) h
theorem ce_kept {G : Gd} {a : Nat} {x : Ce} {H H1 : Heap} (h : ce_at G a x H) (hq : H1[a]? = H[a]?) : ce_at G a x H1 := by
  cases x with
  | inl r => exact hq.trans h
  | inr o => exact va_at.kept (q := (a, .inr o)) h hq
theorem Hd.set {G : Gd} {A : Nat → Prop} {w : Wd} {H H1 : Heap} {a : Nat} {x : Ce} (h : Hd G A w H) (ha : A a) (he : ce_at G a x H1) (z : H1.size = H.size) (oq : ∀ q : Nat, q ≠ a → H1[q]? = H[q]?) : Hd G A (us w a x) H1 := by
  refine ⟨fun b y hb => ?_, fun q hq => h.2 q (by rw [← z]; exact hq)⟩
  by_cases hba : b = a
  · subst hba
    rw [us_same] at hb
    cases hb
    exact ⟨he, ha⟩
  · rw [us_ne w x hba] at hb
    exact ⟨ce_kept (h.1 b y hb).1 (oq b hba), (h.1 b y hb).2⟩
theorem Hd.push {G : Gd} {A : Nat → Prop} {w : Wd} {H H1 : Heap} {x : Ce} (h : Hd G A w H) (he : ce_at G H.size x H1) (z : H1.size = H.size + 1) (oq : ∀ q : Nat, q < H.size → H1[q]? = H[q]?) : Hd G A (us w H.size x) H1 := by
  refine ⟨fun b y hb => ?_, fun q hq => h.2 q (by omega)⟩
  by_cases hba : b = H.size
  · subst hba
    rw [us_same] at hb
    cases hb
    exact ⟨he, h.2 _ (Nat.le_refl _)⟩
  · rw [us_ne w x hba] at hb
    exact ⟨ce_kept (h.1 b y hb).1 (oq b (ce_lt (h.1 b y hb).1)), (h.1 b y hb).2⟩
theorem Hd.frame {G : Gd} {A B : Nat → Prop} {w : Wd} {H H1 : Heap} (h : Hd G A w H) (hz : H.size ≤ H1.size) (hk : ∀ q : Nat, q < H.size → ¬ B q → H1[q]? = H[q]?) (hd : ∀ a x, w a = some x → ¬ B a) : Hd G A w H1 :=
  ⟨fun a x hx => ⟨ce_kept (h.1 a x hx).1 (hk a (ce_lt (h.1 a x hx).1) (hd a x hx)), (h.1 a x hx).2⟩, fun q hq => h.2 q (Nat.le_trans hz hq)⟩
theorem KK.warm {G : Gd} {s U : State} (hW : s.WarmedH U.vm) (h : KK G s) : KK G U := by
  refine ⟨va_K.moved hW.alike h.1, fun w hw => ?_, va_AO.moved hW.alike h.2.2.1, va_AO.moved hW.alike h.2.2.2⟩
  have h1 := h.2.1 w hw
  have h2 := (List.mem_filter.mp hw).2
  cases w <;> first | exact va_Nw.warmF hW h1 | exact va_Nw.warmM hW h1 | cases h2
theorem KK.call {G : Gd} {U : State} {g : JFrame} {mk : MethodId} {a : Array Value} (h : KK G U) : KK G (U.calling g mk a) := by
  refine ⟨va_K.moved (u := U) (U := U.calling g mk a) (Vm.Alike.refl U.vm) h.1, fun w hw => ?_, va_AO.moved (u := U) (U := U.calling g mk a) (Vm.Alike.refl U.vm) h.2.2.1, va_AO.moved (u := U) (U := U.calling g mk a) (Vm.Alike.refl U.vm) h.2.2.2⟩
  have h1 := h.2.1 w hw
  have h2 := (List.mem_filter.mp hw).2
  cases w <;> first | exact va_Nw.same rfl (rfl : U.vm = (U.calling g mk a).vm) h1 | cases h2
/-! the locals by their places -/
def lp_has (ls : Array Slot) (n : Nat) (lv : List (Option Value)) : Prop := ls.size = n ∧ lv_wf ls ∧ ∀ (i : Nat) (v : Value), lv[i]? = some (some v) → ls[i]? = some (Slot.val v)
def lp_ok (lv : List (Option Value)) (i : Nat) : Bool := match i with
  | 0 => true
  | j + 1 => match lv[j]? with
    | some (some (.long _)) => false
    | some (some (.double _)) => false
    | _ => true
theorem lp_cat {lv : List (Option Value)} {i j : Nat} {v : Value} (h : lp_ok lv i = true) (hj : lv[j]? = some (some v)) (hji : j + 1 = i) : v.category = 1 := by
  subst hji
  unfold lp_ok at h
  simp only [hj] at h
  cases v <;> first | rfl | cases h
theorem lp_store1 {ls : Array Slot} {n : Nat} {lv : List (Option Value)} {i : Nat} {v : Value} (h : lp_has ls n lv) (hi : i < n) (hc : v.category = 1) (hk : lp_ok lv i = true) :
    ∃ ls', storeLocals ls i v = some ls' ∧ lp_has ls' n (lv.set i (some v)) := by
  obtain ⟨ls', e', h0⟩ := lv_store1 (l := []) ⟨h.1, h.2.1, fun _ q => by cases q⟩ hi hc
  refine ⟨ls', e', h0.1, h0.2.1, fun j u hj => ?_⟩
  by_cases hji : j = i
  · subst hji
    rw [List.getElem?_set] at hj
    rw [if_pos rfl] at hj
    split at hj
    · cases hj
      exact h0.2.2 (j, v) List.mem_cons_self
    · cases hj
  · rw [List.getElem?_set_ne (Ne.symm hji)] at hj
    obtain ⟨ls2, e2, h2⟩ := lv_store1 (l := [(j, u)]) (v := v) ⟨h.1, h.2.1, fun q hq => by rw [List.mem_singleton.mp hq]; exact h.2.2 j u hj⟩ hi hc
    rw [e'] at e2
    cases e2
    refine h2.2.2 (j, u) (List.mem_cons_of_mem _ (List.mem_filter.mpr ⟨List.mem_singleton.mpr rfl, ?_⟩))
    by_cases h3 : j + 1 = i
    · have h4 := lp_cat hk hj h3
      simp [hji, h4]
    · simp [hji, h3]
theorem lp_store2 {ls : Array Slot} {n : Nat} {lv : List (Option Value)} {i : Nat} {v : Value} (h : lp_has ls n lv) (hi : i + 1 < n) (hc : v.category = 2) (hk : lp_ok lv i = true) :
    ∃ ls', storeLocals ls i v = some ls' ∧ lp_has ls' n ((lv.set i (some v)).set (i + 1) none) := by
  obtain ⟨ls', e', h0⟩ := lv_store2 (l := []) ⟨h.1, h.2.1, fun _ q => by cases q⟩ hi hc
  refine ⟨ls', e', h0.1, h0.2.1, fun j u hj => ?_⟩
  by_cases hj1 : j = i + 1
  · subst hj1
    rw [List.getElem?_set] at hj
    rw [if_pos rfl] at hj
    split at hj <;> cases hj
  · rw [List.getElem?_set_ne (Ne.symm hj1)] at hj
    by_cases hji : j = i
    · subst hji
      rw [List.getElem?_set] at hj
      rw [if_pos rfl] at hj
      split at hj
      · cases hj
        exact h0.2.2 (j, v) List.mem_cons_self
      · cases hj
    · rw [List.getElem?_set_ne (Ne.symm hji)] at hj
      obtain ⟨ls2, e2, h2⟩ := lv_store2 (l := [(j, u)]) (v := v) ⟨h.1, h.2.1, fun q hq => by rw [List.mem_singleton.mp hq]; exact h.2.2 j u hj⟩ hi hc
      rw [e'] at e2
      cases e2
      refine h2.2.2 (j, u) (List.mem_cons_of_mem _ (List.mem_filter.mpr ⟨List.mem_singleton.mpr rfl, ?_⟩))
      by_cases h3 : j + 1 = i
      · have h4 := lp_cat hk hj h3
        simp [hji, hj1, h4]
      · simp [hji, hj1, h3]
/-! what holds all through a method's run, and the judgement: from here the machine comes to Q -/
def Fx (p : Program) (s : State) (m : MethodId) (args : Array Value) (meth : Method) (c : Code) (own : String) (cc : ByteArray) (nL : Nat) (rt : Option FieldType) (G : Gd) : Prop :=
  p.tables.exec = Jvm.exec ∧ c.code = cc ∧ c.maxLocals = nL ∧ s.vm.findClass own = some m.cls ∧ (∀ w ∈ GW, w.before args s = true) ∧ KK G s ∧ meth.sig.returnType = rt ∧ meth.locks = false
def K (p : Program) (l : Launch) (e : Env) (s : State) (m : MethodId) (args : Array Value) (below : List Frame) (meth : Method) (c : Code) (R : Room) (own : String) (cc : ByteArray) (nL : Nat) (rt : Option FieldType) (G : Gd) (A : Nat → Prop) (Q : State → Prop) (k n : Nat) (I : Heap → Prop) (pc : Nat) (lv : List (Option Value)) (st : List Value) : Prop :=
  Fx p s m args meth c own cc nL rt G → ∀ (H : Heap) (locs : List Loc) (ls : Array Slot), I H → va_S A s.heap H locs → lp_has ls nL lv → W p l e R s m args below meth c H locs k n Q (F0 m pc ls st)
section KROWS
variable {p : Program} {l : Launch} {e : Env} {s : State} {m : MethodId} {args : Array Value} {below : List Frame} {meth : Method} {c : Code} {R : Room} {own : String} {cc : ByteArray} {nL : Nat} {rt : Option FieldType} {G : Gd} {A : Nat → Prop} {Q : State → Prop} {k n : Nat} {I : Heap → Prop} {pc : Nat} {lv : List (Option Value)} {st : List Value}
theorem k_iconst {z : Int} {v : Int32} (hd : decode cc pc = .ok (.iconst z, 1)) (hv : Int32.ofInt z = v) (kk : K p l e s m args below meth c R own cc nL rt G A Q k n I (pc + 1) lv (.int v :: st)) : K p l e s m args below meth c R own cc nL rt G A Q k n I pc lv st := fun F H locs ls hI hS hl => lv_iconst F.1 F.2.1 hd hv (kk F H locs ls hI hS hl)
theorem k_bipush {z : Int} {v : Int32} (hd : decode cc pc = .ok (.bipush z, 2)) (hv : (Int8.ofInt z).toInt32 = v) (kk : K p l e s m args below meth c R own cc nL rt G A Q k n I (pc + 2) lv (.int v :: st)) : K p l e s m args below meth c R own cc nL rt G A Q k n I pc lv st := fun F H locs ls hI hS hl => lv_bipush F.1 F.2.1 hd hv (kk F H locs ls hI hS hl)
theorem k_sipush {z : Int} {v : Int32} (hd : decode cc pc = .ok (.sipush z, 3)) (hv : (Int16.ofInt z).toInt32 = v) (kk : K p l e s m args below meth c R own cc nL rt G A Q k n I (pc + 3) lv (.int v :: st)) : K p l e s m args below meth c R own cc nL rt G A Q k n I pc lv st := fun F H locs ls hI hS hl => lv_sipush F.1 F.2.1 hd hv (kk F H locs ls hI hS hl)
theorem k_lconst {z : Fin 2} {v : Int64} (hd : decode cc pc = .ok (.lconst z, 1)) (hv : Int64.ofNat (z : Nat) = v) (kk : K p l e s m args below meth c R own cc nL rt G A Q k n I (pc + 1) lv (.long v :: st)) : K p l e s m args below meth c R own cc nL rt G A Q k n I pc lv st := fun F H locs ls hI hS hl => lv_lconst F.1 F.2.1 hd hv (kk F H locs ls hI hS hl)
theorem k_null (hd : decode cc pc = .ok (.aconst_null, 1)) (kk : K p l e s m args below meth c R own cc nL rt G A Q k n I (pc + 1) lv (.null :: st)) : K p l e s m args below meth c R own cc nL rt G A Q k n I pc lv st := fun F H locs ls hI hS hl => lv_null F.1 F.2.1 hd (kk F H locs ls hI hS hl)
theorem k_iload_n {j : Fin 4} {x : Int32} (hd : decode cc pc = .ok (.iload_n j, 1)) (hv : lv[(j : Nat)]? = some (some (.int x))) (kk : K p l e s m args below meth c R own cc nL rt G A Q k n I (pc + 1) lv (.int x :: st)) : K p l e s m args below meth c R own cc nL rt G A Q k n I pc lv st := fun F H locs ls hI hS hl => lv_iload_n F.1 F.2.1 hd rfl (hl.2.2 _ _ hv) (kk F H locs ls hI hS hl)
theorem k_iload {j : Nat} {x : Int32} (hd : decode cc pc = .ok (.iload j, 2)) (hv : lv[j]? = some (some (.int x))) (kk : K p l e s m args below meth c R own cc nL rt G A Q k n I (pc + 2) lv (.int x :: st)) : K p l e s m args below meth c R own cc nL rt G A Q k n I pc lv st := fun F H locs ls hI hS hl => lv_iload F.1 F.2.1 hd (hl.2.2 _ _ hv) (kk F H locs ls hI hS hl)
theorem k_lload_n {j : Fin 4} {x : Int64} (hd : decode cc pc = .ok (.lload_n j, 1)) (hv : lv[(j : Nat)]? = some (some (.long x))) (kk : K p l e s m args below meth c R own cc nL rt G A Q k n I (pc + 1) lv (.long x :: st)) : K p l e s m args below meth c R own cc nL rt G A Q k n I pc lv st := fun F H locs ls hI hS hl => lv_lload_n F.1 F.2.1 hd rfl (hl.2.2 _ _ hv) (kk F H locs ls hI hS hl)
theorem k_lload {j : Nat} {x : Int64} (hd : decode cc pc = .ok (.lload j, 2)) (hv : lv[j]? = some (some (.long x))) (kk : K p l e s m args below meth c R own cc nL rt G A Q k n I (pc + 2) lv (.long x :: st)) : K p l e s m args below meth c R own cc nL rt G A Q k n I pc lv st := fun F H locs ls hI hS hl => lv_lload F.1 F.2.1 hd (hl.2.2 _ _ hv) (kk F H locs ls hI hS hl)
theorem k_aload_n {j : Fin 4} {x : Nat} (hd : decode cc pc = .ok (.aload_n j, 1)) (hv : lv[(j : Nat)]? = some (some (.ref x))) (kk : K p l e s m args below meth c R own cc nL rt G A Q k n I (pc + 1) lv (.ref x :: st)) : K p l e s m args below meth c R own cc nL rt G A Q k n I pc lv st := fun F H locs ls hI hS hl => lv_aload_n F.1 F.2.1 hd rfl (hl.2.2 _ _ hv) (kk F H locs ls hI hS hl)
theorem k_aload {j : Nat} {x : Nat} (hd : decode cc pc = .ok (.aload j, 2)) (hv : lv[j]? = some (some (.ref x))) (kk : K p l e s m args below meth c R own cc nL rt G A Q k n I (pc + 2) lv (.ref x :: st)) : K p l e s m args below meth c R own cc nL rt G A Q k n I pc lv st := fun F H locs ls hI hS hl => lv_aload F.1 F.2.1 hd (hl.2.2 _ _ hv) (kk F H locs ls hI hS hl)
theorem k_aload_nN {j : Fin 4} (hd : decode cc pc = .ok (.aload_n j, 1)) (hv : lv[(j : Nat)]? = some (some .null)) (kk : K p l e s m args below meth c R own cc nL rt G A Q k n I (pc + 1) lv (.null :: st)) : K p l e s m args below meth c R own cc nL rt G A Q k n I pc lv st := fun F H locs ls hI hS hl => lv_aload_nN F.1 F.2.1 hd rfl (hl.2.2 _ _ hv) (kk F H locs ls hI hS hl)
theorem k_aloadN {j : Nat} (hd : decode cc pc = .ok (.aload j, 2)) (hv : lv[j]? = some (some .null)) (kk : K p l e s m args below meth c R own cc nL rt G A Q k n I (pc + 2) lv (.null :: st)) : K p l e s m args below meth c R own cc nL rt G A Q k n I pc lv st := fun F H locs ls hI hS hl => lv_aloadN F.1 F.2.1 hd (hl.2.2 _ _ hv) (kk F H locs ls hI hS hl)
theorem k_istore {j : Nat} {x : Int32} (hd : decode cc pc = .ok (.istore j, 2)) (hn : j < nL) (hk : lp_ok lv j = true) (kk : K p l e s m args below meth c R own cc nL rt G A Q k n I (pc + 2) (lv.set j (some (Value.int x))) st) : K p l e s m args below meth c R own cc nL rt G A Q k n I pc lv ((Value.int x) :: st) := by
  intro F H locs ls hI hS hl
  obtain ⟨ls', e', h'⟩ := lp_store1 (v := (Value.int x)) hl hn rfl hk
  intro T hT X
  obtain ⟨t, a, b⟩ := kk F H locs ls' hI hS h' T hT X
  refine ⟨t, ?_, b⟩
  have hexec := F.1
  have hb := F.2.1
  jvm_step X.here [X.here.top, ↓top_set X.here.top, hexec, hb, hd, e', Value.isRef]
  exact a
theorem k_istore_n {i : Fin 4} {x : Int32} (hd : decode cc pc = .ok (.istore_n i, 1)) (hn : (i : Nat) < nL) (hk : lp_ok lv (i : Nat) = true) (kk : K p l e s m args below meth c R own cc nL rt G A Q k n I (pc + 1) (lv.set (i : Nat) (some (Value.int x))) st) : K p l e s m args below meth c R own cc nL rt G A Q k n I pc lv ((Value.int x) :: st) := by
  intro F H locs ls hI hS hl
  obtain ⟨ls', e', h'⟩ := lp_store1 (v := (Value.int x)) hl hn rfl hk
  intro T hT X
  obtain ⟨t, a, b⟩ := kk F H locs ls' hI hS h' T hT X
  refine ⟨t, ?_, b⟩
  have hexec := F.1
  have hb := F.2.1
  jvm_step X.here [X.here.top, ↓top_set X.here.top, hexec, hb, hd, e', Value.isRef]
  exact a
theorem k_lstore {j : Nat} {x : Int64} (hd : decode cc pc = .ok (.lstore j, 2)) (hn : j + 1 < nL) (hk : lp_ok lv j = true) (kk : K p l e s m args below meth c R own cc nL rt G A Q k n I (pc + 2) ((lv.set j (some (Value.long x))).set (j + 1) none) st) : K p l e s m args below meth c R own cc nL rt G A Q k n I pc lv ((Value.long x) :: st) := by
  intro F H locs ls hI hS hl
  obtain ⟨ls', e', h'⟩ := lp_store2 (v := (Value.long x)) hl hn rfl hk
  intro T hT X
  obtain ⟨t, a, b⟩ := kk F H locs ls' hI hS h' T hT X
  refine ⟨t, ?_, b⟩
  have hexec := F.1
  have hb := F.2.1
  jvm_step X.here [X.here.top, ↓top_set X.here.top, hexec, hb, hd, e', Value.isRef]
  exact a
theorem k_lstore_n {i : Fin 4} {x : Int64} (hd : decode cc pc = .ok (.lstore_n i, 1)) (hn : (i : Nat) + 1 < nL) (hk : lp_ok lv (i : Nat) = true) (kk : K p l e s m args below meth c R own cc nL rt G A Q k n I (pc + 1) ((lv.set (i : Nat) (some (Value.long x))).set ((i : Nat) + 1) none) st) : K p l e s m args below meth c R own cc nL rt G A Q k n I pc lv ((Value.long x) :: st) := by
  intro F H locs ls hI hS hl
  obtain ⟨ls', e', h'⟩ := lp_store2 (v := (Value.long x)) hl hn rfl hk
  intro T hT X
  obtain ⟨t, a, b⟩ := kk F H locs ls' hI hS h' T hT X
  refine ⟨t, ?_, b⟩
  have hexec := F.1
  have hb := F.2.1
  jvm_step X.here [X.here.top, ↓top_set X.here.top, hexec, hb, hd, e', Value.isRef]
  exact a
theorem k_astore {j : Nat} {x : Nat} (hd : decode cc pc = .ok (.astore j, 2)) (hn : j < nL) (hk : lp_ok lv j = true) (kk : K p l e s m args below meth c R own cc nL rt G A Q k n I (pc + 2) (lv.set j (some (Value.ref x))) st) : K p l e s m args below meth c R own cc nL rt G A Q k n I pc lv ((Value.ref x) :: st) := by
  intro F H locs ls hI hS hl
  obtain ⟨ls', e', h'⟩ := lp_store1 (v := (Value.ref x)) hl hn rfl hk
  intro T hT X
  obtain ⟨t, a, b⟩ := kk F H locs ls' hI hS h' T hT X
  refine ⟨t, ?_, b⟩
  have hexec := F.1
  have hb := F.2.1
  jvm_step X.here [X.here.top, ↓top_set X.here.top, hexec, hb, hd, e', Value.isRef]
  exact a
theorem k_astore_n {i : Fin 4} {x : Nat} (hd : decode cc pc = .ok (.astore_n i, 1)) (hn : (i : Nat) < nL) (hk : lp_ok lv (i : Nat) = true) (kk : K p l e s m args below meth c R own cc nL rt G A Q k n I (pc + 1) (lv.set (i : Nat) (some (Value.ref x))) st) : K p l e s m args below meth c R own cc nL rt G A Q k n I pc lv ((Value.ref x) :: st) := by
  intro F H locs ls hI hS hl
  obtain ⟨ls', e', h'⟩ := lp_store1 (v := (Value.ref x)) hl hn rfl hk
  intro T hT X
  obtain ⟨t, a, b⟩ := kk F H locs ls' hI hS h' T hT X
  refine ⟨t, ?_, b⟩
  have hexec := F.1
  have hb := F.2.1
  jvm_step X.here [X.here.top, ↓top_set X.here.top, hexec, hb, hd, e', Value.isRef]
  exact a
theorem k_astoreN {j : Nat} (hd : decode cc pc = .ok (.astore j, 2)) (hn : j < nL) (hk : lp_ok lv j = true) (kk : K p l e s m args below meth c R own cc nL rt G A Q k n I (pc + 2) (lv.set j (some Value.null)) st) : K p l e s m args below meth c R own cc nL rt G A Q k n I pc lv (Value.null :: st) := by
  intro F H locs ls hI hS hl
  obtain ⟨ls', e', h'⟩ := lp_store1 (v := Value.null) hl hn rfl hk
  intro T hT X
  obtain ⟨t, a, b⟩ := kk F H locs ls' hI hS h' T hT X
  refine ⟨t, ?_, b⟩
  have hexec := F.1
  have hb := F.2.1
  jvm_step X.here [X.here.top, ↓top_set X.here.top, hexec, hb, hd, e', Value.isRef]
  exact a
theorem k_astore_nN {i : Fin 4} (hd : decode cc pc = .ok (.astore_n i, 1)) (hn : (i : Nat) < nL) (hk : lp_ok lv (i : Nat) = true) (kk : K p l e s m args below meth c R own cc nL rt G A Q k n I (pc + 1) (lv.set (i : Nat) (some Value.null)) st) : K p l e s m args below meth c R own cc nL rt G A Q k n I pc lv (Value.null :: st) := by
  intro F H locs ls hI hS hl
  obtain ⟨ls', e', h'⟩ := lp_store1 (v := Value.null) hl hn rfl hk
  intro T hT X
  obtain ⟨t, a, b⟩ := kk F H locs ls' hI hS h' T hT X
  refine ⟨t, ?_, b⟩
  have hexec := F.1
  have hb := F.2.1
  jvm_step X.here [X.here.top, ↓top_set X.here.top, hexec, hb, hd, e', Value.isRef]
  exact a
theorem k_iinc {j : Nat} {z : Int} {x v : Int32} (hd : decode cc pc = .ok (.iinc j z, 3)) (hx : lv[j]? = some (some (.int x))) (hv : x + Int32.ofInt z = v) (hn : j < nL) (hk : lp_ok lv j = true) (kk : K p l e s m args below meth c R own cc nL rt G A Q k n I (pc + 3) (lv.set j (some (.int v))) st) : K p l e s m args below meth c R own cc nL rt G A Q k n I pc lv st := by
  intro F H locs ls hI hS hl
  subst hv
  have hg := hl.2.2 _ _ hx
  obtain ⟨ls', e', h'⟩ := lp_store1 (v := .int (x + Int32.ofInt z)) hl hn rfl hk
  intro T hT X
  obtain ⟨t, a, b⟩ := kk F H locs ls' hI hS h' T hT X
  refine ⟨t, ?_, b⟩
  have hexec := F.1
  have hb := F.2.1
  jvm_step X.here [X.here.top, ↓top_set X.here.top, hexec, hb, hd, hg, e']
  exact a
theorem k_iadd {x y : Int32} (hd : decode cc pc = .ok (.iadd, 1)) (kk : K p l e s m args below meth c R own cc nL rt G A Q k n I (pc + 1) lv (.int (x + y) :: st)) : K p l e s m args below meth c R own cc nL rt G A Q k n I pc lv (.int y :: .int x :: st) := fun F H locs ls hI hS hl => lv_iadd F.1 F.2.1 hd (kk F H locs ls hI hS hl)
theorem k_isub {x y : Int32} (hd : decode cc pc = .ok (.isub, 1)) (kk : K p l e s m args below meth c R own cc nL rt G A Q k n I (pc + 1) lv (.int (x - y) :: st)) : K p l e s m args below meth c R own cc nL rt G A Q k n I pc lv (.int y :: .int x :: st) := fun F H locs ls hI hS hl => lv_isub F.1 F.2.1 hd (kk F H locs ls hI hS hl)
theorem k_imul {x y : Int32} (hd : decode cc pc = .ok (.imul, 1)) (kk : K p l e s m args below meth c R own cc nL rt G A Q k n I (pc + 1) lv (.int (x * y) :: st)) : K p l e s m args below meth c R own cc nL rt G A Q k n I pc lv (.int y :: .int x :: st) := fun F H locs ls hI hS hl => lv_imul F.1 F.2.1 hd (kk F H locs ls hI hS hl)
theorem k_iand {x y : Int32} (hd : decode cc pc = .ok (.iand, 1)) (kk : K p l e s m args below meth c R own cc nL rt G A Q k n I (pc + 1) lv (.int (x &&& y) :: st)) : K p l e s m args below meth c R own cc nL rt G A Q k n I pc lv (.int y :: .int x :: st) := fun F H locs ls hI hS hl => lv_iand F.1 F.2.1 hd (kk F H locs ls hI hS hl)
theorem k_ior {x y : Int32} (hd : decode cc pc = .ok (.ior, 1)) (kk : K p l e s m args below meth c R own cc nL rt G A Q k n I (pc + 1) lv (.int (x ||| y) :: st)) : K p l e s m args below meth c R own cc nL rt G A Q k n I pc lv (.int y :: .int x :: st) := fun F H locs ls hI hS hl => lv_ior F.1 F.2.1 hd (kk F H locs ls hI hS hl)
theorem k_ixor {x y : Int32} (hd : decode cc pc = .ok (.ixor, 1)) (kk : K p l e s m args below meth c R own cc nL rt G A Q k n I (pc + 1) lv (.int (x ^^^ y) :: st)) : K p l e s m args below meth c R own cc nL rt G A Q k n I pc lv (.int y :: .int x :: st) := fun F H locs ls hI hS hl => lv_ixor F.1 F.2.1 hd (kk F H locs ls hI hS hl)
theorem k_idiv {x y : Int32} (hd : decode cc pc = .ok (.idiv, 1)) (hne : ¬ y = 0) (kk : K p l e s m args below meth c R own cc nL rt G A Q k n I (pc + 1) lv (.int (x / y) :: st)) : K p l e s m args below meth c R own cc nL rt G A Q k n I pc lv (.int y :: .int x :: st) := fun F H locs ls hI hS hl => lv_idiv F.1 F.2.1 hd hne (kk F H locs ls hI hS hl)
theorem k_irem {x y : Int32} (hd : decode cc pc = .ok (.irem, 1)) (hne : ¬ y = 0) (kk : K p l e s m args below meth c R own cc nL rt G A Q k n I (pc + 1) lv (.int (x - x / y * y) :: st)) : K p l e s m args below meth c R own cc nL rt G A Q k n I pc lv (.int y :: .int x :: st) := fun F H locs ls hI hS hl => lv_irem F.1 F.2.1 hd hne (kk F H locs ls hI hS hl)
theorem k_ladd {x y : Int64} (hd : decode cc pc = .ok (.ladd, 1)) (kk : K p l e s m args below meth c R own cc nL rt G A Q k n I (pc + 1) lv (.long (x + y) :: st)) : K p l e s m args below meth c R own cc nL rt G A Q k n I pc lv (.long y :: .long x :: st) := fun F H locs ls hI hS hl => lv_ladd F.1 F.2.1 hd (kk F H locs ls hI hS hl)
theorem k_lsub {x y : Int64} (hd : decode cc pc = .ok (.lsub, 1)) (kk : K p l e s m args below meth c R own cc nL rt G A Q k n I (pc + 1) lv (.long (x - y) :: st)) : K p l e s m args below meth c R own cc nL rt G A Q k n I pc lv (.long y :: .long x :: st) := fun F H locs ls hI hS hl => lv_lsub F.1 F.2.1 hd (kk F H locs ls hI hS hl)
theorem k_lmul {x y : Int64} (hd : decode cc pc = .ok (.lmul, 1)) (kk : K p l e s m args below meth c R own cc nL rt G A Q k n I (pc + 1) lv (.long (x * y) :: st)) : K p l e s m args below meth c R own cc nL rt G A Q k n I pc lv (.long y :: .long x :: st) := fun F H locs ls hI hS hl => lv_lmul F.1 F.2.1 hd (kk F H locs ls hI hS hl)
theorem k_land {x y : Int64} (hd : decode cc pc = .ok (.land, 1)) (kk : K p l e s m args below meth c R own cc nL rt G A Q k n I (pc + 1) lv (.long (x &&& y) :: st)) : K p l e s m args below meth c R own cc nL rt G A Q k n I pc lv (.long y :: .long x :: st) := fun F H locs ls hI hS hl => lv_land F.1 F.2.1 hd (kk F H locs ls hI hS hl)
theorem k_lor {x y : Int64} (hd : decode cc pc = .ok (.lor, 1)) (kk : K p l e s m args below meth c R own cc nL rt G A Q k n I (pc + 1) lv (.long (x ||| y) :: st)) : K p l e s m args below meth c R own cc nL rt G A Q k n I pc lv (.long y :: .long x :: st) := fun F H locs ls hI hS hl => lv_lor F.1 F.2.1 hd (kk F H locs ls hI hS hl)
theorem k_lxor {x y : Int64} (hd : decode cc pc = .ok (.lxor, 1)) (kk : K p l e s m args below meth c R own cc nL rt G A Q k n I (pc + 1) lv (.long (x ^^^ y) :: st)) : K p l e s m args below meth c R own cc nL rt G A Q k n I pc lv (.long y :: .long x :: st) := fun F H locs ls hI hS hl => lv_lxor F.1 F.2.1 hd (kk F H locs ls hI hS hl)
theorem k_lushr {x : Int64} {y : Int32} (hd : decode cc pc = .ok (.lushr, 1)) (kk : K p l e s m args below meth c R own cc nL rt G A Q k n I (pc + 1) lv (.long (x.toUInt64 >>> (y.toInt64.toUInt64 &&& Int64.toUInt64 63)).toInt64 :: st)) : K p l e s m args below meth c R own cc nL rt G A Q k n I pc lv (.int y :: .long x :: st) := fun F H locs ls hI hS hl => lv_lushr F.1 F.2.1 hd rfl (kk F H locs ls hI hS hl)
theorem k_lshl {x : Int64} {y : Int32} (hd : decode cc pc = .ok (.lshl, 1)) (kk : K p l e s m args below meth c R own cc nL rt G A Q k n I (pc + 1) lv (.long (x <<< (y.toInt64 &&& 63)) :: st)) : K p l e s m args below meth c R own cc nL rt G A Q k n I pc lv (.int y :: .long x :: st) := fun F H locs ls hI hS hl => lv_lshl F.1 F.2.1 hd rfl (kk F H locs ls hI hS hl)
theorem k_i2l {x : Int32} (hd : decode cc pc = .ok (.i2l, 1)) (kk : K p l e s m args below meth c R own cc nL rt G A Q k n I (pc + 1) lv (.long x.toInt64 :: st)) : K p l e s m args below meth c R own cc nL rt G A Q k n I pc lv (.int x :: st) := fun F H locs ls hI hS hl => lv_i2l F.1 F.2.1 hd rfl (kk F H locs ls hI hS hl)
theorem k_l2i {x : Int64} (hd : decode cc pc = .ok (.l2i, 1)) (kk : K p l e s m args below meth c R own cc nL rt G A Q k n I (pc + 1) lv (.int x.toInt32 :: st)) : K p l e s m args below meth c R own cc nL rt G A Q k n I pc lv (.long x :: st) := fun F H locs ls hI hS hl => lv_l2i F.1 F.2.1 hd rfl (kk F H locs ls hI hS hl)
theorem k_lcmp {x y : Int64} (hd : decode cc pc = .ok (.lcmp, 1)) (kk : K p l e s m args below meth c R own cc nL rt G A Q k n I (pc + 1) lv (.int (lg_cmp x y) :: st)) : K p l e s m args below meth c R own cc nL rt G A Q k n I pc lv (.long y :: .long x :: st) := fun F H locs ls hI hS hl => W.lcmp F.1 F.2.1 hd (kk F H locs ls hI hS hl)
theorem k_dup {v : Value} (hd : decode cc pc = .ok (.dup, 1)) (hc : v.category = 1) (kk : K p l e s m args below meth c R own cc nL rt G A Q k n I (pc + 1) lv (v :: v :: st)) : K p l e s m args below meth c R own cc nL rt G A Q k n I pc lv (v :: st) := fun F H locs ls hI hS hl => lv_dup F.1 F.2.1 hd hc (kk F H locs ls hI hS hl)
theorem k_pop {v : Value} (hd : decode cc pc = .ok (.pop, 1)) (hc : v.category = 1) (kk : K p l e s m args below meth c R own cc nL rt G A Q k n I (pc + 1) lv st) : K p l e s m args below meth c R own cc nL rt G A Q k n I pc lv (v :: st) := fun F H locs ls hI hS hl => lv_pop F.1 F.2.1 hd hc (kk F H locs ls hI hS hl)
theorem k_dup2 {v u : Value} (hd : decode cc pc = .ok (.dup2, 1)) (hc : v.category = 1) (hu : u.category = 1) (kk : K p l e s m args below meth c R own cc nL rt G A Q k n I (pc + 1) lv (v :: u :: v :: u :: st)) : K p l e s m args below meth c R own cc nL rt G A Q k n I pc lv (v :: u :: st) := fun F H locs ls hI hS hl => lv_dup2_11 F.1 F.2.1 hd hc hu (kk F H locs ls hI hS hl)
theorem k_goto {off : Int} {tgt : Nat} (hd : decode cc pc = .ok (.goto off, 3)) (ht : (pc : Int) + off = (tgt : Int)) (kk : K p l e s m args below meth c R own cc nL rt G A Q k n I tgt lv st) : K p l e s m args below meth c R own cc nL rt G A Q k n I pc lv st := fun F H locs ls hI hS hl => lv_goto F.1 F.2.1 hd ht (kk F H locs ls hI hS hl)
theorem k_ifnull {x : Nat} {off : Int} (hd : decode cc pc = .ok (.ifnull off, 3)) (kk : K p l e s m args below meth c R own cc nL rt G A Q k n I (pc + 3) lv st) : K p l e s m args below meth c R own cc nL rt G A Q k n I pc lv (.ref x :: st) := fun F H locs ls hI hS hl => lv_ifnull F.1 F.2.1 hd (kk F H locs ls hI hS hl)
theorem k_ifnullN {off : Int} {tgt : Nat} (hd : decode cc pc = .ok (.ifnull off, 3)) (ht : (pc : Int) + off = (tgt : Int)) (kk : K p l e s m args below meth c R own cc nL rt G A Q k n I tgt lv st) : K p l e s m args below meth c R own cc nL rt G A Q k n I pc lv (.null :: st) := fun F H locs ls hI hS hl => lv_ifnullN F.1 F.2.1 hd ht (kk F H locs ls hI hS hl)
theorem k_ifnonnull {x : Nat} {off : Int} {tgt : Nat} (hd : decode cc pc = .ok (.ifnonnull off, 3)) (ht : (pc : Int) + off = (tgt : Int)) (kk : K p l e s m args below meth c R own cc nL rt G A Q k n I tgt lv st) : K p l e s m args below meth c R own cc nL rt G A Q k n I pc lv (.ref x :: st) := fun F H locs ls hI hS hl => lv_ifnonnull F.1 F.2.1 hd ht (kk F H locs ls hI hS hl)
theorem k_ifnonnullN {off : Int} (hd : decode cc pc = .ok (.ifnonnull off, 3)) (kk : K p l e s m args below meth c R own cc nL rt G A Q k n I (pc + 3) lv st) : K p l e s m args below meth c R own cc nL rt G A Q k n I pc lv (.null :: st) := fun F H locs ls hI hS hl => lv_ifnonnullN F.1 F.2.1 hd (kk F H locs ls hI hS hl)
theorem k_if_eq {x : Int32} {off : Int} {tgt : Nat} (hd : decode cc pc = .ok (.ifCond .eq off, 3)) (ht : (pc : Int) + off = (tgt : Int)) (kt : x = 0 → K p l e s m args below meth c R own cc nL rt G A Q k n I tgt lv st) (kf : ¬ (x = 0) → K p l e s m args below meth c R own cc nL rt G A Q k n I (pc + 3) lv st) : K p l e s m args below meth c R own cc nL rt G A Q k n I pc lv (.int x :: st) := fun F H locs ls hI hS hl => lv_if_eq F.1 F.2.1 hd ht (fun h => kt h F H locs ls hI hS hl) (fun h => kf h F H locs ls hI hS hl)
theorem k_icmp_eq {x y : Int32} {off : Int} {tgt : Nat} (hd : decode cc pc = .ok (.if_icmp .eq off, 3)) (ht : (pc : Int) + off = (tgt : Int)) (kt : x = y → K p l e s m args below meth c R own cc nL rt G A Q k n I tgt lv st) (kf : ¬ (x = y) → K p l e s m args below meth c R own cc nL rt G A Q k n I (pc + 3) lv st) : K p l e s m args below meth c R own cc nL rt G A Q k n I pc lv (.int y :: .int x :: st) := fun F H locs ls hI hS hl => lv_icmp_eq F.1 F.2.1 hd ht (fun h => kt h F H locs ls hI hS hl) (fun h => kf h F H locs ls hI hS hl)
theorem k_if_ne {x : Int32} {off : Int} {tgt : Nat} (hd : decode cc pc = .ok (.ifCond .ne off, 3)) (ht : (pc : Int) + off = (tgt : Int)) (kt : ¬ x = 0 → K p l e s m args below meth c R own cc nL rt G A Q k n I tgt lv st) (kf : x = 0 → K p l e s m args below meth c R own cc nL rt G A Q k n I (pc + 3) lv st) : K p l e s m args below meth c R own cc nL rt G A Q k n I pc lv (.int x :: st) := fun F H locs ls hI hS hl => lv_if_ne F.1 F.2.1 hd ht (fun h => kt h F H locs ls hI hS hl) (fun h => kf h F H locs ls hI hS hl)
theorem k_icmp_ne {x y : Int32} {off : Int} {tgt : Nat} (hd : decode cc pc = .ok (.if_icmp .ne off, 3)) (ht : (pc : Int) + off = (tgt : Int)) (kt : ¬ x = y → K p l e s m args below meth c R own cc nL rt G A Q k n I tgt lv st) (kf : x = y → K p l e s m args below meth c R own cc nL rt G A Q k n I (pc + 3) lv st) : K p l e s m args below meth c R own cc nL rt G A Q k n I pc lv (.int y :: .int x :: st) := fun F H locs ls hI hS hl => lv_icmp_ne F.1 F.2.1 hd ht (fun h => kt h F H locs ls hI hS hl) (fun h => kf h F H locs ls hI hS hl)
theorem k_if_lt {x : Int32} {off : Int} {tgt : Nat} (hd : decode cc pc = .ok (.ifCond .lt off, 3)) (ht : (pc : Int) + off = (tgt : Int)) (kt : x < 0 → K p l e s m args below meth c R own cc nL rt G A Q k n I tgt lv st) (kf : ¬ (x < 0) → K p l e s m args below meth c R own cc nL rt G A Q k n I (pc + 3) lv st) : K p l e s m args below meth c R own cc nL rt G A Q k n I pc lv (.int x :: st) := fun F H locs ls hI hS hl => lv_if_lt F.1 F.2.1 hd ht (fun h => kt h F H locs ls hI hS hl) (fun h => kf h F H locs ls hI hS hl)
theorem k_icmp_lt {x y : Int32} {off : Int} {tgt : Nat} (hd : decode cc pc = .ok (.if_icmp .lt off, 3)) (ht : (pc : Int) + off = (tgt : Int)) (kt : x < y → K p l e s m args below meth c R own cc nL rt G A Q k n I tgt lv st) (kf : ¬ (x < y) → K p l e s m args below meth c R own cc nL rt G A Q k n I (pc + 3) lv st) : K p l e s m args below meth c R own cc nL rt G A Q k n I pc lv (.int y :: .int x :: st) := fun F H locs ls hI hS hl => lv_icmp_lt F.1 F.2.1 hd ht (fun h => kt h F H locs ls hI hS hl) (fun h => kf h F H locs ls hI hS hl)
theorem k_if_ge {x : Int32} {off : Int} {tgt : Nat} (hd : decode cc pc = .ok (.ifCond .ge off, 3)) (ht : (pc : Int) + off = (tgt : Int)) (kt : 0 ≤ x → K p l e s m args below meth c R own cc nL rt G A Q k n I tgt lv st) (kf : ¬ (0 ≤ x) → K p l e s m args below meth c R own cc nL rt G A Q k n I (pc + 3) lv st) : K p l e s m args below meth c R own cc nL rt G A Q k n I pc lv (.int x :: st) := fun F H locs ls hI hS hl => lv_if_ge F.1 F.2.1 hd ht (fun h => kt h F H locs ls hI hS hl) (fun h => kf h F H locs ls hI hS hl)
theorem k_icmp_ge {x y : Int32} {off : Int} {tgt : Nat} (hd : decode cc pc = .ok (.if_icmp .ge off, 3)) (ht : (pc : Int) + off = (tgt : Int)) (kt : y ≤ x → K p l e s m args below meth c R own cc nL rt G A Q k n I tgt lv st) (kf : ¬ (y ≤ x) → K p l e s m args below meth c R own cc nL rt G A Q k n I (pc + 3) lv st) : K p l e s m args below meth c R own cc nL rt G A Q k n I pc lv (.int y :: .int x :: st) := fun F H locs ls hI hS hl => lv_icmp_ge F.1 F.2.1 hd ht (fun h => kt h F H locs ls hI hS hl) (fun h => kf h F H locs ls hI hS hl)
theorem k_if_gt {x : Int32} {off : Int} {tgt : Nat} (hd : decode cc pc = .ok (.ifCond .gt off, 3)) (ht : (pc : Int) + off = (tgt : Int)) (kt : 0 < x → K p l e s m args below meth c R own cc nL rt G A Q k n I tgt lv st) (kf : ¬ (0 < x) → K p l e s m args below meth c R own cc nL rt G A Q k n I (pc + 3) lv st) : K p l e s m args below meth c R own cc nL rt G A Q k n I pc lv (.int x :: st) := fun F H locs ls hI hS hl => lv_if_gt F.1 F.2.1 hd ht (fun h => kt h F H locs ls hI hS hl) (fun h => kf h F H locs ls hI hS hl)
theorem k_icmp_gt {x y : Int32} {off : Int} {tgt : Nat} (hd : decode cc pc = .ok (.if_icmp .gt off, 3)) (ht : (pc : Int) + off = (tgt : Int)) (kt : y < x → K p l e s m args below meth c R own cc nL rt G A Q k n I tgt lv st) (kf : ¬ (y < x) → K p l e s m args below meth c R own cc nL rt G A Q k n I (pc + 3) lv st) : K p l e s m args below meth c R own cc nL rt G A Q k n I pc lv (.int y :: .int x :: st) := fun F H locs ls hI hS hl => lv_icmp_gt F.1 F.2.1 hd ht (fun h => kt h F H locs ls hI hS hl) (fun h => kf h F H locs ls hI hS hl)
theorem k_if_le {x : Int32} {off : Int} {tgt : Nat} (hd : decode cc pc = .ok (.ifCond .le off, 3)) (ht : (pc : Int) + off = (tgt : Int)) (kt : x ≤ 0 → K p l e s m args below meth c R own cc nL rt G A Q k n I tgt lv st) (kf : ¬ (x ≤ 0) → K p l e s m args below meth c R own cc nL rt G A Q k n I (pc + 3) lv st) : K p l e s m args below meth c R own cc nL rt G A Q k n I pc lv (.int x :: st) := fun F H locs ls hI hS hl => lv_if_le F.1 F.2.1 hd ht (fun h => kt h F H locs ls hI hS hl) (fun h => kf h F H locs ls hI hS hl)
theorem k_icmp_le {x y : Int32} {off : Int} {tgt : Nat} (hd : decode cc pc = .ok (.if_icmp .le off, 3)) (ht : (pc : Int) + off = (tgt : Int)) (kt : x ≤ y → K p l e s m args below meth c R own cc nL rt G A Q k n I tgt lv st) (kf : ¬ (x ≤ y) → K p l e s m args below meth c R own cc nL rt G A Q k n I (pc + 3) lv st) : K p l e s m args below meth c R own cc nL rt G A Q k n I pc lv (.int y :: .int x :: st) := fun F H locs ls hI hS hl => lv_icmp_le F.1 F.2.1 hd ht (fun h => kt h F H locs ls hI hS hl) (fun h => kf h F H locs ls hI hS hl)
theorem k_ldc2 {index : Nat} {v : Int64} (hc : Cond.constantLong own index v ∈ GW) (hd : decode cc pc = .ok (.ldc2_w index, 3)) (kk : K p l e s m args below meth c R own cc nL rt G A Q k n I (pc + 3) lv (.long v :: st)) : K p l e s m args below meth c R own cc nL rt G A Q k n I pc lv st := fun F H locs ls hI hS hl => lv_ldc2 F.1 F.2.1 F.2.2.2.1 (F.2.2.2.2.1 _ hc) hd (kk F H locs ls hI hS hl)
theorem k_tableOut {dflt lo hi : Int} {offs : Array Int} {len : Nat} {x : Int32} {tgt : Nat} (hd : decode cc pc = .ok (.tableswitch dflt lo hi offs, len)) (h : x.toInt < lo ∨ hi < x.toInt) (ht : (pc : Int) + dflt = (tgt : Int)) (kk : K p l e s m args below meth c R own cc nL rt G A Q k n I tgt lv st) : K p l e s m args below meth c R own cc nL rt G A Q k n I pc lv (.int x :: st) := fun F H locs ls hI hS hl => lv_tableOut F.1 F.2.1 hd h ht (kk F H locs ls hI hS hl)
theorem k_tableIn {dflt lo hi : Int} {offs : Array Int} {len : Nat} {x : Int32} {off : Int} {tgt : Nat} (hd : decode cc pc = .ok (.tableswitch dflt lo hi offs, len)) (h1 : ¬ x.toInt < lo) (h2 : ¬ hi < x.toInt) (ho : offs[(x.toInt - lo).toNat]? = some off) (ht : (pc : Int) + off = (tgt : Int)) (kk : K p l e s m args below meth c R own cc nL rt G A Q k n I tgt lv st) : K p l e s m args below meth c R own cc nL rt G A Q k n I pc lv (.int x :: st) := fun F H locs ls hI hS hl => lv_tableIn F.1 F.2.1 hd h1 h2 ho ht (kk F H locs ls hI hS hl)
theorem k_lv {lv2 : List (Option Value)} (h : ∀ (i : Nat) (v : Value), lv2[i]? = some (some v) → lv[i]? = some (some v)) (kk : K p l e s m args below meth c R own cc nL rt G A Q k n I pc lv2 st) : K p l e s m args below meth c R own cc nL rt G A Q k n I pc lv st := fun F H locs ls hI hS hl => kk F H locs ls hI hS ⟨hl.1, hl.2.1, fun i v hv => hl.2.2 i v (h i v hv)⟩
theorem k_I {I2 : Heap → Prop} (h : ∀ H, I H → I2 H) (kk : K p l e s m args below meth c R own cc nL rt G A Q k n I2 pc lv st) : K p l e s m args below meth c R own cc nL rt G A Q k n I pc lv st := fun F H locs ls hI hS hl => kk F H locs ls (h H hI) hS hl
theorem k_ex {α : Type} {J : α → Heap → Prop} (kk : ∀ a, K p l e s m args below meth c R own cc nL rt G A Q k n (J a) pc lv st) : K p l e s m args below meth c R own cc nL rt G A Q k n (fun H => ∃ a, J a H) pc lv st := fun F H locs ls hI hS hl => by
  obtain ⟨a, ha⟩ := hI
  exact kk a F H locs ls ha hS hl
theorem k_pure {P : Prop} (kk : P → K p l e s m args below meth c R own cc nL rt G A Q k n I pc lv st) : K p l e s m args below meth c R own cc nL rt G A Q k n (fun H => P ∧ I H) pc lv st := fun F H locs ls hI hS hl => kk hI.1 F H locs ls hI.2 hS hl
theorem k_get_I {P : Prop} (h : ∀ H, I H → P) (kk : P → K p l e s m args below meth c R own cc nL rt G A Q k n I pc lv st) : K p l e s m args below meth c R own cc nL rt G A Q k n I pc lv st := fun F H locs ls hI hS hl => kk (h H hI) F H locs ls hI hS hl
theorem k_widen {k2 n2 : Nat} (h1 : k ≤ k2) (h2 : n ≤ n2) (kk : K p l e s m args below meth c R own cc nL rt G A Q k2 n2 I pc lv st) : K p l e s m args below meth c R own cc nL rt G A Q k n I pc lv st := fun F H locs ls hI hS hl => W.widen h1 h2 (kk F H locs ls hI hS hl)
theorem Hd.one {w : Wd} {H : Heap} {a : Nat} {o : Nat × List Value} (h : Hd G A w H) (ha : w a = some (.inr o)) : va_P G.1 classes [(a, .inr o)] H := by
  intro j q hj
  match j, hj with
  | 0, hj => cases hj; exact (h.1 a _ ha).1
  | j + 1, hj => simp at hj
theorem k_get {w : Wd} {a ci j index N : Nat} {C : String} {T : u_T} {fs : List Value} {v : Value} (hc : classes[ci]? = some (C, T, N)) (hin : ∀ w ∈ u_ws C T N, w ∈ GW) (hj : j < N) (hlink : Cond.fieldLink own index (T j).1 (T j).2.1 (T j).2.2.1 ∈ GW) (hd : decode cc pc = .ok (.getfield index, 3)) (ha : w a = some (.inr (ci, fs))) (hv : fs[j]? = some v) (kk : K p l e s m args below meth c R own cc nL rt G A Q k n (Hd G A w) (pc + 3) lv (v :: st)) : K p l e s m args below meth c R own cc nL rt G A Q k n (Hd G A w) pc lv (.ref a :: st) := fun F H locs ls hI hS hl => va_get F.1 F.2.1 F.2.2.2.2.1 hin F.2.2.2.1 F.2.2.2.2.2.1.1 (hI.one ha) 0 rfl hc j hj (F.2.2.2.2.1 _ hlink) (fun _ h9 => h9) hv hd (kk F H locs ls hI hS hl)
theorem k_getN {w : Wd} {a ci j index N : Nat} {C host : String} {T : u_T} {fs : List Value} {v : Value} (hc : classes[ci]? = some (C, T, N)) (hin : ∀ w ∈ u_ws C T N, w ∈ GW) (hj : j < N) (hlink : Cond.fieldLinkNest own index (T j).1 (T j).2.1 (T j).2.2.1 host ∈ NW) (hd : decode cc pc = .ok (.getfield index, 3)) (ha : w a = some (.inr (ci, fs))) (hv : fs[j]? = some v) (kk : K p l e s m args below meth c R own cc nL rt G A Q k n (Hd G A w) (pc + 3) lv (v :: st)) : K p l e s m args below meth c R own cc nL rt G A Q k n (Hd G A w) pc lv (.ref a :: st) := fun F H locs ls hI hS hl => va_getN F.1 F.2.1 F.2.2.2.2.1 hin F.2.2.2.1 F.2.2.2.2.2.1.1 (hI.one ha) 0 rfl hc j hj (va_Nw.use rfl (F.2.2.2.2.2.1.2.1 _ hlink)) (fun _ h9 => h9) hv hd (kk F H locs ls hI hS hl)
theorem k_put {w : Wd} {a ci j index N : Nat} {C : String} {T : u_T} {fs : List Value} {v : Value} {ty : FieldType} (ty0 : Nat → FieldType) (hc : classes[ci]? = some (C, T, N)) (hin : ∀ w ∈ u_ws C T N, w ∈ GW) (hty : ∀ k, k < N → parseFieldDescriptor (T k).2.2.1 = some (ty0 k)) (hnm : ∀ a, a < N → ∀ b, b < N → a ≠ b → (T a).2.1 ≠ (T b).2.1) (hj : j < N) (hlink : Cond.fieldLink own index (T j).1 (T j).2.1 (T j).2.2.1 ∈ GW) (hfin : (T j).2.2.2 = false) (hde : parseFieldDescriptor (T j).2.2.1 = some ty) (hd : decode cc pc = .ok (.putfield index, 3)) (ha : w a = some (.inr (ci, fs))) (hn : narrow ty v = v) (hfit : fits ty v = true) (hlen : j < fs.length) (kk : K p l e s m args below meth c R own cc nL rt G A Q k n (Hd G A (us w a (.inr (ci, fs.set j v)))) (pc + 3) lv st) : K p l e s m args below meth c R own cc nL rt G A Q k n (Hd G A w) pc lv (v :: .ref a :: st) := by
  intro F H locs ls hI hS hl
  have hts := F.2.2.2.2.1
  have hK := F.2.2.2.2.2.1.1
  have hap := va_apart (own := own) hts hin ty0 hty hnm hK hc
  obtain ⟨r, h1, cell, q1, q2, q3, q4⟩ := (hI.1 a _ ha).1
  have hr : r = (C, T, N) := Option.some.inj (h1.symm.trans hc)
  subst hr
  obtain ⟨hS1, hfc, kC, hkC, hkind⟩ := hK.1 ci _ hc
  obtain ⟨cf, kf, fi, f, hi, hsl⟩ := hS1 j hj
  have hlay := hts _ (hin _ (u_in_lay hj))
  unfold u_lay at hlay
  rw [if_neg (by rw [hfin]; decide)] at hlay
  have hst := (u_facts hfc hkC (u_lays hts hin hj) hi).1
  have h6 := u_store hfc hkC hkind hlay hi hde hn hfit
  refine W.putK F.1 F.2.1 (f := f) ⟨F.2.2.2.1, hts _ hlink, ⟨_, _, _, hi⟩, hst⟩ (by rw [q2]; exact h6) q1 q3 (by rw [hsl]; exact k2_hasslot (q4 j hj)) rfl rfl hd fun H' e1 e2 e3 => ?_
  rw [hsl] at e1 ⊢
  exact kk F H' _ ls (hI.set (hI.1 a _ ha).2 ⟨_, hc, t_OB.to (V := updV (vp_V fs) j v) ⟨_, e1, q2, q3, t_set q4 hap hj v⟩ (fun i _ => vp_updV_set hlen v i)⟩ e2 e3) (hS.put e2 e3 (hI.1 a _ ha).2) hl
theorem k_putN {w : Wd} {a ci j index N : Nat} {C host : String} {T : u_T} {fs : List Value} {v : Value} {ty : FieldType} (ty0 : Nat → FieldType) (hc : classes[ci]? = some (C, T, N)) (hin : ∀ w ∈ u_ws C T N, w ∈ GW) (hty : ∀ k, k < N → parseFieldDescriptor (T k).2.2.1 = some (ty0 k)) (hnm : ∀ a, a < N → ∀ b, b < N → a ≠ b → (T a).2.1 ≠ (T b).2.1) (hj : j < N) (hlink : Cond.fieldLinkNest own index (T j).1 (T j).2.1 (T j).2.2.1 host ∈ NW) (hfin : (T j).2.2.2 = false) (hde : parseFieldDescriptor (T j).2.2.1 = some ty) (hd : decode cc pc = .ok (.putfield index, 3)) (ha : w a = some (.inr (ci, fs))) (hn : narrow ty v = v) (hfit : fits ty v = true) (hlen : j < fs.length) (kk : K p l e s m args below meth c R own cc nL rt G A Q k n (Hd G A (us w a (.inr (ci, fs.set j v)))) (pc + 3) lv st) : K p l e s m args below meth c R own cc nL rt G A Q k n (Hd G A w) pc lv (v :: .ref a :: st) := by
  intro F H locs ls hI hS hl
  have hts := F.2.2.2.2.1
  have hK := F.2.2.2.2.2.1.1
  have hap := va_apart (own := own) hts hin ty0 hty hnm hK hc
  obtain ⟨r, h1, cell, q1, q2, q3, q4⟩ := (hI.1 a _ ha).1
  have hr : r = (C, T, N) := Option.some.inj (h1.symm.trans hc)
  subst hr
  obtain ⟨hS1, hfc, kC, hkC, hkind⟩ := hK.1 ci _ hc
  obtain ⟨cf, kf, fi, f, hi, hsl⟩ := hS1 j hj
  have hlay := hts _ (hin _ (u_in_lay hj))
  unfold u_lay at hlay
  rw [if_neg (by rw [hfin]; decide)] at hlay
  have hst := (u_facts hfc hkC (u_lays hts hin hj) hi).1
  have h6 := u_store hfc hkC hkind hlay hi hde hn hfit
  refine va_WputK F.1 F.2.1 (f := f) F.2.2.2.1 (va_Nw.use rfl (F.2.2.2.2.2.1.2.1 _ hlink)) hi hst (by rw [q2]; exact h6) q1 q3 (by rw [hsl]; exact k2_hasslot (q4 j hj)) rfl rfl hd fun H' e1 e2 e3 => ?_
  rw [hsl] at e1 ⊢
  exact kk F H' _ ls (hI.set (hI.1 a _ ha).2 ⟨_, hc, t_OB.to (V := updV (vp_V fs) j v) ⟨_, e1, q2, q3, t_set q4 hap hj v⟩ (fun i _ => vp_updV_set hlen v i)⟩ e2 e3) (hS.put e2 e3 (hI.1 a _ ha).2) hl
theorem k_putF {w : Wd} {a ci j index N : Nat} {C : String} {T : u_T} {fs : List Value} {v : Value} {ty : FieldType} (ty0 : Nat → FieldType) (hc : classes[ci]? = some (C, T, N)) (hin : ∀ w ∈ u_ws C T N, w ∈ GW) (hty : ∀ k, k < N → parseFieldDescriptor (T k).2.2.1 = some (ty0 k)) (hnm : ∀ a, a < N → ∀ b, b < N → a ≠ b → (T a).2.1 ≠ (T b).2.1) (hj : j < N) (hlink : Cond.fieldLink own index (T j).1 (T j).2.1 (T j).2.2.1 ∈ GW) (hfin : (T j).2.2.2 = true) (hini : meth.name = "<init>") (hdecl : (T j).1 = own) (hde : parseFieldDescriptor (T j).2.2.1 = some ty) (hd : decode cc pc = .ok (.putfield index, 3)) (ha : w a = some (.inr (ci, fs))) (hn : narrow ty v = v) (hfit : fits ty v = true) (hlen : j < fs.length) (kk : K p l e s m args below meth c R own cc nL rt G A Q k n (Hd G A (us w a (.inr (ci, fs.set j v)))) (pc + 3) lv st) : K p l e s m args below meth c R own cc nL rt G A Q k n (Hd G A w) pc lv (v :: .ref a :: st) := by
  intro F H locs ls hI hS hl
  have hts := F.2.2.2.2.1
  have hK := F.2.2.2.2.2.1.1
  have hap := va_apart (own := own) hts hin ty0 hty hnm hK hc
  obtain ⟨r, h1, cell, q1, q2, q3, q4⟩ := (hI.1 a _ ha).1
  have hr : r = (C, T, N) := Option.some.inj (h1.symm.trans hc)
  subst hr
  obtain ⟨hS1, hfc, kC, hkC, hkind⟩ := hK.1 ci _ hc
  obtain ⟨cf, kf, fi, f, hi, hsl⟩ := hS1 j hj
  have hlay := hts _ (hin _ (u_in_lay hj))
  unfold u_lay at hlay
  rw [if_pos hfin] at hlay
  have hst := (u_facts hfc hkC (u_lays hts hin hj) hi).1
  have hcf : m.cls = cf := by
    obtain ⟨_, _, c', _, _, _, -, -, hf', -, -, -, hown2, -⟩ := Cond.laysFinal_spec hlay
    have e1 : c' = cf := by have := hi.symm.trans hf'; simp at this; exact this.1.symm
    rw [hdecl] at hown2
    rw [← e1]; exact Option.some.inj (F.2.2.2.1.symm.trans hown2)
  have h6 := u_fits hfc hkC hkind (Or.inr hlay) hi hde hn hfit
  refine W.putFinK F.1 F.2.1 F.2.2.2.1 (hts _ hlink) hi hst hcf hini (by rw [q2]; exact h6) q1 q3 (by rw [hsl]; exact k2_hasslot (q4 j hj)) rfl rfl hd fun H' e1 e2 e3 => ?_
  rw [hsl] at e1 ⊢
  exact kk F H' _ ls (hI.set (hI.1 a _ ha).2 ⟨_, hc, t_OB.to (V := updV (vp_V fs) j v) ⟨_, e1, q2, q3, t_set q4 hap hj v⟩ (fun i _ => vp_updV_set hlen v i)⟩ e2 e3) (hS.put e2 e3 (hI.1 a _ ha).2) hl
theorem k_iald {w : Wd} {a N j : Nat} {i : Int32} {g : Nat → Int32} (hd : decode cc pc = .ok (.iaload, 1)) (ha : w a = some (.inl (0, N, fun q => .int (g q)))) (hi : i = nI j) (hj : j < N) (hN : N < 2 ^ 31) (kk : K p l e s m args below meth c R own cc nL rt G A Q k n (Hd G A w) (pc + 1) lv (.int (g j) :: st)) : K p l e s m args below meth c R own cc nL rt G A Q k n (Hd G A w) pc lv (.int i :: .ref a :: st) := by
  intro F H locs ls hI hS hl
  subst hi
  have hcl := nI_clamp (n := j) (by omega)
  exact W.iald (v := .int (g j)) F.1 F.2.1 (hI.1 a _ ha).1 ((F.2.2.2.2.2.1.1.2 0 _ rfl).1 N _) (fun q => by cases q) (by rw [arrV_size]; exact nI_in hj hN) (by rw [hcl, arrV_read _ _ hj]) rfl rfl hd (kk F H locs ls hI hS hl)
theorem k_lald {w : Wd} {a N j : Nat} {i : Int32} {g : Nat → Int64} (hd : decode cc pc = .ok (.laload, 1)) (ha : w a = some (.inl (1, N, fun q => .long (g q)))) (hi : i = nI j) (hj : j < N) (hN : N < 2 ^ 31) (kk : K p l e s m args below meth c R own cc nL rt G A Q k n (Hd G A w) (pc + 1) lv (.long (g j) :: st)) : K p l e s m args below meth c R own cc nL rt G A Q k n (Hd G A w) pc lv (.int i :: .ref a :: st) := by
  intro F H locs ls hI hS hl
  subst hi
  have hcl := nI_clamp (n := j) (by omega)
  exact W.lald (v := .long (g j)) F.1 F.2.1 (hI.1 a _ ha).1 ((F.2.2.2.2.2.1.1.2 1 _ rfl).1 N _) (fun q => by cases q) (by rw [arrV_size]; exact nI_in hj hN) (by rw [hcl, arrV_read _ _ hj]) rfl rfl hd (kk F H locs ls hI hS hl)
theorem k_zald {w : Wd} {a N j : Nat} {i : Int32} {g : Nat → Int32} (hd : decode cc pc = .ok (.baload, 1)) (ha : w a = some (.inl (2, N, fun q => .int (g q)))) (hi : i = nI j) (hj : j < N) (hN : N < 2 ^ 31) (kk : K p l e s m args below meth c R own cc nL rt G A Q k n (Hd G A w) (pc + 1) lv (.int (g j) :: st)) : K p l e s m args below meth c R own cc nL rt G A Q k n (Hd G A w) pc lv (.int i :: .ref a :: st) := by
  intro F H locs ls hI hS hl
  subst hi
  have hcl := nI_clamp (n := j) (by omega)
  exact W.zald (v := .int (g j)) F.1 F.2.1 (hI.1 a _ ha).1 ((F.2.2.2.2.2.1.1.2 2 _ rfl).1 N _) (fun q => by cases q) (by rw [arrV_size]; exact nI_in hj hN) (by rw [hcl, arrV_read _ _ hj]) rfl rfl hd (kk F H locs ls hI hS hl)
theorem k_aald {w : Wd} {a N j t b : Nat} {C : String} {i : Int32} {g : Nat → Option Nat} (ht : (tysG G)[t]? = some (G.2 t, .object C)) (hd : decode cc pc = .ok (.aaload, 1)) (ha : w a = some (.inl (t, N, fun q => va_rf (g q)))) (hi : i = nI j) (hj : j < N) (hN : N < 2 ^ 31) (hv : g j = some b) (kk : K p l e s m args below meth c R own cc nL rt G A Q k n (Hd G A w) (pc + 1) lv (.ref b :: st)) : K p l e s m args below meth c R own cc nL rt G A Q k n (Hd G A w) pc lv (.int i :: .ref a :: st) := by
  intro F H locs ls hI hS hl
  subst hi
  have hcl := nI_clamp (n := j) (by omega)
  exact W.aald (v := .ref b) (ty := .object C) F.1 F.2.1 (hI.1 a _ ha).1 ((F.2.2.2.2.2.1.1.2 t _ ht).1 N _) rfl (fun q => by cases q) (by rw [arrV_size]; exact nI_in hj hN) (by rw [hcl, arrV_read _ _ hj]; show some (va_rf (g j)) = _; rw [hv]; rfl) rfl rfl hd (kk F H locs ls hI hS hl)
theorem k_aaldN {w : Wd} {a N j t : Nat} {C : String} {i : Int32} {g : Nat → Option Nat} (ht : (tysG G)[t]? = some (G.2 t, .object C)) (hd : decode cc pc = .ok (.aaload, 1)) (ha : w a = some (.inl (t, N, fun q => va_rf (g q)))) (hi : i = nI j) (hj : j < N) (hN : N < 2 ^ 31) (hv : g j = none) (kk : K p l e s m args below meth c R own cc nL rt G A Q k n (Hd G A w) (pc + 1) lv (.null :: st)) : K p l e s m args below meth c R own cc nL rt G A Q k n (Hd G A w) pc lv (.int i :: .ref a :: st) := by
  intro F H locs ls hI hS hl
  subst hi
  have hcl := nI_clamp (n := j) (by omega)
  exact W.aald (v := .null) (ty := .object C) F.1 F.2.1 (hI.1 a _ ha).1 ((F.2.2.2.2.2.1.1.2 t _ ht).1 N _) rfl (fun q => by cases q) (by rw [arrV_size]; exact nI_in hj hN) (by rw [hcl, arrV_read _ _ hj]; show some (va_rf (g j)) = _; rw [hv]; rfl) rfl rfl hd (kk F H locs ls hI hS hl)
theorem k_iast {w : Wd} {a N j : Nat} {i : Int32} {x : Int32} {g : Nat → Int32} (hd : decode cc pc = .ok (.iastore, 1)) (ha : w a = some (.inl (0, N, fun q => .int (g q)))) (hi : i = nI j) (hj : j < N) (hN : N < 2 ^ 31) (kk : K p l e s m args below meth c R own cc nL rt G A Q k n (Hd G A (us w a (.inl (0, N, fun q => .int (va_up g j x q))))) (pc + 1) lv st) : K p l e s m args below meth c R own cc nL rt G A Q k n (Hd G A w) pc lv (.int x :: .int i :: .ref a :: st) := by
  intro F H locs ls hI hS hl
  subst hi
  have hcl := nI_clamp (n := j) (by omega)
  refine W.iast F.1 F.2.1 (hI.1 a _ ha).1 ((F.2.2.2.2.2.1.1.2 0 _ rfl).1 N _) (fun q => by cases q) (by rw [arrV_size]; exact nI_in hj hN) rfl rfl hd fun H1 e1 z oq => ?_
  refine kk F H1 _ ls (hI.set (hI.1 a _ ha).2 ?_ z oq) (hS.put z oq (hI.1 a _ ha).2) hl
  show H1[a]? = some (arrV _ _ _)
  rw [e1, hcl, arrV_store]
  congr 2
  funext q
  by_cases hq : q = j
  · subst hq
    simp [updV, va_up]
  · simp [updV, va_up, hq]
theorem k_last {w : Wd} {a N j : Nat} {i : Int32} {x : Int64} {g : Nat → Int64} (hd : decode cc pc = .ok (.lastore, 1)) (ha : w a = some (.inl (1, N, fun q => .long (g q)))) (hi : i = nI j) (hj : j < N) (hN : N < 2 ^ 31) (kk : K p l e s m args below meth c R own cc nL rt G A Q k n (Hd G A (us w a (.inl (1, N, fun q => .long (va_up g j x q))))) (pc + 1) lv st) : K p l e s m args below meth c R own cc nL rt G A Q k n (Hd G A w) pc lv (.long x :: .int i :: .ref a :: st) := by
  intro F H locs ls hI hS hl
  subst hi
  have hcl := nI_clamp (n := j) (by omega)
  refine W.last F.1 F.2.1 (hI.1 a _ ha).1 ((F.2.2.2.2.2.1.1.2 1 _ rfl).1 N _) (fun q => by cases q) (by rw [arrV_size]; exact nI_in hj hN) rfl rfl hd fun H1 e1 z oq => ?_
  refine kk F H1 _ ls (hI.set (hI.1 a _ ha).2 ?_ z oq) (hS.put z oq (hI.1 a _ ha).2) hl
  show H1[a]? = some (arrV _ _ _)
  rw [e1, hcl, arrV_store]
  congr 2
  funext q
  by_cases hq : q = j
  · subst hq
    simp [updV, va_up]
  · simp [updV, va_up, hq]
theorem k_zast {w : Wd} {a N j : Nat} {i : Int32} {x : Int32} {g : Nat → Int32} (hd : decode cc pc = .ok (.bastore, 1)) (ha : w a = some (.inl (2, N, fun q => .int (g q)))) (hi : i = nI j) (hj : j < N) (hN : N < 2 ^ 31) (hx : narrow .boolean (.int x) = .int x) (kk : K p l e s m args below meth c R own cc nL rt G A Q k n (Hd G A (us w a (.inl (2, N, fun q => .int (va_up g j x q))))) (pc + 1) lv st) : K p l e s m args below meth c R own cc nL rt G A Q k n (Hd G A w) pc lv (.int x :: .int i :: .ref a :: st) := by
  intro F H locs ls hI hS hl
  subst hi
  have hcl := nI_clamp (n := j) (by omega)
  refine W.zast F.1 F.2.1 (hI.1 a _ ha).1 ((F.2.2.2.2.2.1.1.2 2 _ rfl).1 N _) (fun q => by cases q) (by rw [arrV_size]; exact nI_in hj hN) rfl rfl hd fun H1 e1 z oq => ?_
  refine kk F H1 _ ls (hI.set (hI.1 a _ ha).2 ?_ z oq) (hS.put z oq (hI.1 a _ ha).2) hl
  show H1[a]? = some (arrV _ _ _)
  rw [e1, hcl, arrV_store]
  congr 2
  funext q
  by_cases hq : q = j
  · subst hq
    simp [updV, va_up, hx]
  · simp [updV, va_up, hq]
theorem k_aast {w : Wd} {a N M j t v ci : Nat} {C : String} {T : u_T} {vs : List Value} {i : Int32} {g : Nat → Option Nat} (ht : (tysG G)[t]? = some (G.2 t, .object C)) (hc : classes[ci]? = some (C, T, M)) (hd : decode cc pc = .ok (.aastore, 1)) (ha : w a = some (.inl (t, N, fun q => va_rf (g q)))) (hv : w v = some (.inr (ci, vs))) (hi : i = nI j) (hj : j < N) (hN : N < 2 ^ 31) (kk : K p l e s m args below meth c R own cc nL rt G A Q k n (Hd G A (us w a (.inl (t, N, fun q => va_rf (va_up g j (some v) q))))) (pc + 1) lv st) : K p l e s m args below meth c R own cc nL rt G A Q k n (Hd G A w) pc lv (.ref v :: .int i :: .ref a :: st) := by
  intro F H locs ls hI hS hl
  subst hi
  have hcl := nI_clamp (n := j) (by omega)
  have hK := F.2.2.2.2.2.1.1
  obtain ⟨r', hr', cellV, g1, g2, g3, -⟩ := (hI.1 v _ hv).1
  have hcls := (hK.1 ci _ hc).2
  obtain ⟨kA, comp, k1, k2, k3, -⟩ := (hK.2 t _ ht).2
  have hcomp : comp = G.1.1 ci := Option.some.inj (k3.symm.trans hcls.1)
  subst hcomp
  obtain ⟨kC, hkC, -⟩ := hcls.2
  refine W.aast F.1 F.2.1 (hI.1 a _ ha).1 (fun q h => by cases h) (fun h => by cases h) k1 k2 rfl hkC ⟨nI_pos (by omega), by rw [arrV_size, hcl]; exact hj⟩ g1 (fun q h => by rw [g3] at h; cases h) (by rw [g2]; exact hkC) (by rw [g2]; exact va_assign hcls) rfl rfl hd fun H1 e1 z oq => ?_
  refine kk F H1 _ ls (hI.set (hI.1 a _ ha).2 ?_ z oq) (hS.put z oq (hI.1 a _ ha).2) hl
  show H1[a]? = some (arrV _ _ _)
  rw [e1, hcl, arrV_store]
  congr 2
  funext q
  by_cases hq : q = j
  · subst hq
    simp [updV, va_up, va_rf]
  · simp [updV, va_up, hq]
theorem k_aastN {w : Wd} {a N j t : Nat} {C : String} {i : Int32} {g : Nat → Option Nat} (ht : (tysG G)[t]? = some (G.2 t, .object C)) (hd : decode cc pc = .ok (.aastore, 1)) (ha : w a = some (.inl (t, N, fun q => va_rf (g q)))) (hi : i = nI j) (hj : j < N) (hN : N < 2 ^ 31) (kk : K p l e s m args below meth c R own cc nL rt G A Q k n (Hd G A (us w a (.inl (t, N, fun q => va_rf (va_up g j none q))))) (pc + 1) lv st) : K p l e s m args below meth c R own cc nL rt G A Q k n (Hd G A w) pc lv (.null :: .int i :: .ref a :: st) := by
  intro F H locs ls hI hS hl
  subst hi
  have hcl := nI_clamp (n := j) (by omega)
  refine va_WaastN (C := C) F.1 F.2.1 (hI.1 a _ ha).1 ((F.2.2.2.2.2.1.1.2 t _ ht).1 N _) (fun h => by cases h) (by rw [arrV_size]; exact nI_in hj hN) rfl rfl hd fun H1 e1 z oq => ?_
  refine kk F H1 _ ls (hI.set (hI.1 a _ ha).2 ?_ z oq) (hS.put z oq (hI.1 a _ ha).2) hl
  show H1[a]? = some (arrV _ _ _)
  rw [e1, hcl, arrV_store]
  congr 2
  funext q
  by_cases hq : q = j
  · subst hq
    simp [updV, va_up, va_rf]
  · simp [updV, va_up, hq]
theorem k_alen {w : Wd} {a N t : Nat} {f : Nat → Value} {ty : FieldType} (ht : (tysG G)[t]? = some (G.2 t, ty)) (hd : decode cc pc = .ok (.arraylength, 1)) (ha : w a = some (.inl (t, N, f))) (kk : K p l e s m args below meth c R own cc nL rt G A Q k n (Hd G A w) (pc + 1) lv (.int (nI N) :: st)) : K p l e s m args below meth c R own cc nL rt G A Q k n (Hd G A w) pc lv (.ref a :: st) := fun F H locs ls hI hS hl => W.alen (n := nI N) F.1 F.2.1 (hI.1 a _ ha).1 ((F.2.2.2.2.2.1.1.2 t _ ht).1 N _) (by rw [arrV_size]; rfl) rfl rfl hd (kk F H locs ls hI hS hl)
theorem Hd.fresh {w : Wd} {H : Heap} (h : Hd G A w H) : w H.size = none := by
  cases hw : w H.size with
  | none => rfl
  | some x => exact absurd (ce_lt (h.1 _ _ hw).1) (Nat.lt_irrefl _)
theorem k_new {w : Wd} {ci index N : Nat} {C : String} {T : u_T} {fs : List Value} (ty0 : Nat → FieldType) (hc : classes[ci]? = some (C, T, N)) (hin : ∀ w ∈ u_ws C T N, w ∈ GW) (hty : ∀ k, k < N → parseFieldDescriptor (T k).2.2.1 = some (ty0 k)) (hcl : Cond.classLink own index C ∈ GW) (hinst : Cond.instantiable C N ∈ GW) (hini : Cond.initialized C ∈ GW) (hfs : ∀ j, j < N → defaultValue (ty0 j) = vp_V fs j) (hcells : k + 1 ≤ R.cells) (hslots : n + N ≤ R.slots) (hd : decode cc pc = .ok (.new index, 3)) (kk : ∀ q, w q = none → K p l e s m args below meth c R own cc nL rt G A Q (k + 1) (n + N) (Hd G A (us w q (.inr (ci, fs)))) (pc + 3) lv (.ref q :: st)) : K p l e s m args below meth c R own cc nL rt G A Q k n (Hd G A w) pc lv st := by
  intro F H locs ls hI hS hl
  have hts := F.2.2.2.2.1
  have hKn := F.2.2.2.2.2.1.1.1 ci _ hc
  refine W.newcK F.1 F.2.1 F.2.2.2.1 (hts _ hcl) (hts _ hinst) (hts _ hini) rfl hd hcells hslots hKn.2.1 rfl fun H1 kC hkC e1 z1 o1 => ?_
  refine kk H.size hI.fresh F H1 locs ls (hI.push ⟨_, hc, (u_born ty0 hts hin hKn hkC e1 hty).to hfs⟩ z1 o1) ⟨Nat.le_trans hS.1 (by omega), fun x h1 h2 => (o1 x (Nat.lt_of_lt_of_le h1 hS.1)).trans (hS.2.1 x h1 h2), hS.2.2⟩ hl
theorem k_newa {w : Wd} {atype : ArrayType} {ty : FieldType} {t N : Nat} {i : Int32} (hat : newarray.typeOf atype = ty) (harr : Cond.arrayClass (newarray.typeOf atype) ∈ GW) (ht : (tysG G)[t]? = some (G.2 t, ty)) (hra : ∀ U cA, va_RA U cA ty → U.vm.findClass ("[" ++ ty.toString) = some cA) (hi : i = nI N) (hN : N * componentBytes ty ≤ 536870912) (hN2 : N < 2 ^ 31) (hcells : k + 1 ≤ R.cells) (hslots : n + N ≤ R.slots) (hd : decode cc pc = .ok (.newarray atype, 2)) (kk : ∀ q, w q = none → K p l e s m args below meth c R own cc nL rt G A Q (k + 1) (n + N) (Hd G A (us w q (.inl (t, N, fun _ => defaultValue ty)))) (pc + 2) lv (.ref q :: st)) : K p l e s m args below meth c R own cc nL rt G A Q k n (Hd G A w) pc lv (.int i :: st) := by
  intro F H locs ls hI hS hl
  subst hat
  subst hi
  refine va_newaK F.1 F.2.1 (F.2.2.2.2.1 _ harr) rfl hd rfl (nI_pos hN2) (nI_clamp hN2) hN hcells hslots rfl fun H1 cA e1 z1 o1 hAr hNm => ?_
  have hcA : cA = G.2 t := Option.some.inj (hNm.symm.trans (hra s (G.2 t) (F.2.2.2.2.2.1.1.2 t _ ht).2))
  subst hcA
  exact kk H.size hI.fresh F H1 locs ls (hI.push e1 z1 o1) ⟨Nat.le_trans hS.1 (by omega), fun x h1 h2 => (o1 x (Nat.lt_of_lt_of_le h1 hS.1)).trans (hS.2.1 x h1 h2), hS.2.2⟩ hl
theorem k_anew {w : Wd} {index t N : Nat} {C : String} {i : Int32} (hcl : Cond.classLink own index C ∈ GW) (hao : ∀ U, KK G U → va_AO C U) (ht : (tysG G)[t]? = some (G.2 t, .object C)) (hi : i = nI N) (hN : N * 4 ≤ 536870912) (hN2 : N < 2 ^ 31) (hcells : k + 1 ≤ R.cells) (hslots : n + N ≤ R.slots) (hd : decode cc pc = .ok (.anewarray index, 3)) (kk : ∀ q, w q = none → K p l e s m args below meth c R own cc nL rt G A Q (k + 1) (n + N) (Hd G A (us w q (.inl (t, N, fun _ => .null)))) (pc + 3) lv (.ref q :: st)) : K p l e s m args below meth c R own cc nL rt G A Q k n (Hd G A w) pc lv (.int i :: st) := by
  intro F H locs ls hI hS hl
  subst hi
  have hcl2 := nI_clamp (n := N) hN2
  refine W.anew F.1 F.2.1 F.2.2.2.1 (F.2.2.2.2.1 _ hcl) (va_AO.use (hao s F.2.2.2.2.2.1)) rfl hd rfl (nI_pos hN2) (by rw [hcl2]; exact hN) hcells (by rw [hcl2]; exact hslots) fun cA kA comp f1 f2 f3 f4 => ?_
  obtain ⟨kA', comp', g1, g2, g3, g4⟩ := (F.2.2.2.2.2.1.1.2 t _ ht).2
  have hcA : cA = G.2 t := Option.some.inj (f1.symm.trans g4)
  subst hcA
  rw [hcl2]
  generalize hH1 : H.push ({ cls := G.2 t, slots := Array.replicate N .null, vm := .none } : Cell) = H1
  have z1 : H1.size = H.size + 1 := by rw [← hH1, Array.size_push]
  have e1 : H1[H.size]? = some (arrV (G.2 t) N (fun _ => .null)) := by rw [← hH1, Array.getElem?_push_size, ← arrV_new]
  have o1 : ∀ q : Nat, q < H.size → H1[q]? = H[q]? := fun q hq => by rw [← hH1, Array.getElem?_push, if_neg (Nat.ne_of_lt hq)]
  exact kk H.size hI.fresh F H1 locs ls (hI.push e1 z1 o1) ⟨Nat.le_trans hS.1 (by omega), fun x h1 h2 => (o1 x (Nat.lt_of_lt_of_le h1 hS.1)).trans (hS.2.1 x h1 h2), hS.2.2⟩ hl
end KROWS
end
section
/-! contracts: the arguments vs, the heap as I says: the method returns v, the heap as J says, nothing outside A changed -/
def rmm (d mc ms : Nat) : Room := { frames := d, cells := mc, slots := ms, locals := 40 * d }
def Qd (v : Option Value) (J : Heap → Prop) (A : Nat → Prop) : Array Value → State → Outcome → State → Prop := fun _ st oc t => (oc = .returned v ∧ J t.heap) ∧ va_F A st t
def Ct (d mc ms : Nat) (y : MethodName) (cc : ByteArray) (nL : Nat) (rt : Option FieldType) (G : Gd) (A : Nat → Prop) (vs : List Value) (I : Heap → Prop) (v : Option Value) (J : Heap → Prop) : Prop :=
  ∀ l : Launch, Met l y (Cond.code y cc nL rt :: GW) (rmm d mc ms) (va_Pc vs (fun U => I U.heap ∧ KK G U)) (Qd v J A) mc ms A
def lp0 : List Value → List (Option Value)
  | [] => []
  | .long x :: vs => some (.long x) :: none :: lp0 vs
  | .double x :: vs => some (.double x) :: none :: lp0 vs
  | v :: vs => some v :: lp0 vs
theorem lp0_mem : ∀ (vs : List Value) (b i : Nat) (v : Value), (lp0 vs)[i]? = some (some v) → (b + i, v) ∈ lv_args b vs := by
  intro vs
  induction vs with
  | nil => intro b i v h; simp [lp0] at h
  | cons u vs ih =>
    intro b i v h
    have two : ∀ {z : Value}, z.category = 2 → (some z :: none :: lp0 vs)[i]? = some (some v) → (b + i, v) ∈ lv_args b (z :: vs) := by
      intro z hz h
      match i, h with
      | 0, h => cases h; exact List.mem_cons_self
      | 1, h => simp at h
      | i + 2, h =>
        have h2 := ih (b + 2) i v (by simpa using h)
        have e : b + 2 + i = b + (i + 2) := by omega
        rw [e] at h2
        show _ ∈ _ :: lv_args (if z.category = 2 then b + 2 else b + 1) vs
        rw [if_pos hz]
        exact List.mem_cons_of_mem _ h2
    have one : ∀ {z : Value}, z.category = 1 → (some z :: lp0 vs)[i]? = some (some v) → (b + i, v) ∈ lv_args b (z :: vs) := by
      intro z hz h
      match i, h with
      | 0, h => cases h; exact List.mem_cons_self
      | i + 1, h =>
        have h2 := ih (b + 1) i v (by simpa using h)
        have e : b + 1 + i = b + (i + 1) := by omega
        rw [e] at h2
        show _ ∈ _ :: lv_args (if z.category = 2 then b + 2 else b + 1) vs
        rw [if_neg (by rw [hz]; decide)]
        exact List.mem_cons_of_mem _ h2
    cases u with
    | long x => exact two rfl h
    | double x => exact two rfl h
    | _ => exact one rfl h
theorem lp_entry (vs : List Value) {n : Nat} (q : Nat) (h : (lg_sl vs).length ≤ n) : lp_has ((lg_sl vs ++ List.replicate (n - (lg_sl vs).length) Slot.unset).toArray) n (lp0 vs ++ List.replicate q none) := by
  have h0 := lv_entry vs h
  refine ⟨h0.1, h0.2.1, fun i v hv => ?_⟩
  by_cases hi : i < (lp0 vs).length
  · rw [List.getElem?_append_left hi] at hv
    have h1 := lp0_mem vs 0 i v hv
    rw [Nat.zero_add] at h1
    exact h0.2.2 _ h1
  · rw [List.getElem?_append_right (by omega)] at hv
    rw [List.getElem?_replicate] at hv
    split at hv <;> cases hv
theorem Ct.of {d mc ms : Nat} {y : MethodName} {cc : ByteArray} {nL : Nat} {rt : Option FieldType} {G : Gd} {A : Nat → Prop} {vs : List Value} {I : Heap → Prop} {v : Option Value} {J : Heap → Prop} (q : Nat) {lv : List (Option Value)} (hlv : lp0 vs ++ List.replicate q none = lv) (hpl : plainName y.cls = true) (hlen : (lg_sl vs).length ≤ nL)
    (body : ∀ (p : Program) (l : Launch) (e : Env) (s : State) (m : MethodId) (below : List Frame) (meth : Method) (c : Code), (y.name = "<init>" → meth.name = "<init>") → K p l e s m vs.toArray below meth c (rmm d mc ms) y.cls cc nL rt G A (MQ below (Qd v J A) vs.toArray s mc ms A) 0 0 I 0 lv []) : Ct d mc ms y cc nL rt G A vs I v J := by
  intro l
  refine Met.ofW (cc := cc) (maxL := nL) (ret := rt) hpl rfl ?_
  intro p e s m args below meth c s₁ B hml hv
  obtain ⟨rfl, hI, hK⟩ := hv
  have hts := atoms_spec (ws := Cond.code y cc nL rt :: GW) B.pre
  rw [lg_entry_eq]
  subst hlv
  exact body p l e s m below meth c (fun h => by rw [← h]; exact (name_of_methodNamed B.named B.method).1) ⟨B.exec, B.bytes, hml, findClass_of_methodNamed B.named, fun w hw => hts w (List.mem_cons_of_mem _ hw), hK, B.returns, B.notSynchronized⟩ s.heap [] _ hI va_S.rf (lp_entry vs q hlen)
section KRET
variable {p : Program} {l : Launch} {e : Env} {s : State} {m : MethodId} {args : Array Value} {below : List Frame} {meth : Method} {c : Code} {R : Room} {own : String} {cc : ByteArray} {nL : Nat} {rt : Option FieldType} {G : Gd} {A : Nat → Prop} {Q : State → Prop} {k n mc ms : Nat} {I J : Heap → Prop} {pc : Nat} {lv : List (Option Value)} {st : List Value}
theorem k_iret {x r : Int32} (hd : decode cc pc = .ok (.ireturn, 1)) (hx : x = r) (hJ : ∀ H, I H → J H) (hk : k ≤ mc) (hn : n ≤ ms) : K p l e s m args below meth c R own cc nL (some .int) G A (MQ below (Qd (some (.int r)) J A) args s mc ms A) k n I pc lv [.int x] := by
  intro F H locs ls hI hS hl
  subst hx
  refine W.widen hk hn ?_
  exact W.iret F.1 F.2.1 F.2.2.2.2.2.2.1 (fun t ht hW => ⟨⟨rfl, by rw [ht]; exact hJ H hI⟩, hS.F ht⟩) hS.2.2 hd F.2.2.2.2.2.2.2
theorem k_lret {x r : Int64} (hd : decode cc pc = .ok (.lreturn, 1)) (hx : x = r) (hJ : ∀ H, I H → J H) (hk : k ≤ mc) (hn : n ≤ ms) : K p l e s m args below meth c R own cc nL (some .long) G A (MQ below (Qd (some (.long r)) J A) args s mc ms A) k n I pc lv [.long x] := by
  intro F H locs ls hI hS hl
  subst hx
  refine W.widen hk hn ?_
  exact W.lret F.1 F.2.1 F.2.2.2.2.2.2.1 (fun t ht hW => ⟨⟨rfl, by rw [ht]; exact hJ H hI⟩, hS.F ht⟩) hS.2.2 hd F.2.2.2.2.2.2.2
theorem k_zret {x r : Int32} (hd : decode cc pc = .ok (.ireturn, 1)) (hx : x = r) (hz : narrow .boolean (.int r) = .int r) (hJ : ∀ H, I H → J H) (hk : k ≤ mc) (hn : n ≤ ms) : K p l e s m args below meth c R own cc nL (some .boolean) G A (MQ below (Qd (some (.int r)) J A) args s mc ms A) k n I pc lv [.int x] := by
  intro F H locs ls hI hS hl
  subst hx
  refine W.widen hk hn ?_
  exact W.zret F.1 F.2.1 F.2.2.2.2.2.2.1 hz (fun t ht hW => ⟨⟨rfl, by rw [ht]; exact hJ H hI⟩, hS.F ht⟩) hS.2.2 hd F.2.2.2.2.2.2.2
theorem k_vret (hd : decode cc pc = .ok (.return_, 1)) (hJ : ∀ H, I H → J H) (hk : k ≤ mc) (hn : n ≤ ms) : K p l e s m args below meth c R own cc nL none G A (MQ below (Qd none J A) args s mc ms A) k n I pc lv [] := by
  intro F H locs ls hI hS hl
  refine W.widen hk hn ?_
  exact W.vret F.1 F.2.1 F.2.2.2.2.2.2.1 (fun t ht hW => ⟨⟨rfl, by rw [ht]; exact hJ H hI⟩, hS.F ht⟩) hS.2.2 hd F.2.2.2.2.2.2.2
theorem k_aret {C : String} {x : Value} {r : Option Nat} (hd : decode cc pc = .ok (.areturn, 1)) (hx : x = va_rf r) (hJ : ∀ H, I H → J H) (hk : k ≤ mc) (hn : n ≤ ms) : K p l e s m args below meth c R own cc nL (some (.object C)) G A (MQ below (Qd (some (va_rf r)) J A) args s mc ms A) k n I pc lv [x] := by
  intro F H locs ls hI hS hl
  subst hx
  refine W.widen hk hn ?_
  exact W.aret F.1 F.2.1 F.2.2.2.2.2.2.1 (Or.inl ⟨_, rfl⟩) (va_rf_or r) (fun t ht hW => ⟨⟨rfl, by rw [ht]; exact hJ H hI⟩, hS.F ht⟩) hS.2.2 hd F.2.2.2.2.2.2.2
end KRET
/-! call sites: what the tables say of them -/
def SiteV (own C : String) (index : Nat) (y : MethodName) (bytes : ByteArray) (maxL : Nat) (ret : Option FieldType) (ar : Nat) : Prop := Cond.methodLink own index y ∈ GW ∧ Cond.instanceMethod y ∈ GW ∧ Cond.selects C y y ∈ GW ∧ Cond.initialized C ∈ GW ∧ Cond.code y bytes maxL ret ∈ GW ∧ (y.cls = C ∧ y.cls ≠ "java/lang/invoke/MethodHandle" ∧ y.cls ≠ "java/lang/invoke/VarHandle" ∧ (parseMethodDescriptor y.desc).map (fun d => d.parameters.length) = some ar)
def SiteI (own : String) (index : Nat) (y : MethodName) (bytes : ByteArray) (maxL ar : Nat) : Prop := Cond.methodLink own index y ∈ GW ∧ Cond.instanceMethod y ∈ GW ∧ Cond.initialized y.cls ∈ GW ∧ Cond.code y bytes maxL none ∈ GW ∧ y.name = "<init>" ∧ (y.cls ≠ "java/lang/invoke/MethodHandle" ∧ y.cls ≠ "java/lang/invoke/VarHandle" ∧ (parseMethodDescriptor y.desc).map (fun d => d.parameters.length) = some ar)
def SiteS (own : String) (index : Nat) (y : MethodName) (bytes : ByteArray) (maxL : Nat) (ret : Option FieldType) (ar : Nat) : Prop := Cond.methodLink own index y ∈ GW ∧ Cond.static y ∈ GW ∧ Cond.initialized own ∈ GW ∧ Cond.code y bytes maxL ret ∈ GW ∧ (y.cls = own ∧ y.cls ≠ "java/lang/invoke/MethodHandle" ∧ y.cls ≠ "java/lang/invoke/VarHandle" ∧ (parseMethodDescriptor y.desc).map (fun d => d.parameters.length) = some ar)
def SiteSN (own host : String) (index : Nat) (y : MethodName) (bytes : ByteArray) (maxL : Nat) (ret : Option FieldType) (ar : Nat) : Prop := Cond.methodLinkNest own index y host ∈ NW ∧ Cond.static y ∈ GW ∧ Cond.initialized y.cls ∈ GW ∧ Cond.code y bytes maxL ret ∈ GW ∧ (y.cls ≠ "java/lang/invoke/MethodHandle" ∧ y.cls ≠ "java/lang/invoke/VarHandle" ∧ (parseMethodDescriptor y.desc).map (fun d => d.parameters.length) = some ar)
theorem gw_self {c : Cond} (hc : c ∈ GW) : GoodIn GW (c :: GW) := gw_in (fun _ h => h) hc
section KCALL
variable {p : Program} {l : Launch} {e : Env} {s : State} {m : MethodId} {args : Array Value} {below : List Frame} {meth : Method} {c : Code} {R : Room} {own : String} {cc : ByteArray} {nL : Nat} {rt : Option FieldType} {G : Gd} {A A1 : Nat → Prop} {Q : State → Prop} {k n d mc ms : Nat} {I I1 I2 J : Heap → Prop} {pc : Nat} {lv : List (Option Value)} {rest : List Value}
variable {y : MethodName} {bytes : ByteArray} {maxL ar index : Nat} {ret : Option FieldType} {C host : String} {b : Nat} {As : List Value} {v : Option Value} {H : Heap} {locs : List Loc} {ls : Array Slot} {st0 : List Value} {a : Array Value}
theorem run_go (hr : va_Run p l e R s m args below meth c H locs k n mc ms (F0 m pc ls st0) rest (Qd v J A1 a) A1) (hS : va_S A s.heap H locs) (hA : ∀ q, A1 q → A q)
    (kk : ∀ (H1 : Heap) (locs1 : List Loc), J H1 → H.size ≤ H1.size → (∀ q : Nat, q < H.size → ¬ A1 q → H1[q]? = H[q]?) → va_S A s.heap H1 locs1 → W p l e R s m args below meth c H1 locs1 (k + mc) (n + ms) Q (F0 m (pc + 3) ls (v.toList ++ rest))) : W p l e R s m args below meth c H locs k n Q (F0 m pc ls st0) := by
  intro T hT X
  obtain ⟨v', st₀, t, T', L, h0, X', hL, e1, e2, ⟨⟨hv, hj⟩, hz, hk⟩, st⟩ := hr T hT X
  cases hv
  rw [h0] at hz hk
  obtain ⟨t2, a1, b1⟩ := kk T'.heap (locs ++ L) (by rw [e1]; exact hj) (by rw [e1]; exact hz) (fun q h1 h2 => by rw [e1]; exact hk q h1 h2)
    ⟨Nat.le_trans hS.1 (by rw [e1]; exact hz), fun q h1 h2 => by rw [e1, hk q (Nat.lt_of_lt_of_le h1 hS.1) (fun z => h2 (hA q z))]; exact hS.2.1 q h1 h2, fun q hq => by
      rcases List.mem_append.mp hq with h | h
      · exact hS.2.2 q h
      · exact hA _ (hL q h)⟩ T' rfl X'
  exact ⟨t2, st t2 a1, b1⟩
/-- a call of an instance method, with the frame: what the callee doesn't own is as it was -/
theorem k_callV' (S : SiteV own C index y bytes maxL ret ar) (hC : Ct d mc ms y bytes maxL ret G A1 (.ref b :: As) I1 v J) (hd : decode cc pc = .ok (.invokevirtual index, 3)) (hn : As.length = ar) (hst : st0 = As.reverse ++ .ref b :: rest) (hrest : (rest.map fun v => v.category).sum ≤ 8) (hfr : d + 1 ≤ R.frames) (hlo : 8 + (maxL + 11) + 40 * d ≤ R.locals) (hce : k + mc ≤ R.cells) (hsl : n + ms ≤ R.slots)
    (hrecv : ∀ H, I H → KK G s → ∃ cell : Cell, H[b]? = some cell ∧ cell.vm.isStatics = false ∧ s.vm.findClass C = some cell.cls) (hpre : ∀ H, I H → I1 H) (hA : ∀ q, A1 q → A q)
    (hpost : ∀ H H1, I H → J H1 → H.size ≤ H1.size → (∀ q : Nat, q < H.size → ¬ A1 q → H1[q]? = H[q]?) → I2 H1)
    (kk : K p l e s m args below meth c R own cc nL rt G A Q (k + mc) (n + ms) I2 (pc + 3) lv (v.toList ++ rest)) : K p l e s m args below meth c R own cc nL rt G A Q k n I pc lv st0 := by
  intro F H locs ls hI hS hl
  have hts := F.2.2.2.2.1
  obtain ⟨s1, s2, s3, s4, s5, s6⟩ := S
  have hT : GoodIn GW (wsV own index C y (Cond.code y bytes maxL ret :: GW)) := by
    intro w hw
    have : w ∈ GW := by
      rcases List.mem_append.mp hw with h | h
      · simp only [List.mem_cons, List.not_mem_nil, or_false] at h
        rcases h with rfl | rfl | rfl | rfl
        · exact s1
        · exact s2
        · exact s3
        · exact s4
      · rcases List.mem_cons.mp h with h | h
        · rw [h]; exact s5
        · exact h
    exact ⟨this, good_of_word (gw_good this)⟩
  refine run_go (va_runV (As := As) (rest := rest) (b := b) ⟨F.1, F.2.1, F.2.2.1, F.2.2.2.1, hts⟩ (hC l) (cwV ar hts hT rfl rfl rfl s6 ⟨hfr, hlo⟩) ⟨fun a U g mk q => ⟨q.1, q.2.1, q.2.2.call⟩, hrecv H hI F.2.2.2.2.2.1, fun U hU hW => ⟨rfl, by rw [hU]; exact hpre H hI, F.2.2.2.2.2.1.warm hW⟩⟩ rfl hn hl.1 hst (lv_room hrest) hd ⟨hce, hsl⟩) hS hA (fun H1 locs1 hJ hz hk hS1 => kk F H1 locs1 ls (hpost H H1 hI hJ hz hk) hS1 hl)
theorem k_callI' (S : SiteI own index y bytes maxL ar) (hC : Ct d mc ms y bytes maxL none G A1 (.ref b :: As) I1 v J) (hd : decode cc pc = .ok (.invokespecial index, 3)) (hn : As.length = ar) (hst : st0 = As.reverse ++ .ref b :: rest) (hrest : (rest.map fun v => v.category).sum ≤ 8) (hfr : d + 1 ≤ R.frames) (hlo : 8 + (maxL + 11) + 40 * d ≤ R.locals) (hce : k + mc ≤ R.cells) (hsl : n + ms ≤ R.slots)
    (hpre : ∀ H, I H → I1 H) (hA : ∀ q, A1 q → A q) (hpost : ∀ H H1, I H → J H1 → H.size ≤ H1.size → (∀ q : Nat, q < H.size → ¬ A1 q → H1[q]? = H[q]?) → I2 H1)
    (kk : K p l e s m args below meth c R own cc nL rt G A Q (k + mc) (n + ms) I2 (pc + 3) lv (v.toList ++ rest)) : K p l e s m args below meth c R own cc nL rt G A Q k n I pc lv st0 := by
  intro F H locs ls hI hS hl
  have hts := F.2.2.2.2.1
  obtain ⟨s1, s2, s3, s4, s5, s6⟩ := S
  refine run_go (va_runI (As := As) (rest := rest) (b := b) ⟨F.1, F.2.1, F.2.2.1, F.2.2.2.1, hts⟩ (hC l) (cwI ar hts (gw_self s4) rfl rfl rfl (hts _ s3) (hts _ s1) (hts _ s2) s5 s6 ⟨hfr, hlo⟩) ⟨fun a U g mk q => ⟨q.1, q.2.1, q.2.2.call⟩, fun U hU hW => ⟨rfl, by rw [hU]; exact hpre H hI, F.2.2.2.2.2.1.warm hW⟩⟩ rfl hn hl.1 hst (lv_room hrest) hd ⟨hce, hsl⟩) hS hA (fun H1 locs1 hJ hz hk hS1 => kk F H1 locs1 ls (hpost H H1 hI hJ hz hk) hS1 hl)
theorem k_callS (S : SiteS own index y bytes maxL ret ar) (hC : Ct d mc ms y bytes maxL ret G A As I v J) (hd : decode cc pc = .ok (.invokestatic index, 3)) (hn : As.length = ar) (hst : st0 = As.reverse ++ rest) (hrest : (rest.map fun v => v.category).sum ≤ 8) (hfr : d + 1 ≤ R.frames) (hlo : 8 + (maxL + 11) + 40 * d ≤ R.locals) (hce : k + mc ≤ R.cells) (hsl : n + ms ≤ R.slots)
    (kk : K p l e s m args below meth c R own cc nL rt G A Q (k + mc) (n + ms) J (pc + 3) lv (v.toList ++ rest)) : K p l e s m args below meth c R own cc nL rt G A Q k n I pc lv st0 := by
  intro F H locs ls hI hS hl
  have hts := F.2.2.2.2.1
  obtain ⟨s1, s2, s3, s4, s5⟩ := S
  have hT : GoodIn GW (wsS own index y (Cond.code y bytes maxL ret :: GW)) := by
    intro w hw
    have : w ∈ GW := by
      rcases List.mem_append.mp hw with h | h
      · simp only [List.mem_cons, List.not_mem_nil, or_false] at h
        rcases h with rfl | rfl | rfl
        · exact s1
        · exact s2
        · exact s3
      · rcases List.mem_cons.mp h with h | h
        · rw [h]; exact s4
        · exact h
    exact ⟨this, good_of_word (gw_good this)⟩
  refine run_go (va_runS (As := As) (rest := rest) ⟨F.1, F.2.1, F.2.2.1, F.2.2.2.1, hts⟩ (hC l) (cwS ar hts hT rfl rfl rfl s5 ⟨hfr, hlo⟩) ⟨fun a U g mk q => ⟨q.1, q.2.1, q.2.2.call⟩, fun U hU hW => ⟨rfl, by rw [hU]; exact hI, F.2.2.2.2.2.1.warm hW⟩⟩ rfl hn hl.1 hst (lv_room hrest) hd ⟨hce, hsl⟩) hS (fun _ h => h) (fun H1 locs1 hJ hz hk hS1 => kk F H1 locs1 ls hJ hS1 hl)
theorem k_callSN (S : SiteSN own host index y bytes maxL ret ar) (hC : Ct d mc ms y bytes maxL ret G A As I v J) (hd : decode cc pc = .ok (.invokestatic index, 3)) (hn : As.length = ar) (hst : st0 = As.reverse ++ rest) (hrest : (rest.map fun v => v.category).sum ≤ 8) (hfr : d + 1 ≤ R.frames) (hlo : 8 + (maxL + 11) + 40 * d ≤ R.locals) (hce : k + mc ≤ R.cells) (hsl : n + ms ≤ R.slots)
    (kk : K p l e s m args below meth c R own cc nL rt G A Q (k + mc) (n + ms) J (pc + 3) lv (v.toList ++ rest)) : K p l e s m args below meth c R own cc nL rt G A Q k n I pc lv st0 := by
  intro F H locs ls hI hS hl
  have hts := F.2.2.2.2.1
  obtain ⟨s1, s2, s3, s4, s5⟩ := S
  refine run_go (va_runSN (As := As) (rest := rest) ⟨F.1, F.2.1, F.2.2.1, F.2.2.2.1, hts⟩ (hC l) ⟨va_cnB ar hts (gw_self s4) rfl rfl rfl (F.2.2.2.2.2.1.2.1 _ s1) (hts _ s3) s5 ⟨hfr, hlo⟩, hts _ s2, trivial⟩ ⟨fun a U g mk q => ⟨q.1, q.2.1, q.2.2.call⟩, fun U hU hW => ⟨rfl, by rw [hU]; exact hI, F.2.2.2.2.2.1.warm hW⟩⟩ rfl hn hl.1 hst (lv_room hrest) hd ⟨hce, hsl⟩) hS (fun _ h => h) (fun H1 locs1 hJ hz hk hS1 => kk F H1 locs1 ls hJ hS1 hl)
theorem Hd.recv {w : Wd} {ci : Nat} {fs : List Value} {r : vw_C} (hc : classes[ci]? = some r) (hw : w b = some (.inr (ci, fs))) (h : Hd G A w H) (hK : KK G s) : ∃ cell : Cell, H[b]? = some cell ∧ cell.vm.isStatics = false ∧ s.vm.findClass r.1 = some cell.cls := va_recv hK.1 (h.one hw) hc (q0 := 0) rfl
/-- the same, all in one world -/
theorem k_callV {w : Wd} {ci N : Nat} {T : u_T} {fs : List Value} (S : SiteV own C index y bytes maxL ret ar) (hC : Ct d mc ms y bytes maxL ret G A (.ref b :: As) (Hd G A w) v J) (hd : decode cc pc = .ok (.invokevirtual index, 3)) (hc : classes[ci]? = some (C, T, N)) (hw : w b = some (.inr (ci, fs))) (hn : As.length = ar) (hst : st0 = As.reverse ++ .ref b :: rest) (hrest : (rest.map fun v => v.category).sum ≤ 8) (hfr : d + 1 ≤ R.frames) (hlo : 8 + (maxL + 11) + 40 * d ≤ R.locals) (hce : k + mc ≤ R.cells) (hsl : n + ms ≤ R.slots)
    (kk : K p l e s m args below meth c R own cc nL rt G A Q (k + mc) (n + ms) J (pc + 3) lv (v.toList ++ rest)) : K p l e s m args below meth c R own cc nL rt G A Q k n (Hd G A w) pc lv st0 := k_callV' S hC hd hn hst hrest hfr hlo hce hsl (fun H h hK => Hd.recv hc hw h hK) (fun _ h => h) (fun _ h => h) (fun _ _ _ h _ _ => h) kk
theorem k_callI {w : Wd} (S : SiteI own index y bytes maxL ar) (hC : Ct d mc ms y bytes maxL none G A (.ref b :: As) (Hd G A w) v J) (hd : decode cc pc = .ok (.invokespecial index, 3)) (hn : As.length = ar) (hst : st0 = As.reverse ++ .ref b :: rest) (hrest : (rest.map fun v => v.category).sum ≤ 8) (hfr : d + 1 ≤ R.frames) (hlo : 8 + (maxL + 11) + 40 * d ≤ R.locals) (hce : k + mc ≤ R.cells) (hsl : n + ms ≤ R.slots)
    (kk : K p l e s m args below meth c R own cc nL rt G A Q (k + mc) (n + ms) J (pc + 3) lv (v.toList ++ rest)) : K p l e s m args below meth c R own cc nL rt G A Q k n (Hd G A w) pc lv st0 := k_callI' S hC hd hn hst hrest hfr hlo hce hsl (fun _ h => h) (fun _ h => h) (fun _ _ _ h _ _ => h) kk
theorem k_objInit {index : Nat} {a : Nat} (hlink : Cond.methodLink own index objectInit ∈ GW) (hinst : Cond.instanceMethod objectInit ∈ GW) (hcode : Cond.code objectInit ⟨#[0xb1]⟩ 1 none ∈ GW) (hd : decode cc pc = .ok (.invokespecial index, 3)) (hfr : 1 ≤ R.frames) (hlo : (rest.map fun v => v.category).sum + 12 ≤ R.locals) (kk : K p l e s m args below meth c R own cc nL rt G A Q k n I (pc + 3) lv rest) : K p l e s m args below meth c R own cc nL rt G A Q k n I pc lv (.ref a :: rest) := fun F H locs ls hI hS hl => W.objInit F.1 F.2.1 F.2.2.2.1 (F.2.2.2.2.1 _ hlink) (F.2.2.2.2.1 _ hinst) (F.2.2.2.2.1 _ hcode) rfl (by rw [F.2.2.1]; exact hl.1) rfl hd hfr (by show 2 * 0 + _ + 12 ≤ _; omega) (kk F H locs ls hI hS hl)
end KCALL
theorem si_L_9 : SiteI RL 9 yX4_init cX4_init 1 0 := ⟨gw_10, gw_11, gw_1, gw_12, rfl, by decide +kernel⟩
theorem si_X4_15 : SiteI RX4 15 yX3_init cX3_init 3 1 := ⟨gw_18, gw_19, gw_2, gw_20, rfl, by decide +kernel⟩
theorem si_X3_21 : SiteI RX3 21 yX2_init cX2_init 2 1 := ⟨gw_25, gw_26, gw_3, gw_27, rfl, by decide +kernel⟩
theorem si_X4_24 : SiteI RX4 24 yX1_init cX1_init 4 2 := ⟨gw_67, gw_68, gw_5, gw_69, rfl, by decide +kernel⟩
theorem si_X1_25 : SiteI RX1 25 yX2_init cX2_init 2 1 := ⟨gw_72, gw_26, gw_3, gw_27, rfl, by decide +kernel⟩
theorem sv_L_15 : SiteV RL RX4 15 yX4_put cX4_put 6 (some .int) 4 := ⟨gw_127, gw_128, gw_129, gw_1, gw_130, by decide +kernel⟩
theorem sv_X4_35 : SiteV RX4 RX1 35 yX1_find cX1_find 5 (some (.object "EmberCache$Item")) 1 := ⟨gw_131, gw_132, gw_133, gw_5, gw_134, by decide +kernel⟩
theorem sv_X1_41 : SiteV RX1 RX2 41 yX2_findInLog cX2_findInLog 5 (some (.object "EmberCache$Item")) 1 := ⟨gw_135, gw_136, gw_137, gw_3, gw_138, by decide +kernel⟩
theorem sv_X4_39 : SiteV RX4 RX1 39 yX1_kill cX1_kill 2 (some .boolean) 1 := ⟨gw_139, gw_140, gw_141, gw_5, gw_142, by decide +kernel⟩
theorem si_X4_45 : SiteI RX4 45 yX0_init cX0_init 8 4 := ⟨gw_145, gw_146, gw_7, gw_147, rfl, by decide +kernel⟩
theorem sn_X0_9 : SiteSN RX0 RX4 9 yX4_mixOf cX4_mixOf 4 (some .long) 1 := ⟨nw_149, gw_150, gw_1, gw_151, by decide +kernel⟩
theorem sn_X0_19 : SiteSN RX0 RX4 19 yX4_setOfMix cX4_setOfMix 2 (some .int) 1 := ⟨nw_153, gw_154, gw_1, gw_155, by decide +kernel⟩
theorem sn_X0_27 : SiteSN RX0 RX4 27 yX4_filterBits cX4_filterBits 4 (some .long) 1 := ⟨nw_157, gw_158, gw_1, gw_159, by decide +kernel⟩
theorem sv_X4_48 : SiteV RX4 RX1 48 yX1_append cX1_append 3 (none) 1 := ⟨gw_204, gw_205, gw_206, gw_5, gw_207, by decide +kernel⟩
theorem sv_X1_55 : SiteV RX1 RX2 55 yX2_hasRoomFor cX2_hasRoomFor 2 (some .boolean) 1 := ⟨gw_208, gw_209, gw_210, gw_3, gw_211, by decide +kernel⟩
theorem sv_X2_49 : SiteV RX2 RX2 49 yX2_places cX2_places 4 (some .int) 0 := ⟨gw_212, gw_213, gw_214, gw_3, gw_215, by decide +kernel⟩
theorem sv_X1_59 : SiteV RX1 RX1 59 yX1_writeOpenPage cX1_writeOpenPage 3 (none) 0 := ⟨gw_216, gw_218, gs_0, gw_5, gw_219, by decide +kernel⟩
theorem sv_X1_72 : SiteV RX1 RX2 72 yX2_clear cX2_clear 1 (none) 0 := ⟨gw_220, gw_221, gw_222, gw_3, gw_223, by decide +kernel⟩
theorem sv_X1_65 : SiteV RX1 RX1 65 yX1_emptyHead cX1_emptyHead 3 (none) 0 := ⟨gw_224, gw_226, gs_1, gw_5, gw_227, by decide +kernel⟩
theorem sv_X1_75 : SiteV RX1 RX2 75 yX2_addAll cX2_addAll 3 (none) 1 := ⟨gw_228, gw_229, gw_230, gw_3, gw_231, by decide +kernel⟩
theorem sv_X2_27 : SiteV RX2 RX2 27 yX2_at cX2_at 2 (some (.object "EmberCache$Item")) 1 := ⟨gw_232, gw_233, gw_234, gw_3, gw_235, by decide +kernel⟩
theorem sv_X2_31 : SiteV RX2 RX2 31 yX2_add cX2_add 2 (none) 1 := ⟨gw_236, gw_237, gw_238, gw_3, gw_239, by decide +kernel⟩
theorem sv_X1_82 : SiteV RX1 RX1 82 yX1_settle cX1_settle 3 (none) 1 := ⟨gw_240, gw_242, gs_2, gw_5, gw_243, by decide +kernel⟩
theorem sv_X1_85 : SiteV RX1 RX2 85 yX2_at cX2_at 2 (some (.object "EmberCache$Item")) 1 := ⟨gw_244, gw_233, gw_234, gw_3, gw_235, by decide +kernel⟩
theorem sv_X1_92 : SiteV RX1 RX1 92 yX1_gather cX1_gather 5 (none) 2 := ⟨gw_245, gw_247, gs_3, gw_5, gw_248, by decide +kernel⟩
theorem sv_X1_122 : SiteV RX1 RX2 122 yX2_addInLog cX2_addInLog 6 (none) 3 := ⟨gw_249, gw_250, gw_251, gw_3, gw_252, by decide +kernel⟩
theorem sv_X1_96 : SiteV RX1 RX1 96 yX1_killGroup cX1_killGroup 2 (none) 0 := ⟨gw_253, gw_255, gs_4, gw_5, gw_256, by decide +kernel⟩
theorem sv_X1_111 : SiteV RX1 RX1 111 yX1_kill cX1_kill 2 (some .boolean) 1 := ⟨gw_257, gw_140, gw_141, gw_5, gw_142, by decide +kernel⟩
theorem sv_X1_99 : SiteV RX1 RX3 99 yX3_moveIn cX3_moveIn 6 (none) 2 := ⟨gw_258, gw_259, gw_260, gw_2, gw_261, by decide +kernel⟩
theorem sv_X3_73 : SiteV RX3 RX3 73 yX3_layOutOthers cX3_layOutOthers 5 (none) 2 := ⟨gw_262, gw_264, gs_5, gw_2, gw_265, by decide +kernel⟩
theorem sv_X3_92 : SiteV RX3 RX2 92 yX2_clear cX2_clear 1 (none) 0 := ⟨gw_266, gw_221, gw_222, gw_3, gw_223, by decide +kernel⟩
theorem sv_X3_43 : SiteV RX3 RX2 43 yX2_at cX2_at 2 (some (.object "EmberCache$Item")) 1 := ⟨gw_267, gw_233, gw_234, gw_3, gw_235, by decide +kernel⟩
theorem sv_X3_40 : SiteV RX3 RX2 40 yX2_indexOf cX2_indexOf 5 (some .int) 1 := ⟨gw_268, gw_269, gw_270, gw_3, gw_271, by decide +kernel⟩
theorem sv_X3_99 : SiteV RX3 RX2 99 yX2_add cX2_add 2 (none) 1 := ⟨gw_272, gw_237, gw_238, gw_3, gw_239, by decide +kernel⟩
theorem sv_X3_77 : SiteV RX3 RX2 77 yX2_addAll cX2_addAll 3 (none) 1 := ⟨gw_273, gw_229, gw_230, gw_3, gw_231, by decide +kernel⟩
theorem sv_X3_81 : SiteV RX3 RX2 81 yX2_places cX2_places 4 (some .int) 0 := ⟨gw_274, gw_213, gw_214, gw_3, gw_215, by decide +kernel⟩
theorem sv_X3_85 : SiteV RX3 RX3 85 yX3_dropPass cX3_dropPass 9 (some .int) 5 := ⟨gw_275, gw_277, gs_6, gw_2, gw_278, by decide +kernel⟩
theorem sv_X3_109 : SiteV RX3 RX2 109 yX2_blank cX2_blank 2 (none) 1 := ⟨gw_279, gw_280, gw_281, gw_3, gw_282, by decide +kernel⟩
theorem sv_X3_89 : SiteV RX3 RX3 89 yX3_refill cX3_refill 4 (none) 1 := ⟨gw_283, gw_285, gs_7, gw_2, gw_286, by decide +kernel⟩
theorem sv_X3_66 : SiteV RX3 RX2 66 yX2_filterOfKeys cX2_filterOfKeys 5 (some .long) 0 := ⟨gw_287, gw_288, gw_289, gw_3, gw_290, by decide +kernel⟩
theorem sv_X1_108 : SiteV RX1 RX1 108 yX1_putAnew cX1_putAnew 2 (none) 1 := ⟨gw_291, gw_293, gs_8, gw_5, gw_294, by decide +kernel⟩
theorem sv_X1_68 : SiteV RX1 RX2 68 yX2_add cX2_add 2 (none) 1 := ⟨gw_295, gw_237, gw_238, gw_3, gw_239, by decide +kernel⟩
theorem sv_X1_118 : SiteV RX1 RX3 118 yX3_takeOut cX3_takeOut 6 (some .boolean) 2 := ⟨gw_296, gw_297, gw_298, gw_2, gw_299, by decide +kernel⟩
theorem sv_X3_50 : SiteV RX3 RX3 50 yX3_read cX3_read 8 (some (.object "EmberCache$Item")) 1 := ⟨gw_300, gw_301, gw_302, gw_2, gw_303, by decide +kernel⟩
theorem sn_X3_32 : SiteSN RX3 RX4 32 yX4_mixOf cX4_mixOf 4 (some .long) 1 := ⟨nw_304, gw_150, gw_1, gw_151, by decide +kernel⟩
theorem sn_X3_36 : SiteSN RX3 RX4 36 yX4_setOfMix cX4_setOfMix 2 (some .int) 1 := ⟨nw_305, gw_154, gw_1, gw_155, by decide +kernel⟩
theorem sn_X3_47 : SiteSN RX3 RX4 47 yX4_filterBits cX4_filterBits 4 (some .long) 1 := ⟨nw_306, gw_158, gw_1, gw_159, by decide +kernel⟩
theorem sv_X3_60 : SiteV RX3 RX2 60 yX2_closeUpOver cX2_closeUpOver 3 (none) 1 := ⟨gw_307, gw_308, gw_309, gw_3, gw_310, by decide +kernel⟩
theorem sv_L_20 : SiteV RL RX4 20 yX4_get cX4_get 4 (some .int) 1 := ⟨gw_311, gw_312, gw_313, gw_1, gw_314, by decide +kernel⟩
theorem sv_X4_52 : SiteV RX4 RX3 52 yX3_read cX3_read 8 (some (.object "EmberCache$Item")) 1 := ⟨gw_315, gw_301, gw_302, gw_2, gw_303, by decide +kernel⟩
theorem sv_L_25 : SiteV RL RX4 25 yX4_got cX4_got 2 (some .int) 1 := ⟨gw_316, gw_317, gw_318, gw_1, gw_319, by decide +kernel⟩
theorem sv_L_30 : SiteV RL RX4 30 yX4_remove cX4_remove 5 (some .int) 1 := ⟨gw_320, gw_321, gw_322, gw_1, gw_323, by decide +kernel⟩
theorem sv_X4_77 : SiteV RX4 RX3 77 yX3_takeOut cX3_takeOut 6 (some .boolean) 2 := ⟨gw_324, gw_297, gw_298, gw_2, gw_299, by decide +kernel⟩
theorem sv_L_34 : SiteV RL RX4 34 yX4_mix cX4_mix 3 (some .long) 1 := ⟨gw_325, gw_326, gw_327, gw_1, gw_328, by decide +kernel⟩
theorem ss_X4_81 : SiteS RX4 81 yX4_mixOf cX4_mixOf 4 (some .long) 1 := ⟨gw_329, gw_150, gw_1, gw_151, by decide +kernel⟩
theorem sv_L_39 : SiteV RL RX4 39 yX4_unmix cX4_unmix 5 (some .long) 1 := ⟨gw_330, gw_331, gw_332, gw_1, gw_333, by decide +kernel⟩
theorem sv_L_43 : SiteV RL RX4 43 yX4_setOf cX4_setOf 3 (some .int) 1 := ⟨gw_335, gw_336, gw_337, gw_1, gw_338, by decide +kernel⟩
theorem ss_X4_87 : SiteS RX4 87 yX4_setOfMix cX4_setOfMix 2 (some .int) 1 := ⟨gw_339, gw_154, gw_1, gw_155, by decide +kernel⟩
theorem sv_L_47 : SiteV RL RX4 47 yX4_where cX4_where 3 (some .int) 1 := ⟨gw_340, gw_341, gw_342, gw_1, gw_343, by decide +kernel⟩
theorem sv_X4_91 : SiteV RX4 RX3 91 yX3_find cX3_find 4 (some (.object "EmberCache$Item")) 1 := ⟨gw_344, gw_345, gw_346, gw_2, gw_347, by decide +kernel⟩
theorem sv_L_51 : SiteV RL RX4 51 yX4_mark cX4_mark 4 (some .int) 1 := ⟨gw_348, gw_349, gw_350, gw_1, gw_351, by decide +kernel⟩
theorem sv_L_55 : SiteV RL RX4 55 yX4_stands cX4_stands 2 (some .int) 1 := ⟨gw_352, gw_353, gw_354, gw_1, gw_355, by decide +kernel⟩
theorem ss_X4_92 : SiteS RX4 92 yX4_isSet cX4_isSet 1 (some .boolean) 1 := ⟨gw_356, gw_357, gw_1, gw_358, by decide +kernel⟩
theorem sv_L_59 : SiteV RL RX4 59 yX4_key cX4_key 4 (some .long) 2 := ⟨gw_359, gw_360, gw_361, gw_1, gw_362, by decide +kernel⟩
theorem sv_X4_105 : SiteV RX4 RX2 105 yX2_at cX2_at 2 (some (.object "EmberCache$Item")) 1 := ⟨gw_363, gw_233, gw_234, gw_3, gw_235, by decide +kernel⟩
theorem sv_L_64 : SiteV RL RX4 64 yX4_filter cX4_filter 2 (some .long) 1 := ⟨gw_364, gw_365, gw_366, gw_1, gw_367, by decide +kernel⟩
theorem sv_L_69 : SiteV RL RX4 69 yX4_alive cX4_alive 2 (some .int) 1 := ⟨gw_368, gw_369, gw_370, gw_1, gw_371, by decide +kernel⟩
theorem sv_X4_121 : SiteV RX4 RX2 121 yX2_countInLog cX2_countInLog 4 (some .int) 0 := ⟨gw_372, gw_373, gw_374, gw_3, gw_375, by decide +kernel⟩
theorem sv_X4_125 : SiteV RX4 RX1 125 yX1_countInSegment cX1_countInSegment 4 (some .int) 1 := ⟨gw_376, gw_377, gw_378, gw_5, gw_379, by decide +kernel⟩
theorem sv_X1_126 : SiteV RX1 RX2 126 yX2_countInLog cX2_countInLog 4 (some .int) 0 := ⟨gw_380, gw_373, gw_374, gw_3, gw_375, by decide +kernel⟩
theorem sv_L_73 : SiteV RL RX4 73 yX4_count cX4_count 2 (some .int) 1 := ⟨gw_381, gw_382, gw_383, gw_1, gw_384, by decide +kernel⟩
theorem sv_X4_135 : SiteV RX4 RX2 135 yX2_places cX2_places 4 (some .int) 0 := ⟨gw_385, gw_213, gw_214, gw_3, gw_215, by decide +kernel⟩
theorem sv_L_77 : SiteV RL RX4 77 yX4_close cX4_close 1 (some .int) 0 := ⟨gw_386, gw_387, gw_388, gw_1, gw_389, by decide +kernel⟩
theorem sv_L_82 : SiteV RL RX4 82 yX4_crash cX4_crash 2 (some .int) 0 := ⟨gw_390, gw_391, gw_392, gw_1, gw_393, by decide +kernel⟩
theorem sv_X4_144 : SiteV RX4 RX1 144 yX1_wipe cX1_wipe 2 (none) 0 := ⟨gw_394, gw_395, gw_396, gw_5, gw_397, by decide +kernel⟩
theorem sv_X4_147 : SiteV RX4 RX3 147 yX3_wipe cX3_wipe 2 (none) 0 := ⟨gw_398, gw_399, gw_400, gw_2, gw_401, by decide +kernel⟩
theorem sv_L_86 : SiteV RL RX4 86 yX4_open cX4_open 1 (some .int) 0 := ⟨gw_402, gw_403, gw_404, gw_1, gw_405, by decide +kernel⟩
theorem sv_L_90 : SiteV RL RX4 90 yX4_check cX4_check 2 (some .int) 0 := ⟨gw_406, gw_407, gw_408, gw_1, gw_409, by decide +kernel⟩
theorem sv_X4_148 : SiteV RX4 RX1 148 yX1_keysDiffer cX1_keysDiffer 2 (some .boolean) 0 := ⟨gw_410, gw_411, gw_412, gw_5, gw_413, by decide +kernel⟩
theorem sv_X1_133 : SiteV RX1 RX2 133 yX2_belongsTo cX2_belongsTo 4 (some .boolean) 1 := ⟨gw_414, gw_415, gw_416, gw_3, gw_417, by decide +kernel⟩
theorem sv_X2_55 : SiteV RX2 RX2 55 yX2_indexOf cX2_indexOf 5 (some .int) 1 := ⟨gw_418, gw_269, gw_270, gw_3, gw_271, by decide +kernel⟩
theorem sv_X4_152 : SiteV RX4 RX1 152 yX1_pagesFit cX1_pagesFit 2 (some .boolean) 0 := ⟨gw_419, gw_420, gw_421, gw_5, gw_422, by decide +kernel⟩
theorem sv_X1_130 : SiteV RX1 RX2 130 yX2_places cX2_places 4 (some .int) 0 := ⟨gw_423, gw_213, gw_214, gw_3, gw_215, by decide +kernel⟩
theorem sv_X4_155 : SiteV RX4 RX3 155 yX3_pagesFit cX3_pagesFit 2 (some .boolean) 0 := ⟨gw_424, gw_425, gw_426, gw_2, gw_427, by decide +kernel⟩
theorem sv_X4_156 : SiteV RX4 RX3 156 yX3_keysBelong cX3_keysBelong 2 (some .boolean) 0 := ⟨gw_428, gw_429, gw_430, gw_2, gw_431, by decide +kernel⟩
theorem sv_X3_112 : SiteV RX3 RX2 112 yX2_belongsTo cX2_belongsTo 4 (some .boolean) 1 := ⟨gw_432, gw_415, gw_416, gw_3, gw_417, by decide +kernel⟩
theorem sv_X4_159 : SiteV RX4 RX3 159 yX3_filtersAreRight cX3_filtersAreRight 2 (some .boolean) 0 := ⟨gw_433, gw_434, gw_435, gw_2, gw_436, by decide +kernel⟩
theorem sv_X4_162 : SiteV RX4 RX1 162 yX1_countIsRight cX1_countIsRight 3 (some .boolean) 0 := ⟨gw_437, gw_438, gw_439, gw_5, gw_440, by decide +kernel⟩
theorem sv_X4_165 : SiteV RX4 RX3 165 yX3_countIsRight cX3_countIsRight 3 (some .boolean) 0 := ⟨gw_441, gw_442, gw_443, gw_2, gw_444, by decide +kernel⟩
theorem si_L_12 : SiteI RL 12 yX5_init cX5_init 1 0 := ⟨gw_447, gw_448, gw_6, gw_449, rfl, by decide +kernel⟩
theorem sv_L_38 : SiteV RL RX5 38 yX5_mix cX5_mix 5 (some .long) 1 := ⟨gw_540, gw_541, gw_542, gw_6, gw_543, by decide +kernel⟩
theorem sv_L_42 : SiteV RL RX5 42 yX5_unmix cX5_unmix 7 (some .long) 1 := ⟨gw_545, gw_546, gw_547, gw_6, gw_548, by decide +kernel⟩
theorem sv_L_46 : SiteV RL RX5 46 yX5_setOf cX5_setOf 3 (some .int) 1 := ⟨gw_550, gw_551, gw_552, gw_6, gw_553, by decide +kernel⟩
theorem sv_X5_79 : SiteV RX5 RX5 79 yX5_mix cX5_mix 5 (some .long) 1 := ⟨gw_554, gw_541, gw_542, gw_6, gw_543, by decide +kernel⟩
theorem sv_L_19 : SiteV RL RX5 19 yX5_put cX5_put 7 (some .int) 4 := ⟨gw_556, gw_557, gw_558, gw_6, gw_559, by decide +kernel⟩
theorem sv_X5_133 : SiteV RX5 RX5 133 yX5_inLog cX5_inLog 5 (some .int) 1 := ⟨gw_560, gw_562, gs_9, gw_6, gw_563, by decide +kernel⟩
theorem sv_X5_122 : SiteV RX5 RX5 122 yX5_append cX5_append 6 (none) 4 := ⟨gw_564, gw_566, gs_10, gw_6, gw_567, by decide +kernel⟩
theorem sv_X5_103 : SiteV RX5 RX5 103 yX5_writeOpenPage cX5_writeOpenPage 2 (none) 0 := ⟨gw_568, gw_570, gs_11, gw_6, gw_571, by decide +kernel⟩
theorem sv_X5_109 : SiteV RX5 RX5 109 yX5_empty cX5_empty 4 (none) 1 := ⟨gw_572, gw_574, gs_12, gw_6, gw_575, by decide +kernel⟩
theorem sv_X5_113 : SiteV RX5 RX5 113 yX5_forgetDead cX5_forgetDead 3 (none) 0 := ⟨gw_576, gw_578, gs_13, gw_6, gw_579, by decide +kernel⟩
theorem sv_X5_116 : SiteV RX5 RX5 116 yX5_handle cX5_handle 5 (none) 1 := ⟨gw_580, gw_582, gs_14, gw_6, gw_583, by decide +kernel⟩
theorem sv_X5_88 : SiteV RX5 RX5 88 yX5_setOf cX5_setOf 3 (some .int) 1 := ⟨gw_584, gw_551, gw_552, gw_6, gw_553, by decide +kernel⟩
theorem sv_X5_119 : SiteV RX5 RX5 119 yX5_move cX5_move 4 (none) 1 := ⟨gw_585, gw_587, gs_15, gw_6, gw_588, by decide +kernel⟩
theorem sv_X5_136 : SiteV RX5 RX5 136 yX5_addNew cX5_addNew 8 (none) 6 := ⟨gw_589, gw_591, gs_16, gw_6, gw_592, by decide +kernel⟩
theorem sv_X5_140 : SiteV RX5 RX5 140 yX5_placesOfNew cX5_placesOfNew 3 (some .int) 0 := ⟨gw_593, gw_595, gs_17, gw_6, gw_596, by decide +kernel⟩
theorem sv_X5_144 : SiteV RX5 RX5 144 yX5_dropOne cX5_dropOne 5 (none) 0 := ⟨gw_597, gw_599, gs_18, gw_6, gw_600, by decide +kernel⟩
theorem sv_X5_147 : SiteV RX5 RX5 147 yX5_writePage cX5_writePage 4 (none) 1 := ⟨gw_601, gw_603, gs_19, gw_6, gw_604, by decide +kernel⟩
theorem sv_X5_126 : SiteV RX5 RX5 126 yX5_takeOut cX5_takeOut 7 (some .boolean) 2 := ⟨gw_605, gw_607, gs_20, gw_6, gw_608, by decide +kernel⟩
theorem sv_X5_150 : SiteV RX5 RX5 150 yX5_mayHave cX5_mayHave 5 (some .boolean) 1 := ⟨gw_609, gw_611, gs_21, gw_6, gw_612, by decide +kernel⟩
theorem sv_X5_85 : SiteV RX5 RX5 85 yX5_bitsOf cX5_bitsOf 5 (some .long) 1 := ⟨gw_613, gw_615, gs_22, gw_6, gw_616, by decide +kernel⟩
theorem sv_X5_92 : SiteV RX5 RX5 92 yX5_filterOf cX5_filterOf 5 (some .long) 1 := ⟨gw_617, gw_619, gs_23, gw_6, gw_620, by decide +kernel⟩
theorem sv_X5_154 : SiteV RX5 RX5 154 yX5_inPage cX5_inPage 5 (some .int) 1 := ⟨gw_621, gw_623, gs_24, gw_6, gw_624, by decide +kernel⟩
theorem sv_L_24 : SiteV RL RX5 24 yX5_get cX5_get 5 (some .int) 1 := ⟨gw_625, gw_626, gw_627, gw_6, gw_628, by decide +kernel⟩
theorem sv_L_29 : SiteV RL RX5 29 yX5_got cX5_got 2 (some .int) 1 := ⟨gw_629, gw_630, gw_631, gw_6, gw_632, by decide +kernel⟩
theorem sv_L_33 : SiteV RL RX5 33 yX5_remove cX5_remove 5 (some .int) 1 := ⟨gw_633, gw_634, gw_635, gw_6, gw_636, by decide +kernel⟩
theorem sv_L_50 : SiteV RL RX5 50 yX5_where cX5_where 3 (some .int) 1 := ⟨gw_637, gw_638, gw_639, gw_6, gw_640, by decide +kernel⟩
theorem sv_L_54 : SiteV RL RX5 54 yX5_mark cX5_mark 5 (some .int) 1 := ⟨gw_641, gw_642, gw_643, gw_6, gw_644, by decide +kernel⟩
theorem sv_L_58 : SiteV RL RX5 58 yX5_stands cX5_stands 2 (some .int) 1 := ⟨gw_645, gw_646, gw_647, gw_6, gw_648, by decide +kernel⟩
theorem ss_X5_170 : SiteS RX5 170 yX5_isSet cX5_isSet 1 (some .boolean) 1 := ⟨gw_649, gw_650, gw_6, gw_651, by decide +kernel⟩
theorem sv_L_63 : SiteV RL RX5 63 yX5_key cX5_key 3 (some .long) 2 := ⟨gw_652, gw_653, gw_654, gw_6, gw_655, by decide +kernel⟩
theorem sv_L_68 : SiteV RL RX5 68 yX5_filter cX5_filter 2 (some .long) 1 := ⟨gw_656, gw_657, gw_658, gw_6, gw_659, by decide +kernel⟩
theorem sv_L_72 : SiteV RL RX5 72 yX5_alive cX5_alive 4 (some .int) 1 := ⟨gw_660, gw_661, gw_662, gw_6, gw_663, by decide +kernel⟩
theorem sv_L_76 : SiteV RL RX5 76 yX5_count cX5_count 2 (some .int) 1 := ⟨gw_664, gw_665, gw_666, gw_6, gw_667, by decide +kernel⟩
theorem sv_X5_174 : SiteV RX5 RX5 174 yX5_aliveInLog cX5_aliveInLog 3 (some .int) 0 := ⟨gw_668, gw_670, gs_25, gw_6, gw_671, by decide +kernel⟩
theorem sv_X5_177 : SiteV RX5 RX5 177 yX5_inPages cX5_inPages 3 (some .int) 0 := ⟨gw_672, gw_674, gs_26, gw_6, gw_675, by decide +kernel⟩
theorem sv_L_81 : SiteV RL RX5 81 yX5_close cX5_close 1 (some .int) 0 := ⟨gw_676, gw_677, gw_678, gw_6, gw_679, by decide +kernel⟩
theorem sv_L_85 : SiteV RL RX5 85 yX5_crash cX5_crash 3 (some .int) 0 := ⟨gw_680, gw_681, gw_682, gw_6, gw_683, by decide +kernel⟩
theorem sv_L_89 : SiteV RL RX5 89 yX5_open cX5_open 1 (some .int) 0 := ⟨gw_684, gw_685, gw_686, gw_6, gw_687, by decide +kernel⟩
theorem sv_L_93 : SiteV RL RX5 93 yX5_check cX5_check 7 (some .int) 0 := ⟨gw_688, gw_689, gw_690, gw_6, gw_691, by decide +kernel⟩
end
section
section KFLD
variable {p : Program} {l : Launch} {e : Env} {s : State} {m : MethodId} {args : Array Value} {below : List Frame} {meth : Method} {c : Code} {R : Room} {cc : ByteArray} {nL : Nat} {rt : Option FieldType} {G : Gd} {A : Nat → Prop} {Q : State → Prop} {k n : Nat} {pc : Nat} {lv : List (Option Value)} {st : List Value} {w : Wd} {a : Nat} {fs : List Value} {v : Value}
theorem g_X2_17 (hd : decode cc pc = .ok (.getfield 17, 3)) (ha : w a = some (.inr (2, fs))) (hv : fs[0]? = some v) (kk : K p l e s m args below meth c R RX2 cc nL rt G A Q k n (Hd G A w) (pc + 3) lv (v :: st)) : K p l e s m args below meth c R RX2 cc nL rt G A Q k n (Hd G A w) pc lv (.ref a :: st) := k_get (j := 0) (C := RX2) (T := TX2) (N := 2) rfl inX2 (by decide) gw_34 hd ha hv kk
theorem p_X2_17 (hini : meth.name = "<init>") (hd : decode cc pc = .ok (.putfield 17, 3)) (ha : w a = some (.inr (2, fs))) (hn : narrow (tyX2 0) v = v) (hf : fits (tyX2 0) v = true) (hlen : 0 < fs.length) (kk : K p l e s m args below meth c R RX2 cc nL rt G A Q k n (Hd G A (us w a (.inr (2, fs.set 0 v)))) (pc + 3) lv st) : K p l e s m args below meth c R RX2 cc nL rt G A Q k n (Hd G A w) pc lv (v :: .ref a :: st) := k_putF (j := 0) (C := RX2) (T := TX2) (N := 2) (ty := (tyX2 0)) tyX2 rfl inX2 tyX2_ok nmX2 (by decide) gw_34 rfl hini rfl (tyX2_ok 0 (by decide)) hd ha hn hf hlen kk
theorem g_X2_23 (hd : decode cc pc = .ok (.getfield 23, 3)) (ha : w a = some (.inr (2, fs))) (hv : fs[1]? = some v) (kk : K p l e s m args below meth c R RX2 cc nL rt G A Q k n (Hd G A w) (pc + 3) lv (v :: st)) : K p l e s m args below meth c R RX2 cc nL rt G A Q k n (Hd G A w) pc lv (.ref a :: st) := k_get (j := 1) (C := RX2) (T := TX2) (N := 2) rfl inX2 (by decide) gw_35 hd ha hv kk
theorem p_X2_23 (hd : decode cc pc = .ok (.putfield 23, 3)) (ha : w a = some (.inr (2, fs))) (hn : narrow (tyX2 1) v = v) (hf : fits (tyX2 1) v = true) (hlen : 1 < fs.length) (kk : K p l e s m args below meth c R RX2 cc nL rt G A Q k n (Hd G A (us w a (.inr (2, fs.set 1 v)))) (pc + 3) lv st) : K p l e s m args below meth c R RX2 cc nL rt G A Q k n (Hd G A w) pc lv (v :: .ref a :: st) := k_put (j := 1) (C := RX2) (T := TX2) (N := 2) (ty := (tyX2 1)) tyX2 rfl inX2 tyX2_ok nmX2 (by decide) gw_35 rfl (tyX2_ok 1 (by decide)) hd ha hn hf hlen kk
theorem g_X3_70 (hd : decode cc pc = .ok (.getfield 70, 3)) (ha : w a = some (.inr (2, fs))) (hv : fs[1]? = some v) (kk : K p l e s m args below meth c R RX3 cc nL rt G A Q k n (Hd G A w) (pc + 3) lv (v :: st)) : K p l e s m args below meth c R RX3 cc nL rt G A Q k n (Hd G A w) pc lv (.ref a :: st) := k_getN (j := 1) (C := RX2) (T := TX2) (N := 2) (host := RX4) rfl inX2 (by decide) nw_36 hd ha hv kk
theorem p_X3_70 (hd : decode cc pc = .ok (.putfield 70, 3)) (ha : w a = some (.inr (2, fs))) (hn : narrow (tyX2 1) v = v) (hf : fits (tyX2 1) v = true) (hlen : 1 < fs.length) (kk : K p l e s m args below meth c R RX3 cc nL rt G A Q k n (Hd G A (us w a (.inr (2, fs.set 1 v)))) (pc + 3) lv st) : K p l e s m args below meth c R RX3 cc nL rt G A Q k n (Hd G A w) pc lv (v :: .ref a :: st) := k_putN (j := 1) (C := RX2) (T := TX2) (N := 2) (ty := (tyX2 1)) (host := RX4) tyX2 rfl inX2 tyX2_ok nmX2 (by decide) nw_36 rfl (tyX2_ok 1 (by decide)) hd ha hn hf hlen kk
theorem g_X1_79 (hd : decode cc pc = .ok (.getfield 79, 3)) (ha : w a = some (.inr (2, fs))) (hv : fs[1]? = some v) (kk : K p l e s m args below meth c R RX1 cc nL rt G A Q k n (Hd G A w) (pc + 3) lv (v :: st)) : K p l e s m args below meth c R RX1 cc nL rt G A Q k n (Hd G A w) pc lv (.ref a :: st) := k_getN (j := 1) (C := RX2) (T := TX2) (N := 2) (host := RX4) rfl inX2 (by decide) nw_37 hd ha hv kk
theorem p_X1_79 (hd : decode cc pc = .ok (.putfield 79, 3)) (ha : w a = some (.inr (2, fs))) (hn : narrow (tyX2 1) v = v) (hf : fits (tyX2 1) v = true) (hlen : 1 < fs.length) (kk : K p l e s m args below meth c R RX1 cc nL rt G A Q k n (Hd G A (us w a (.inr (2, fs.set 1 v)))) (pc + 3) lv st) : K p l e s m args below meth c R RX1 cc nL rt G A Q k n (Hd G A w) pc lv (v :: .ref a :: st) := k_putN (j := 1) (C := RX2) (T := TX2) (N := 2) (ty := (tyX2 1)) (host := RX4) tyX2 rfl inX2 tyX2_ok nmX2 (by decide) nw_37 rfl (tyX2_ok 1 (by decide)) hd ha hn hf hlen kk
theorem g_X4_100 (hd : decode cc pc = .ok (.getfield 100, 3)) (ha : w a = some (.inr (2, fs))) (hv : fs[1]? = some v) (kk : K p l e s m args below meth c R RX4 cc nL rt G A Q k n (Hd G A w) (pc + 3) lv (v :: st)) : K p l e s m args below meth c R RX4 cc nL rt G A Q k n (Hd G A w) pc lv (.ref a :: st) := k_getN (j := 1) (C := RX2) (T := TX2) (N := 2) (host := RX4) rfl inX2 (by decide) nw_38 hd ha hv kk
theorem p_X4_100 (hd : decode cc pc = .ok (.putfield 100, 3)) (ha : w a = some (.inr (2, fs))) (hn : narrow (tyX2 1) v = v) (hf : fits (tyX2 1) v = true) (hlen : 1 < fs.length) (kk : K p l e s m args below meth c R RX4 cc nL rt G A Q k n (Hd G A (us w a (.inr (2, fs.set 1 v)))) (pc + 3) lv st) : K p l e s m args below meth c R RX4 cc nL rt G A Q k n (Hd G A w) pc lv (v :: .ref a :: st) := k_putN (j := 1) (C := RX2) (T := TX2) (N := 2) (ty := (tyX2 1)) (host := RX4) tyX2 rfl inX2 tyX2_ok nmX2 (by decide) nw_38 rfl (tyX2_ok 1 (by decide)) hd ha hn hf hlen kk
theorem g_X3_17 (hd : decode cc pc = .ok (.getfield 17, 3)) (ha : w a = some (.inr (3, fs))) (hv : fs[0]? = some v) (kk : K p l e s m args below meth c R RX3 cc nL rt G A Q k n (Hd G A w) (pc + 3) lv (v :: st)) : K p l e s m args below meth c R RX3 cc nL rt G A Q k n (Hd G A w) pc lv (.ref a :: st) := k_get (j := 0) (C := RX3) (T := TX3) (N := 5) rfl inX3 (by decide) gw_45 hd ha hv kk
theorem p_X3_17 (hini : meth.name = "<init>") (hd : decode cc pc = .ok (.putfield 17, 3)) (ha : w a = some (.inr (3, fs))) (hn : narrow (tyX3 0) v = v) (hf : fits (tyX3 0) v = true) (hlen : 0 < fs.length) (kk : K p l e s m args below meth c R RX3 cc nL rt G A Q k n (Hd G A (us w a (.inr (3, fs.set 0 v)))) (pc + 3) lv st) : K p l e s m args below meth c R RX3 cc nL rt G A Q k n (Hd G A w) pc lv (v :: .ref a :: st) := k_putF (j := 0) (C := RX3) (T := TX3) (N := 5) (ty := (tyX3 0)) tyX3 rfl inX3 tyX3_ok nmX3 (by decide) gw_45 rfl hini rfl (tyX3_ok 0 (by decide)) hd ha hn hf hlen kk
theorem g_X4_96 (hd : decode cc pc = .ok (.getfield 96, 3)) (ha : w a = some (.inr (3, fs))) (hv : fs[0]? = some v) (kk : K p l e s m args below meth c R RX4 cc nL rt G A Q k n (Hd G A w) (pc + 3) lv (v :: st)) : K p l e s m args below meth c R RX4 cc nL rt G A Q k n (Hd G A w) pc lv (.ref a :: st) := k_getN (j := 0) (C := RX3) (T := TX3) (N := 5) (host := RX4) rfl inX3 (by decide) nw_46 hd ha hv kk
theorem g_X3_24 (hd : decode cc pc = .ok (.getfield 24, 3)) (ha : w a = some (.inr (3, fs))) (hv : fs[1]? = some v) (kk : K p l e s m args below meth c R RX3 cc nL rt G A Q k n (Hd G A w) (pc + 3) lv (v :: st)) : K p l e s m args below meth c R RX3 cc nL rt G A Q k n (Hd G A w) pc lv (.ref a :: st) := k_get (j := 1) (C := RX3) (T := TX3) (N := 5) rfl inX3 (by decide) gw_47 hd ha hv kk
theorem p_X3_24 (hini : meth.name = "<init>") (hd : decode cc pc = .ok (.putfield 24, 3)) (ha : w a = some (.inr (3, fs))) (hn : narrow (tyX3 1) v = v) (hf : fits (tyX3 1) v = true) (hlen : 1 < fs.length) (kk : K p l e s m args below meth c R RX3 cc nL rt G A Q k n (Hd G A (us w a (.inr (3, fs.set 1 v)))) (pc + 3) lv st) : K p l e s m args below meth c R RX3 cc nL rt G A Q k n (Hd G A w) pc lv (v :: .ref a :: st) := k_putF (j := 1) (C := RX3) (T := TX3) (N := 5) (ty := (tyX3 1)) tyX3 rfl inX3 tyX3_ok nmX3 (by decide) gw_47 rfl hini rfl (tyX3_ok 1 (by decide)) hd ha hn hf hlen kk
theorem g_X4_113 (hd : decode cc pc = .ok (.getfield 113, 3)) (ha : w a = some (.inr (3, fs))) (hv : fs[1]? = some v) (kk : K p l e s m args below meth c R RX4 cc nL rt G A Q k n (Hd G A w) (pc + 3) lv (v :: st)) : K p l e s m args below meth c R RX4 cc nL rt G A Q k n (Hd G A w) pc lv (.ref a :: st) := k_getN (j := 1) (C := RX3) (T := TX3) (N := 5) (host := RX4) rfl inX3 (by decide) nw_48 hd ha hv kk
theorem g_X3_9 (hd : decode cc pc = .ok (.getfield 9, 3)) (ha : w a = some (.inr (3, fs))) (hv : fs[2]? = some v) (kk : K p l e s m args below meth c R RX3 cc nL rt G A Q k n (Hd G A w) (pc + 3) lv (v :: st)) : K p l e s m args below meth c R RX3 cc nL rt G A Q k n (Hd G A w) pc lv (.ref a :: st) := k_get (j := 2) (C := RX3) (T := TX3) (N := 5) rfl inX3 (by decide) gw_49 hd ha hv kk
theorem p_X3_9 (hini : meth.name = "<init>") (hd : decode cc pc = .ok (.putfield 9, 3)) (ha : w a = some (.inr (3, fs))) (hn : narrow (tyX3 2) v = v) (hf : fits (tyX3 2) v = true) (hlen : 2 < fs.length) (kk : K p l e s m args below meth c R RX3 cc nL rt G A Q k n (Hd G A (us w a (.inr (3, fs.set 2 v)))) (pc + 3) lv st) : K p l e s m args below meth c R RX3 cc nL rt G A Q k n (Hd G A w) pc lv (v :: .ref a :: st) := k_putF (j := 2) (C := RX3) (T := TX3) (N := 5) (ty := (tyX3 2)) tyX3 rfl inX3 tyX3_ok nmX3 (by decide) gw_49 rfl hini rfl (tyX3_ok 2 (by decide)) hd ha hn hf hlen kk
theorem g_X3_28 (hd : decode cc pc = .ok (.getfield 28, 3)) (ha : w a = some (.inr (3, fs))) (hv : fs[3]? = some v) (kk : K p l e s m args below meth c R RX3 cc nL rt G A Q k n (Hd G A w) (pc + 3) lv (v :: st)) : K p l e s m args below meth c R RX3 cc nL rt G A Q k n (Hd G A w) pc lv (.ref a :: st) := k_get (j := 3) (C := RX3) (T := TX3) (N := 5) rfl inX3 (by decide) gw_50 hd ha hv kk
theorem p_X3_28 (hini : meth.name = "<init>") (hd : decode cc pc = .ok (.putfield 28, 3)) (ha : w a = some (.inr (3, fs))) (hn : narrow (tyX3 3) v = v) (hf : fits (tyX3 3) v = true) (hlen : 3 < fs.length) (kk : K p l e s m args below meth c R RX3 cc nL rt G A Q k n (Hd G A (us w a (.inr (3, fs.set 3 v)))) (pc + 3) lv st) : K p l e s m args below meth c R RX3 cc nL rt G A Q k n (Hd G A w) pc lv (v :: .ref a :: st) := k_putF (j := 3) (C := RX3) (T := TX3) (N := 5) (ty := (tyX3 3)) tyX3 rfl inX3 tyX3_ok nmX3 (by decide) gw_50 rfl hini rfl (tyX3_ok 3 (by decide)) hd ha hn hf hlen kk
theorem g_X3_63 (hd : decode cc pc = .ok (.getfield 63, 3)) (ha : w a = some (.inr (3, fs))) (hv : fs[4]? = some v) (kk : K p l e s m args below meth c R RX3 cc nL rt G A Q k n (Hd G A w) (pc + 3) lv (v :: st)) : K p l e s m args below meth c R RX3 cc nL rt G A Q k n (Hd G A w) pc lv (.ref a :: st) := k_get (j := 4) (C := RX3) (T := TX3) (N := 5) rfl inX3 (by decide) gw_51 hd ha hv kk
theorem p_X3_63 (hd : decode cc pc = .ok (.putfield 63, 3)) (ha : w a = some (.inr (3, fs))) (hn : narrow (tyX3 4) v = v) (hf : fits (tyX3 4) v = true) (hlen : 4 < fs.length) (kk : K p l e s m args below meth c R RX3 cc nL rt G A Q k n (Hd G A (us w a (.inr (3, fs.set 4 v)))) (pc + 3) lv st) : K p l e s m args below meth c R RX3 cc nL rt G A Q k n (Hd G A w) pc lv (v :: .ref a :: st) := k_put (j := 4) (C := RX3) (T := TX3) (N := 5) (ty := (tyX3 4)) tyX3 rfl inX3 tyX3_ok nmX3 (by decide) gw_51 rfl (tyX3_ok 4 (by decide)) hd ha hn hf hlen kk
theorem g_X4_132 (hd : decode cc pc = .ok (.getfield 132, 3)) (ha : w a = some (.inr (3, fs))) (hv : fs[4]? = some v) (kk : K p l e s m args below meth c R RX4 cc nL rt G A Q k n (Hd G A w) (pc + 3) lv (v :: st)) : K p l e s m args below meth c R RX4 cc nL rt G A Q k n (Hd G A w) pc lv (.ref a :: st) := k_getN (j := 4) (C := RX3) (T := TX3) (N := 5) (host := RX4) rfl inX3 (by decide) nw_52 hd ha hv kk
theorem p_X4_132 (hd : decode cc pc = .ok (.putfield 132, 3)) (ha : w a = some (.inr (3, fs))) (hn : narrow (tyX3 4) v = v) (hf : fits (tyX3 4) v = true) (hlen : 4 < fs.length) (kk : K p l e s m args below meth c R RX4 cc nL rt G A Q k n (Hd G A (us w a (.inr (3, fs.set 4 v)))) (pc + 3) lv st) : K p l e s m args below meth c R RX4 cc nL rt G A Q k n (Hd G A w) pc lv (v :: .ref a :: st) := k_putN (j := 4) (C := RX3) (T := TX3) (N := 5) (ty := (tyX3 4)) (host := RX4) tyX3 rfl inX3 tyX3_ok nmX3 (by decide) nw_52 rfl (tyX3_ok 4 (by decide)) hd ha hn hf hlen kk
theorem g_X1_21 (hd : decode cc pc = .ok (.getfield 21, 3)) (ha : w a = some (.inr (1, fs))) (hv : fs[0]? = some v) (kk : K p l e s m args below meth c R RX1 cc nL rt G A Q k n (Hd G A w) (pc + 3) lv (v :: st)) : K p l e s m args below meth c R RX1 cc nL rt G A Q k n (Hd G A w) pc lv (.ref a :: st) := k_get (j := 0) (C := RX1) (T := TX1) (N := 9) rfl inX1 (by decide) gw_73 hd ha hv kk
theorem p_X1_21 (hini : meth.name = "<init>") (hd : decode cc pc = .ok (.putfield 21, 3)) (ha : w a = some (.inr (1, fs))) (hn : narrow (tyX1 0) v = v) (hf : fits (tyX1 0) v = true) (hlen : 0 < fs.length) (kk : K p l e s m args below meth c R RX1 cc nL rt G A Q k n (Hd G A (us w a (.inr (1, fs.set 0 v)))) (pc + 3) lv st) : K p l e s m args below meth c R RX1 cc nL rt G A Q k n (Hd G A w) pc lv (v :: .ref a :: st) := k_putF (j := 0) (C := RX1) (T := TX1) (N := 9) (ty := (tyX1 0)) tyX1 rfl inX1 tyX1_ok nmX1 (by decide) gw_73 rfl hini rfl (tyX1_ok 0 (by decide)) hd ha hn hf hlen kk
theorem g_X1_28 (hd : decode cc pc = .ok (.getfield 28, 3)) (ha : w a = some (.inr (1, fs))) (hv : fs[1]? = some v) (kk : K p l e s m args below meth c R RX1 cc nL rt G A Q k n (Hd G A w) (pc + 3) lv (v :: st)) : K p l e s m args below meth c R RX1 cc nL rt G A Q k n (Hd G A w) pc lv (.ref a :: st) := k_get (j := 1) (C := RX1) (T := TX1) (N := 9) rfl inX1 (by decide) gw_74 hd ha hv kk
theorem p_X1_28 (hini : meth.name = "<init>") (hd : decode cc pc = .ok (.putfield 28, 3)) (ha : w a = some (.inr (1, fs))) (hn : narrow (tyX1 1) v = v) (hf : fits (tyX1 1) v = true) (hlen : 1 < fs.length) (kk : K p l e s m args below meth c R RX1 cc nL rt G A Q k n (Hd G A (us w a (.inr (1, fs.set 1 v)))) (pc + 3) lv st) : K p l e s m args below meth c R RX1 cc nL rt G A Q k n (Hd G A w) pc lv (v :: .ref a :: st) := k_putF (j := 1) (C := RX1) (T := TX1) (N := 9) (ty := (tyX1 1)) tyX1 rfl inX1 tyX1_ok nmX1 (by decide) gw_74 rfl hini rfl (tyX1_ok 1 (by decide)) hd ha hn hf hlen kk
theorem g_X4_141 (hd : decode cc pc = .ok (.getfield 141, 3)) (ha : w a = some (.inr (1, fs))) (hv : fs[1]? = some v) (kk : K p l e s m args below meth c R RX4 cc nL rt G A Q k n (Hd G A w) (pc + 3) lv (v :: st)) : K p l e s m args below meth c R RX4 cc nL rt G A Q k n (Hd G A w) pc lv (.ref a :: st) := k_getN (j := 1) (C := RX1) (T := TX1) (N := 9) (host := RX4) rfl inX1 (by decide) nw_75 hd ha hv kk
theorem g_X1_31 (hd : decode cc pc = .ok (.getfield 31, 3)) (ha : w a = some (.inr (1, fs))) (hv : fs[2]? = some v) (kk : K p l e s m args below meth c R RX1 cc nL rt G A Q k n (Hd G A w) (pc + 3) lv (v :: st)) : K p l e s m args below meth c R RX1 cc nL rt G A Q k n (Hd G A w) pc lv (.ref a :: st) := k_get (j := 2) (C := RX1) (T := TX1) (N := 9) rfl inX1 (by decide) gw_76 hd ha hv kk
theorem p_X1_31 (hd : decode cc pc = .ok (.putfield 31, 3)) (ha : w a = some (.inr (1, fs))) (hn : narrow (tyX1 2) v = v) (hf : fits (tyX1 2) v = true) (hlen : 2 < fs.length) (kk : K p l e s m args below meth c R RX1 cc nL rt G A Q k n (Hd G A (us w a (.inr (1, fs.set 2 v)))) (pc + 3) lv st) : K p l e s m args below meth c R RX1 cc nL rt G A Q k n (Hd G A w) pc lv (v :: .ref a :: st) := k_put (j := 2) (C := RX1) (T := TX1) (N := 9) (ty := (tyX1 2)) tyX1 rfl inX1 tyX1_ok nmX1 (by decide) gw_76 rfl (tyX1_ok 2 (by decide)) hd ha hn hf hlen kk
theorem g_X4_117 (hd : decode cc pc = .ok (.getfield 117, 3)) (ha : w a = some (.inr (1, fs))) (hv : fs[2]? = some v) (kk : K p l e s m args below meth c R RX4 cc nL rt G A Q k n (Hd G A w) (pc + 3) lv (v :: st)) : K p l e s m args below meth c R RX4 cc nL rt G A Q k n (Hd G A w) pc lv (.ref a :: st) := k_getN (j := 2) (C := RX1) (T := TX1) (N := 9) (host := RX4) rfl inX1 (by decide) nw_77 hd ha hv kk
theorem p_X4_117 (hd : decode cc pc = .ok (.putfield 117, 3)) (ha : w a = some (.inr (1, fs))) (hn : narrow (tyX1 2) v = v) (hf : fits (tyX1 2) v = true) (hlen : 2 < fs.length) (kk : K p l e s m args below meth c R RX4 cc nL rt G A Q k n (Hd G A (us w a (.inr (1, fs.set 2 v)))) (pc + 3) lv st) : K p l e s m args below meth c R RX4 cc nL rt G A Q k n (Hd G A w) pc lv (v :: .ref a :: st) := k_putN (j := 2) (C := RX1) (T := TX1) (N := 9) (ty := (tyX1 2)) (host := RX4) tyX1 rfl inX1 tyX1_ok nmX1 (by decide) nw_77 rfl (tyX1_ok 2 (by decide)) hd ha hn hf hlen kk
theorem g_X1_35 (hd : decode cc pc = .ok (.getfield 35, 3)) (ha : w a = some (.inr (1, fs))) (hv : fs[3]? = some v) (kk : K p l e s m args below meth c R RX1 cc nL rt G A Q k n (Hd G A w) (pc + 3) lv (v :: st)) : K p l e s m args below meth c R RX1 cc nL rt G A Q k n (Hd G A w) pc lv (.ref a :: st) := k_get (j := 3) (C := RX1) (T := TX1) (N := 9) rfl inX1 (by decide) gw_78 hd ha hv kk
theorem p_X1_35 (hini : meth.name = "<init>") (hd : decode cc pc = .ok (.putfield 35, 3)) (ha : w a = some (.inr (1, fs))) (hn : narrow (tyX1 3) v = v) (hf : fits (tyX1 3) v = true) (hlen : 3 < fs.length) (kk : K p l e s m args below meth c R RX1 cc nL rt G A Q k n (Hd G A (us w a (.inr (1, fs.set 3 v)))) (pc + 3) lv st) : K p l e s m args below meth c R RX1 cc nL rt G A Q k n (Hd G A w) pc lv (v :: .ref a :: st) := k_putF (j := 3) (C := RX1) (T := TX1) (N := 9) (ty := (tyX1 3)) tyX1 rfl inX1 tyX1_ok nmX1 (by decide) gw_78 rfl hini rfl (tyX1_ok 3 (by decide)) hd ha hn hf hlen kk
theorem g_X1_38 (hd : decode cc pc = .ok (.getfield 38, 3)) (ha : w a = some (.inr (1, fs))) (hv : fs[4]? = some v) (kk : K p l e s m args below meth c R RX1 cc nL rt G A Q k n (Hd G A w) (pc + 3) lv (v :: st)) : K p l e s m args below meth c R RX1 cc nL rt G A Q k n (Hd G A w) pc lv (.ref a :: st) := k_get (j := 4) (C := RX1) (T := TX1) (N := 9) rfl inX1 (by decide) gw_79 hd ha hv kk
theorem p_X1_38 (hini : meth.name = "<init>") (hd : decode cc pc = .ok (.putfield 38, 3)) (ha : w a = some (.inr (1, fs))) (hn : narrow (tyX1 4) v = v) (hf : fits (tyX1 4) v = true) (hlen : 4 < fs.length) (kk : K p l e s m args below meth c R RX1 cc nL rt G A Q k n (Hd G A (us w a (.inr (1, fs.set 4 v)))) (pc + 3) lv st) : K p l e s m args below meth c R RX1 cc nL rt G A Q k n (Hd G A w) pc lv (v :: .ref a :: st) := k_putF (j := 4) (C := RX1) (T := TX1) (N := 9) (ty := (tyX1 4)) tyX1 rfl inX1 tyX1_ok nmX1 (by decide) gw_79 rfl hini rfl (tyX1_ok 4 (by decide)) hd ha hn hf hlen kk
theorem g_X1_9 (hd : decode cc pc = .ok (.getfield 9, 3)) (ha : w a = some (.inr (1, fs))) (hv : fs[5]? = some v) (kk : K p l e s m args below meth c R RX1 cc nL rt G A Q k n (Hd G A w) (pc + 3) lv (v :: st)) : K p l e s m args below meth c R RX1 cc nL rt G A Q k n (Hd G A w) pc lv (.ref a :: st) := k_get (j := 5) (C := RX1) (T := TX1) (N := 9) rfl inX1 (by decide) gw_80 hd ha hv kk
theorem p_X1_9 (hini : meth.name = "<init>") (hd : decode cc pc = .ok (.putfield 9, 3)) (ha : w a = some (.inr (1, fs))) (hn : narrow (tyX1 5) v = v) (hf : fits (tyX1 5) v = true) (hlen : 5 < fs.length) (kk : K p l e s m args below meth c R RX1 cc nL rt G A Q k n (Hd G A (us w a (.inr (1, fs.set 5 v)))) (pc + 3) lv st) : K p l e s m args below meth c R RX1 cc nL rt G A Q k n (Hd G A w) pc lv (v :: .ref a :: st) := k_putF (j := 5) (C := RX1) (T := TX1) (N := 9) (ty := (tyX1 5)) tyX1 rfl inX1 tyX1_ok nmX1 (by decide) gw_80 rfl hini rfl (tyX1_ok 5 (by decide)) hd ha hn hf hlen kk
theorem g_X1_15 (hd : decode cc pc = .ok (.getfield 15, 3)) (ha : w a = some (.inr (1, fs))) (hv : fs[6]? = some v) (kk : K p l e s m args below meth c R RX1 cc nL rt G A Q k n (Hd G A w) (pc + 3) lv (v :: st)) : K p l e s m args below meth c R RX1 cc nL rt G A Q k n (Hd G A w) pc lv (.ref a :: st) := k_get (j := 6) (C := RX1) (T := TX1) (N := 9) rfl inX1 (by decide) gw_81 hd ha hv kk
theorem p_X1_15 (hini : meth.name = "<init>") (hd : decode cc pc = .ok (.putfield 15, 3)) (ha : w a = some (.inr (1, fs))) (hn : narrow (tyX1 6) v = v) (hf : fits (tyX1 6) v = true) (hlen : 6 < fs.length) (kk : K p l e s m args below meth c R RX1 cc nL rt G A Q k n (Hd G A (us w a (.inr (1, fs.set 6 v)))) (pc + 3) lv st) : K p l e s m args below meth c R RX1 cc nL rt G A Q k n (Hd G A w) pc lv (v :: .ref a :: st) := k_putF (j := 6) (C := RX1) (T := TX1) (N := 9) (ty := (tyX1 6)) tyX1 rfl inX1 tyX1_ok nmX1 (by decide) gw_81 rfl hini rfl (tyX1_ok 6 (by decide)) hd ha hn hf hlen kk
theorem g_X1_62 (hd : decode cc pc = .ok (.getfield 62, 3)) (ha : w a = some (.inr (1, fs))) (hv : fs[7]? = some v) (kk : K p l e s m args below meth c R RX1 cc nL rt G A Q k n (Hd G A w) (pc + 3) lv (v :: st)) : K p l e s m args below meth c R RX1 cc nL rt G A Q k n (Hd G A w) pc lv (.ref a :: st) := k_get (j := 7) (C := RX1) (T := TX1) (N := 9) rfl inX1 (by decide) gw_82 hd ha hv kk
theorem p_X1_62 (hd : decode cc pc = .ok (.putfield 62, 3)) (ha : w a = some (.inr (1, fs))) (hn : narrow (tyX1 7) v = v) (hf : fits (tyX1 7) v = true) (hlen : 7 < fs.length) (kk : K p l e s m args below meth c R RX1 cc nL rt G A Q k n (Hd G A (us w a (.inr (1, fs.set 7 v)))) (pc + 3) lv st) : K p l e s m args below meth c R RX1 cc nL rt G A Q k n (Hd G A w) pc lv (v :: .ref a :: st) := k_put (j := 7) (C := RX1) (T := TX1) (N := 9) (ty := (tyX1 7)) tyX1 rfl inX1 tyX1_ok nmX1 (by decide) gw_82 rfl (tyX1_ok 7 (by decide)) hd ha hn hf hlen kk
theorem g_X4_138 (hd : decode cc pc = .ok (.getfield 138, 3)) (ha : w a = some (.inr (1, fs))) (hv : fs[7]? = some v) (kk : K p l e s m args below meth c R RX4 cc nL rt G A Q k n (Hd G A w) (pc + 3) lv (v :: st)) : K p l e s m args below meth c R RX4 cc nL rt G A Q k n (Hd G A w) pc lv (.ref a :: st) := k_getN (j := 7) (C := RX1) (T := TX1) (N := 9) (host := RX4) rfl inX1 (by decide) nw_83 hd ha hv kk
theorem p_X4_138 (hd : decode cc pc = .ok (.putfield 138, 3)) (ha : w a = some (.inr (1, fs))) (hn : narrow (tyX1 7) v = v) (hf : fits (tyX1 7) v = true) (hlen : 7 < fs.length) (kk : K p l e s m args below meth c R RX4 cc nL rt G A Q k n (Hd G A (us w a (.inr (1, fs.set 7 v)))) (pc + 3) lv st) : K p l e s m args below meth c R RX4 cc nL rt G A Q k n (Hd G A w) pc lv (v :: .ref a :: st) := k_putN (j := 7) (C := RX1) (T := TX1) (N := 9) (ty := (tyX1 7)) (host := RX4) tyX1 rfl inX1 tyX1_ok nmX1 (by decide) nw_83 rfl (tyX1_ok 7 (by decide)) hd ha hn hf hlen kk
theorem g_X1_51 (hd : decode cc pc = .ok (.getfield 51, 3)) (ha : w a = some (.inr (1, fs))) (hv : fs[8]? = some v) (kk : K p l e s m args below meth c R RX1 cc nL rt G A Q k n (Hd G A w) (pc + 3) lv (v :: st)) : K p l e s m args below meth c R RX1 cc nL rt G A Q k n (Hd G A w) pc lv (.ref a :: st) := k_get (j := 8) (C := RX1) (T := TX1) (N := 9) rfl inX1 (by decide) gw_84 hd ha hv kk
theorem p_X1_51 (hd : decode cc pc = .ok (.putfield 51, 3)) (ha : w a = some (.inr (1, fs))) (hn : narrow (tyX1 8) v = v) (hf : fits (tyX1 8) v = true) (hlen : 8 < fs.length) (kk : K p l e s m args below meth c R RX1 cc nL rt G A Q k n (Hd G A (us w a (.inr (1, fs.set 8 v)))) (pc + 3) lv st) : K p l e s m args below meth c R RX1 cc nL rt G A Q k n (Hd G A w) pc lv (v :: .ref a :: st) := k_put (j := 8) (C := RX1) (T := TX1) (N := 9) (ty := (tyX1 8)) tyX1 rfl inX1 tyX1_ok nmX1 (by decide) gw_84 rfl (tyX1_ok 8 (by decide)) hd ha hn hf hlen kk
theorem g_X4_129 (hd : decode cc pc = .ok (.getfield 129, 3)) (ha : w a = some (.inr (1, fs))) (hv : fs[8]? = some v) (kk : K p l e s m args below meth c R RX4 cc nL rt G A Q k n (Hd G A w) (pc + 3) lv (v :: st)) : K p l e s m args below meth c R RX4 cc nL rt G A Q k n (Hd G A w) pc lv (.ref a :: st) := k_getN (j := 8) (C := RX1) (T := TX1) (N := 9) (host := RX4) rfl inX1 (by decide) nw_85 hd ha hv kk
theorem p_X4_129 (hd : decode cc pc = .ok (.putfield 129, 3)) (ha : w a = some (.inr (1, fs))) (hn : narrow (tyX1 8) v = v) (hf : fits (tyX1 8) v = true) (hlen : 8 < fs.length) (kk : K p l e s m args below meth c R RX4 cc nL rt G A Q k n (Hd G A (us w a (.inr (1, fs.set 8 v)))) (pc + 3) lv st) : K p l e s m args below meth c R RX4 cc nL rt G A Q k n (Hd G A w) pc lv (v :: .ref a :: st) := k_putN (j := 8) (C := RX1) (T := TX1) (N := 9) (ty := (tyX1 8)) (host := RX4) tyX1 rfl inX1 tyX1_ok nmX1 (by decide) nw_85 rfl (tyX1_ok 8 (by decide)) hd ha hn hf hlen kk
theorem g_X4_9 (hd : decode cc pc = .ok (.getfield 9, 3)) (ha : w a = some (.inr (4, fs))) (hv : fs[0]? = some v) (kk : K p l e s m args below meth c R RX4 cc nL rt G A Q k n (Hd G A w) (pc + 3) lv (v :: st)) : K p l e s m args below meth c R RX4 cc nL rt G A Q k n (Hd G A w) pc lv (.ref a :: st) := k_get (j := 0) (C := RX4) (T := TX4) (N := 7) rfl inX4 (by decide) gw_105 hd ha hv kk
theorem p_X4_9 (hini : meth.name = "<init>") (hd : decode cc pc = .ok (.putfield 9, 3)) (ha : w a = some (.inr (4, fs))) (hn : narrow (tyX4 0) v = v) (hf : fits (tyX4 0) v = true) (hlen : 0 < fs.length) (kk : K p l e s m args below meth c R RX4 cc nL rt G A Q k n (Hd G A (us w a (.inr (4, fs.set 0 v)))) (pc + 3) lv st) : K p l e s m args below meth c R RX4 cc nL rt G A Q k n (Hd G A w) pc lv (v :: .ref a :: st) := k_putF (j := 0) (C := RX4) (T := TX4) (N := 7) (ty := (tyX4 0)) tyX4 rfl inX4 tyX4_ok nmX4 (by decide) gw_105 rfl hini rfl (tyX4_ok 0 (by decide)) hd ha hn hf hlen kk
theorem g_X4_18 (hd : decode cc pc = .ok (.getfield 18, 3)) (ha : w a = some (.inr (4, fs))) (hv : fs[1]? = some v) (kk : K p l e s m args below meth c R RX4 cc nL rt G A Q k n (Hd G A w) (pc + 3) lv (v :: st)) : K p l e s m args below meth c R RX4 cc nL rt G A Q k n (Hd G A w) pc lv (.ref a :: st) := k_get (j := 1) (C := RX4) (T := TX4) (N := 7) rfl inX4 (by decide) gw_106 hd ha hv kk
theorem p_X4_18 (hini : meth.name = "<init>") (hd : decode cc pc = .ok (.putfield 18, 3)) (ha : w a = some (.inr (4, fs))) (hn : narrow (tyX4 1) v = v) (hf : fits (tyX4 1) v = true) (hlen : 1 < fs.length) (kk : K p l e s m args below meth c R RX4 cc nL rt G A Q k n (Hd G A (us w a (.inr (4, fs.set 1 v)))) (pc + 3) lv st) : K p l e s m args below meth c R RX4 cc nL rt G A Q k n (Hd G A w) pc lv (v :: .ref a :: st) := k_putF (j := 1) (C := RX4) (T := TX4) (N := 7) (ty := (tyX4 1)) tyX4 rfl inX4 tyX4_ok nmX4 (by decide) gw_106 rfl hini rfl (tyX4_ok 1 (by decide)) hd ha hn hf hlen kk
theorem g_X4_27 (hd : decode cc pc = .ok (.getfield 27, 3)) (ha : w a = some (.inr (4, fs))) (hv : fs[2]? = some v) (kk : K p l e s m args below meth c R RX4 cc nL rt G A Q k n (Hd G A w) (pc + 3) lv (v :: st)) : K p l e s m args below meth c R RX4 cc nL rt G A Q k n (Hd G A w) pc lv (.ref a :: st) := k_get (j := 2) (C := RX4) (T := TX4) (N := 7) rfl inX4 (by decide) gw_107 hd ha hv kk
theorem p_X4_27 (hini : meth.name = "<init>") (hd : decode cc pc = .ok (.putfield 27, 3)) (ha : w a = some (.inr (4, fs))) (hn : narrow (tyX4 2) v = v) (hf : fits (tyX4 2) v = true) (hlen : 2 < fs.length) (kk : K p l e s m args below meth c R RX4 cc nL rt G A Q k n (Hd G A (us w a (.inr (4, fs.set 2 v)))) (pc + 3) lv st) : K p l e s m args below meth c R RX4 cc nL rt G A Q k n (Hd G A w) pc lv (v :: .ref a :: st) := k_putF (j := 2) (C := RX4) (T := TX4) (N := 7) (ty := (tyX4 2)) tyX4 rfl inX4 tyX4_ok nmX4 (by decide) gw_107 rfl hini rfl (tyX4_ok 2 (by decide)) hd ha hn hf hlen kk
theorem g_X4_31 (hd : decode cc pc = .ok (.getfield 31, 3)) (ha : w a = some (.inr (4, fs))) (hv : fs[3]? = some v) (kk : K p l e s m args below meth c R RX4 cc nL rt G A Q k n (Hd G A w) (pc + 3) lv (v :: st)) : K p l e s m args below meth c R RX4 cc nL rt G A Q k n (Hd G A w) pc lv (.ref a :: st) := k_get (j := 3) (C := RX4) (T := TX4) (N := 7) rfl inX4 (by decide) gw_108 hd ha hv kk
theorem p_X4_31 (hd : decode cc pc = .ok (.putfield 31, 3)) (ha : w a = some (.inr (4, fs))) (hn : narrow (tyX4 3) v = v) (hf : fits (tyX4 3) v = true) (hlen : 3 < fs.length) (kk : K p l e s m args below meth c R RX4 cc nL rt G A Q k n (Hd G A (us w a (.inr (4, fs.set 3 v)))) (pc + 3) lv st) : K p l e s m args below meth c R RX4 cc nL rt G A Q k n (Hd G A w) pc lv (v :: .ref a :: st) := k_put (j := 3) (C := RX4) (T := TX4) (N := 7) (ty := (tyX4 3)) tyX4 rfl inX4 tyX4_ok nmX4 (by decide) gw_108 rfl (tyX4_ok 3 (by decide)) hd ha hn hf hlen kk
theorem g_X4_62 (hd : decode cc pc = .ok (.getfield 62, 3)) (ha : w a = some (.inr (4, fs))) (hv : fs[4]? = some v) (kk : K p l e s m args below meth c R RX4 cc nL rt G A Q k n (Hd G A w) (pc + 3) lv (v :: st)) : K p l e s m args below meth c R RX4 cc nL rt G A Q k n (Hd G A w) pc lv (.ref a :: st) := k_get (j := 4) (C := RX4) (T := TX4) (N := 7) rfl inX4 (by decide) gw_109 hd ha hv kk
theorem p_X4_62 (hd : decode cc pc = .ok (.putfield 62, 3)) (ha : w a = some (.inr (4, fs))) (hn : narrow (tyX4 4) v = v) (hf : fits (tyX4 4) v = true) (hlen : 4 < fs.length) (kk : K p l e s m args below meth c R RX4 cc nL rt G A Q k n (Hd G A (us w a (.inr (4, fs.set 4 v)))) (pc + 3) lv st) : K p l e s m args below meth c R RX4 cc nL rt G A Q k n (Hd G A w) pc lv (v :: .ref a :: st) := k_put (j := 4) (C := RX4) (T := TX4) (N := 7) (ty := (tyX4 4)) tyX4 rfl inX4 tyX4_ok nmX4 (by decide) gw_109 rfl (tyX4_ok 4 (by decide)) hd ha hn hf hlen kk
theorem g_X4_68 (hd : decode cc pc = .ok (.getfield 68, 3)) (ha : w a = some (.inr (4, fs))) (hv : fs[5]? = some v) (kk : K p l e s m args below meth c R RX4 cc nL rt G A Q k n (Hd G A w) (pc + 3) lv (v :: st)) : K p l e s m args below meth c R RX4 cc nL rt G A Q k n (Hd G A w) pc lv (.ref a :: st) := k_get (j := 5) (C := RX4) (T := TX4) (N := 7) rfl inX4 (by decide) gw_110 hd ha hv kk
theorem p_X4_68 (hd : decode cc pc = .ok (.putfield 68, 3)) (ha : w a = some (.inr (4, fs))) (hn : narrow (tyX4 5) v = v) (hf : fits (tyX4 5) v = true) (hlen : 5 < fs.length) (kk : K p l e s m args below meth c R RX4 cc nL rt G A Q k n (Hd G A (us w a (.inr (4, fs.set 5 v)))) (pc + 3) lv st) : K p l e s m args below meth c R RX4 cc nL rt G A Q k n (Hd G A w) pc lv (v :: .ref a :: st) := k_put (j := 5) (C := RX4) (T := TX4) (N := 7) (ty := (tyX4 5)) tyX4 rfl inX4 tyX4_ok nmX4 (by decide) gw_110 rfl (tyX4_ok 5 (by decide)) hd ha hn hf hlen kk
theorem g_X4_74 (hd : decode cc pc = .ok (.getfield 74, 3)) (ha : w a = some (.inr (4, fs))) (hv : fs[6]? = some v) (kk : K p l e s m args below meth c R RX4 cc nL rt G A Q k n (Hd G A w) (pc + 3) lv (v :: st)) : K p l e s m args below meth c R RX4 cc nL rt G A Q k n (Hd G A w) pc lv (.ref a :: st) := k_get (j := 6) (C := RX4) (T := TX4) (N := 7) rfl inX4 (by decide) gw_111 hd ha hv kk
theorem p_X4_74 (hd : decode cc pc = .ok (.putfield 74, 3)) (ha : w a = some (.inr (4, fs))) (hn : narrow (tyX4 6) v = v) (hf : fits (tyX4 6) v = true) (hlen : 6 < fs.length) (kk : K p l e s m args below meth c R RX4 cc nL rt G A Q k n (Hd G A (us w a (.inr (4, fs.set 6 v)))) (pc + 3) lv st) : K p l e s m args below meth c R RX4 cc nL rt G A Q k n (Hd G A w) pc lv (v :: .ref a :: st) := k_put (j := 6) (C := RX4) (T := TX4) (N := 7) (ty := (tyX4 6)) tyX4 rfl inX4 tyX4_ok nmX4 (by decide) gw_111 rfl (tyX4_ok 6 (by decide)) hd ha hn hf hlen kk
theorem g_X0_13 (hd : decode cc pc = .ok (.getfield 13, 3)) (ha : w a = some (.inr (0, fs))) (hv : fs[0]? = some v) (kk : K p l e s m args below meth c R RX0 cc nL rt G A Q k n (Hd G A w) (pc + 3) lv (v :: st)) : K p l e s m args below meth c R RX0 cc nL rt G A Q k n (Hd G A w) pc lv (.ref a :: st) := k_get (j := 0) (C := RX0) (T := TX0) (N := 9) rfl inX0 (by decide) gw_160 hd ha hv kk
theorem p_X0_13 (hini : meth.name = "<init>") (hd : decode cc pc = .ok (.putfield 13, 3)) (ha : w a = some (.inr (0, fs))) (hn : narrow (tyX0 0) v = v) (hf : fits (tyX0 0) v = true) (hlen : 0 < fs.length) (kk : K p l e s m args below meth c R RX0 cc nL rt G A Q k n (Hd G A (us w a (.inr (0, fs.set 0 v)))) (pc + 3) lv st) : K p l e s m args below meth c R RX0 cc nL rt G A Q k n (Hd G A w) pc lv (v :: .ref a :: st) := k_putF (j := 0) (C := RX0) (T := TX0) (N := 9) (ty := (tyX0 0)) tyX0 rfl inX0 tyX0_ok nmX0 (by decide) gw_160 rfl hini rfl (tyX0_ok 0 (by decide)) hd ha hn hf hlen kk
theorem g_X3_95 (hd : decode cc pc = .ok (.getfield 95, 3)) (ha : w a = some (.inr (0, fs))) (hv : fs[0]? = some v) (kk : K p l e s m args below meth c R RX3 cc nL rt G A Q k n (Hd G A w) (pc + 3) lv (v :: st)) : K p l e s m args below meth c R RX3 cc nL rt G A Q k n (Hd G A w) pc lv (.ref a :: st) := k_getN (j := 0) (C := RX0) (T := TX0) (N := 9) (host := RX4) rfl inX0 (by decide) nw_161 hd ha hv kk
theorem g_X1_114 (hd : decode cc pc = .ok (.getfield 114, 3)) (ha : w a = some (.inr (0, fs))) (hv : fs[0]? = some v) (kk : K p l e s m args below meth c R RX1 cc nL rt G A Q k n (Hd G A w) (pc + 3) lv (v :: st)) : K p l e s m args below meth c R RX1 cc nL rt G A Q k n (Hd G A w) pc lv (.ref a :: st) := k_getN (j := 0) (C := RX0) (T := TX0) (N := 9) (host := RX4) rfl inX0 (by decide) nw_162 hd ha hv kk
theorem g_X2_42 (hd : decode cc pc = .ok (.getfield 42, 3)) (ha : w a = some (.inr (0, fs))) (hv : fs[0]? = some v) (kk : K p l e s m args below meth c R RX2 cc nL rt G A Q k n (Hd G A w) (pc + 3) lv (v :: st)) : K p l e s m args below meth c R RX2 cc nL rt G A Q k n (Hd G A w) pc lv (.ref a :: st) := k_getN (j := 0) (C := RX0) (T := TX0) (N := 9) (host := RX4) rfl inX0 (by decide) nw_163 hd ha hv kk
theorem g_X4_109 (hd : decode cc pc = .ok (.getfield 109, 3)) (ha : w a = some (.inr (0, fs))) (hv : fs[0]? = some v) (kk : K p l e s m args below meth c R RX4 cc nL rt G A Q k n (Hd G A w) (pc + 3) lv (v :: st)) : K p l e s m args below meth c R RX4 cc nL rt G A Q k n (Hd G A w) pc lv (.ref a :: st) := k_getN (j := 0) (C := RX0) (T := TX0) (N := 9) (host := RX4) rfl inX0 (by decide) nw_164 hd ha hv kk
theorem g_X0_23 (hd : decode cc pc = .ok (.getfield 23, 3)) (ha : w a = some (.inr (0, fs))) (hv : fs[1]? = some v) (kk : K p l e s m args below meth c R RX0 cc nL rt G A Q k n (Hd G A w) (pc + 3) lv (v :: st)) : K p l e s m args below meth c R RX0 cc nL rt G A Q k n (Hd G A w) pc lv (.ref a :: st) := k_get (j := 1) (C := RX0) (T := TX0) (N := 9) rfl inX0 (by decide) gw_165 hd ha hv kk
theorem p_X0_23 (hini : meth.name = "<init>") (hd : decode cc pc = .ok (.putfield 23, 3)) (ha : w a = some (.inr (0, fs))) (hn : narrow (tyX0 1) v = v) (hf : fits (tyX0 1) v = true) (hlen : 1 < fs.length) (kk : K p l e s m args below meth c R RX0 cc nL rt G A Q k n (Hd G A (us w a (.inr (0, fs.set 1 v)))) (pc + 3) lv st) : K p l e s m args below meth c R RX0 cc nL rt G A Q k n (Hd G A w) pc lv (v :: .ref a :: st) := k_putF (j := 1) (C := RX0) (T := TX0) (N := 9) (ty := (tyX0 1)) tyX0 rfl inX0 tyX0_ok nmX0 (by decide) gw_165 rfl hini rfl (tyX0_ok 1 (by decide)) hd ha hn hf hlen kk
theorem g_X3_54 (hd : decode cc pc = .ok (.getfield 54, 3)) (ha : w a = some (.inr (0, fs))) (hv : fs[1]? = some v) (kk : K p l e s m args below meth c R RX3 cc nL rt G A Q k n (Hd G A w) (pc + 3) lv (v :: st)) : K p l e s m args below meth c R RX3 cc nL rt G A Q k n (Hd G A w) pc lv (.ref a :: st) := k_getN (j := 1) (C := RX0) (T := TX0) (N := 9) (host := RX4) rfl inX0 (by decide) nw_166 hd ha hv kk
theorem g_X2_39 (hd : decode cc pc = .ok (.getfield 39, 3)) (ha : w a = some (.inr (0, fs))) (hv : fs[1]? = some v) (kk : K p l e s m args below meth c R RX2 cc nL rt G A Q k n (Hd G A w) (pc + 3) lv (v :: st)) : K p l e s m args below meth c R RX2 cc nL rt G A Q k n (Hd G A w) pc lv (.ref a :: st) := k_getN (j := 1) (C := RX0) (T := TX0) (N := 9) (host := RX4) rfl inX0 (by decide) nw_167 hd ha hv kk
theorem g_X1_89 (hd : decode cc pc = .ok (.getfield 89, 3)) (ha : w a = some (.inr (0, fs))) (hv : fs[1]? = some v) (kk : K p l e s m args below meth c R RX1 cc nL rt G A Q k n (Hd G A w) (pc + 3) lv (v :: st)) : K p l e s m args below meth c R RX1 cc nL rt G A Q k n (Hd G A w) pc lv (.ref a :: st) := k_getN (j := 1) (C := RX0) (T := TX0) (N := 9) (host := RX4) rfl inX0 (by decide) nw_168 hd ha hv kk
theorem g_X0_30 (hd : decode cc pc = .ok (.getfield 30, 3)) (ha : w a = some (.inr (0, fs))) (hv : fs[2]? = some v) (kk : K p l e s m args below meth c R RX0 cc nL rt G A Q k n (Hd G A w) (pc + 3) lv (v :: st)) : K p l e s m args below meth c R RX0 cc nL rt G A Q k n (Hd G A w) pc lv (.ref a :: st) := k_get (j := 2) (C := RX0) (T := TX0) (N := 9) rfl inX0 (by decide) gw_169 hd ha hv kk
theorem p_X0_30 (hini : meth.name = "<init>") (hd : decode cc pc = .ok (.putfield 30, 3)) (ha : w a = some (.inr (0, fs))) (hn : narrow (tyX0 2) v = v) (hf : fits (tyX0 2) v = true) (hlen : 2 < fs.length) (kk : K p l e s m args below meth c R RX0 cc nL rt G A Q k n (Hd G A (us w a (.inr (0, fs.set 2 v)))) (pc + 3) lv st) : K p l e s m args below meth c R RX0 cc nL rt G A Q k n (Hd G A w) pc lv (v :: .ref a :: st) := k_putF (j := 2) (C := RX0) (T := TX0) (N := 9) (ty := (tyX0 2)) tyX0 rfl inX0 tyX0_ok nmX0 (by decide) gw_169 rfl hini rfl (tyX0_ok 2 (by decide)) hd ha hn hf hlen kk
theorem g_X2_52 (hd : decode cc pc = .ok (.getfield 52, 3)) (ha : w a = some (.inr (0, fs))) (hv : fs[2]? = some v) (kk : K p l e s m args below meth c R RX2 cc nL rt G A Q k n (Hd G A w) (pc + 3) lv (v :: st)) : K p l e s m args below meth c R RX2 cc nL rt G A Q k n (Hd G A w) pc lv (.ref a :: st) := k_getN (j := 2) (C := RX0) (T := TX0) (N := 9) (host := RX4) rfl inX0 (by decide) nw_170 hd ha hv kk
theorem g_X0_33 (hd : decode cc pc = .ok (.getfield 33, 3)) (ha : w a = some (.inr (0, fs))) (hv : fs[3]? = some v) (kk : K p l e s m args below meth c R RX0 cc nL rt G A Q k n (Hd G A w) (pc + 3) lv (v :: st)) : K p l e s m args below meth c R RX0 cc nL rt G A Q k n (Hd G A w) pc lv (.ref a :: st) := k_get (j := 3) (C := RX0) (T := TX0) (N := 9) rfl inX0 (by decide) gw_171 hd ha hv kk
theorem p_X0_33 (hini : meth.name = "<init>") (hd : decode cc pc = .ok (.putfield 33, 3)) (ha : w a = some (.inr (0, fs))) (hn : narrow (tyX0 3) v = v) (hf : fits (tyX0 3) v = true) (hlen : 3 < fs.length) (kk : K p l e s m args below meth c R RX0 cc nL rt G A Q k n (Hd G A (us w a (.inr (0, fs.set 3 v)))) (pc + 3) lv st) : K p l e s m args below meth c R RX0 cc nL rt G A Q k n (Hd G A w) pc lv (v :: .ref a :: st) := k_putF (j := 3) (C := RX0) (T := TX0) (N := 9) (ty := (tyX0 3)) tyX0 rfl inX0 tyX0_ok nmX0 (by decide) gw_171 rfl hini rfl (tyX0_ok 3 (by decide)) hd ha hn hf hlen kk
theorem g_X3_107 (hd : decode cc pc = .ok (.getfield 107, 3)) (ha : w a = some (.inr (0, fs))) (hv : fs[3]? = some v) (kk : K p l e s m args below meth c R RX3 cc nL rt G A Q k n (Hd G A w) (pc + 3) lv (v :: st)) : K p l e s m args below meth c R RX3 cc nL rt G A Q k n (Hd G A w) pc lv (.ref a :: st) := k_getN (j := 3) (C := RX0) (T := TX0) (N := 9) (host := RX4) rfl inX0 (by decide) nw_172 hd ha hv kk
theorem g_X2_46 (hd : decode cc pc = .ok (.getfield 46, 3)) (ha : w a = some (.inr (0, fs))) (hv : fs[3]? = some v) (kk : K p l e s m args below meth c R RX2 cc nL rt G A Q k n (Hd G A w) (pc + 3) lv (v :: st)) : K p l e s m args below meth c R RX2 cc nL rt G A Q k n (Hd G A w) pc lv (.ref a :: st) := k_getN (j := 3) (C := RX0) (T := TX0) (N := 9) (host := RX4) rfl inX0 (by decide) nw_173 hd ha hv kk
theorem g_X0_36 (hd : decode cc pc = .ok (.getfield 36, 3)) (ha : w a = some (.inr (0, fs))) (hv : fs[4]? = some v) (kk : K p l e s m args below meth c R RX0 cc nL rt G A Q k n (Hd G A w) (pc + 3) lv (v :: st)) : K p l e s m args below meth c R RX0 cc nL rt G A Q k n (Hd G A w) pc lv (.ref a :: st) := k_get (j := 4) (C := RX0) (T := TX0) (N := 9) rfl inX0 (by decide) gw_174 hd ha hv kk
theorem p_X0_36 (hini : meth.name = "<init>") (hd : decode cc pc = .ok (.putfield 36, 3)) (ha : w a = some (.inr (0, fs))) (hn : narrow (tyX0 4) v = v) (hf : fits (tyX0 4) v = true) (hlen : 4 < fs.length) (kk : K p l e s m args below meth c R RX0 cc nL rt G A Q k n (Hd G A (us w a (.inr (0, fs.set 4 v)))) (pc + 3) lv st) : K p l e s m args below meth c R RX0 cc nL rt G A Q k n (Hd G A w) pc lv (v :: .ref a :: st) := k_putF (j := 4) (C := RX0) (T := TX0) (N := 9) (ty := (tyX0 4)) tyX0 rfl inX0 tyX0_ok nmX0 (by decide) gw_174 rfl hini rfl (tyX0_ok 4 (by decide)) hd ha hn hf hlen kk
theorem g_X4_58 (hd : decode cc pc = .ok (.getfield 58, 3)) (ha : w a = some (.inr (0, fs))) (hv : fs[4]? = some v) (kk : K p l e s m args below meth c R RX4 cc nL rt G A Q k n (Hd G A w) (pc + 3) lv (v :: st)) : K p l e s m args below meth c R RX4 cc nL rt G A Q k n (Hd G A w) pc lv (.ref a :: st) := k_getN (j := 4) (C := RX0) (T := TX0) (N := 9) (host := RX4) rfl inX0 (by decide) nw_175 hd ha hv kk
theorem g_X0_39 (hd : decode cc pc = .ok (.getfield 39, 3)) (ha : w a = some (.inr (0, fs))) (hv : fs[5]? = some v) (kk : K p l e s m args below meth c R RX0 cc nL rt G A Q k n (Hd G A w) (pc + 3) lv (v :: st)) : K p l e s m args below meth c R RX0 cc nL rt G A Q k n (Hd G A w) pc lv (.ref a :: st) := k_get (j := 5) (C := RX0) (T := TX0) (N := 9) rfl inX0 (by decide) gw_176 hd ha hv kk
theorem p_X0_39 (hini : meth.name = "<init>") (hd : decode cc pc = .ok (.putfield 39, 3)) (ha : w a = some (.inr (0, fs))) (hn : narrow (tyX0 5) v = v) (hf : fits (tyX0 5) v = true) (hlen : 5 < fs.length) (kk : K p l e s m args below meth c R RX0 cc nL rt G A Q k n (Hd G A (us w a (.inr (0, fs.set 5 v)))) (pc + 3) lv st) : K p l e s m args below meth c R RX0 cc nL rt G A Q k n (Hd G A w) pc lv (v :: .ref a :: st) := k_putF (j := 5) (C := RX0) (T := TX0) (N := 9) (ty := (tyX0 5)) tyX0 rfl inX0 tyX0_ok nmX0 (by decide) gw_176 rfl hini rfl (tyX0_ok 5 (by decide)) hd ha hn hf hlen kk
theorem g_X4_65 (hd : decode cc pc = .ok (.getfield 65, 3)) (ha : w a = some (.inr (0, fs))) (hv : fs[5]? = some v) (kk : K p l e s m args below meth c R RX4 cc nL rt G A Q k n (Hd G A w) (pc + 3) lv (v :: st)) : K p l e s m args below meth c R RX4 cc nL rt G A Q k n (Hd G A w) pc lv (.ref a :: st) := k_getN (j := 5) (C := RX0) (T := TX0) (N := 9) (host := RX4) rfl inX0 (by decide) nw_177 hd ha hv kk
theorem g_X0_42 (hd : decode cc pc = .ok (.getfield 42, 3)) (ha : w a = some (.inr (0, fs))) (hv : fs[6]? = some v) (kk : K p l e s m args below meth c R RX0 cc nL rt G A Q k n (Hd G A w) (pc + 3) lv (v :: st)) : K p l e s m args below meth c R RX0 cc nL rt G A Q k n (Hd G A w) pc lv (.ref a :: st) := k_get (j := 6) (C := RX0) (T := TX0) (N := 9) rfl inX0 (by decide) gw_178 hd ha hv kk
theorem p_X0_42 (hini : meth.name = "<init>") (hd : decode cc pc = .ok (.putfield 42, 3)) (ha : w a = some (.inr (0, fs))) (hn : narrow (tyX0 6) v = v) (hf : fits (tyX0 6) v = true) (hlen : 6 < fs.length) (kk : K p l e s m args below meth c R RX0 cc nL rt G A Q k n (Hd G A (us w a (.inr (0, fs.set 6 v)))) (pc + 3) lv st) : K p l e s m args below meth c R RX0 cc nL rt G A Q k n (Hd G A w) pc lv (v :: .ref a :: st) := k_putF (j := 6) (C := RX0) (T := TX0) (N := 9) (ty := (tyX0 6)) tyX0 rfl inX0 tyX0_ok nmX0 (by decide) gw_178 rfl hini rfl (tyX0_ok 6 (by decide)) hd ha hn hf hlen kk
theorem g_X4_71 (hd : decode cc pc = .ok (.getfield 71, 3)) (ha : w a = some (.inr (0, fs))) (hv : fs[6]? = some v) (kk : K p l e s m args below meth c R RX4 cc nL rt G A Q k n (Hd G A w) (pc + 3) lv (v :: st)) : K p l e s m args below meth c R RX4 cc nL rt G A Q k n (Hd G A w) pc lv (.ref a :: st) := k_getN (j := 6) (C := RX0) (T := TX0) (N := 9) (host := RX4) rfl inX0 (by decide) nw_179 hd ha hv kk
theorem g_X4_55 (hd : decode cc pc = .ok (.getfield 55, 3)) (ha : w a = some (.inr (0, fs))) (hv : fs[7]? = some v) (kk : K p l e s m args below meth c R RX4 cc nL rt G A Q k n (Hd G A w) (pc + 3) lv (v :: st)) : K p l e s m args below meth c R RX4 cc nL rt G A Q k n (Hd G A w) pc lv (.ref a :: st) := k_getN (j := 7) (C := RX0) (T := TX0) (N := 9) (host := RX4) rfl inX0 (by decide) nw_180 hd ha hv kk
theorem p_X4_55 (hd : decode cc pc = .ok (.putfield 55, 3)) (ha : w a = some (.inr (0, fs))) (hn : narrow (tyX0 7) v = v) (hf : fits (tyX0 7) v = true) (hlen : 7 < fs.length) (kk : K p l e s m args below meth c R RX4 cc nL rt G A Q k n (Hd G A (us w a (.inr (0, fs.set 7 v)))) (pc + 3) lv st) : K p l e s m args below meth c R RX4 cc nL rt G A Q k n (Hd G A w) pc lv (v :: .ref a :: st) := k_putN (j := 7) (C := RX0) (T := TX0) (N := 9) (ty := (tyX0 7)) (host := RX4) tyX0 rfl inX0 tyX0_ok nmX0 (by decide) nw_180 rfl (tyX0_ok 7 (by decide)) hd ha hn hf hlen kk
theorem g_X3_103 (hd : decode cc pc = .ok (.getfield 103, 3)) (ha : w a = some (.inr (0, fs))) (hv : fs[7]? = some v) (kk : K p l e s m args below meth c R RX3 cc nL rt G A Q k n (Hd G A w) (pc + 3) lv (v :: st)) : K p l e s m args below meth c R RX3 cc nL rt G A Q k n (Hd G A w) pc lv (.ref a :: st) := k_getN (j := 7) (C := RX0) (T := TX0) (N := 9) (host := RX4) rfl inX0 (by decide) nw_181 hd ha hv kk
theorem p_X3_103 (hd : decode cc pc = .ok (.putfield 103, 3)) (ha : w a = some (.inr (0, fs))) (hn : narrow (tyX0 7) v = v) (hf : fits (tyX0 7) v = true) (hlen : 7 < fs.length) (kk : K p l e s m args below meth c R RX3 cc nL rt G A Q k n (Hd G A (us w a (.inr (0, fs.set 7 v)))) (pc + 3) lv st) : K p l e s m args below meth c R RX3 cc nL rt G A Q k n (Hd G A w) pc lv (v :: .ref a :: st) := k_putN (j := 7) (C := RX0) (T := TX0) (N := 9) (ty := (tyX0 7)) (host := RX4) tyX0 rfl inX0 tyX0_ok nmX0 (by decide) nw_181 rfl (tyX0_ok 7 (by decide)) hd ha hn hf hlen kk
theorem g_X1_105 (hd : decode cc pc = .ok (.getfield 105, 3)) (ha : w a = some (.inr (0, fs))) (hv : fs[7]? = some v) (kk : K p l e s m args below meth c R RX1 cc nL rt G A Q k n (Hd G A w) (pc + 3) lv (v :: st)) : K p l e s m args below meth c R RX1 cc nL rt G A Q k n (Hd G A w) pc lv (.ref a :: st) := k_getN (j := 7) (C := RX0) (T := TX0) (N := 9) (host := RX4) rfl inX0 (by decide) nw_182 hd ha hv kk
theorem p_X1_105 (hd : decode cc pc = .ok (.putfield 105, 3)) (ha : w a = some (.inr (0, fs))) (hn : narrow (tyX0 7) v = v) (hf : fits (tyX0 7) v = true) (hlen : 7 < fs.length) (kk : K p l e s m args below meth c R RX1 cc nL rt G A Q k n (Hd G A (us w a (.inr (0, fs.set 7 v)))) (pc + 3) lv st) : K p l e s m args below meth c R RX1 cc nL rt G A Q k n (Hd G A w) pc lv (v :: .ref a :: st) := k_putN (j := 7) (C := RX0) (T := TX0) (N := 9) (ty := (tyX0 7)) (host := RX4) tyX0 rfl inX0 tyX0_ok nmX0 (by decide) nw_182 rfl (tyX0_ok 7 (by decide)) hd ha hn hf hlen kk
theorem g_X1_45 (hd : decode cc pc = .ok (.getfield 45, 3)) (ha : w a = some (.inr (0, fs))) (hv : fs[8]? = some v) (kk : K p l e s m args below meth c R RX1 cc nL rt G A Q k n (Hd G A w) (pc + 3) lv (v :: st)) : K p l e s m args below meth c R RX1 cc nL rt G A Q k n (Hd G A w) pc lv (.ref a :: st) := k_getN (j := 8) (C := RX0) (T := TX0) (N := 9) (host := RX4) rfl inX0 (by decide) nw_183 hd ha hv kk
theorem p_X1_45 (hd : decode cc pc = .ok (.putfield 45, 3)) (ha : w a = some (.inr (0, fs))) (hn : narrow (tyX0 8) v = v) (hf : fits (tyX0 8) v = true) (hlen : 8 < fs.length) (kk : K p l e s m args below meth c R RX1 cc nL rt G A Q k n (Hd G A (us w a (.inr (0, fs.set 8 v)))) (pc + 3) lv st) : K p l e s m args below meth c R RX1 cc nL rt G A Q k n (Hd G A w) pc lv (v :: .ref a :: st) := k_putN (j := 8) (C := RX0) (T := TX0) (N := 9) (ty := (tyX0 8)) (host := RX4) tyX0 rfl inX0 tyX0_ok nmX0 (by decide) nw_183 rfl (tyX0_ok 8 (by decide)) hd ha hn hf hlen kk
theorem g_X2_35 (hd : decode cc pc = .ok (.getfield 35, 3)) (ha : w a = some (.inr (0, fs))) (hv : fs[8]? = some v) (kk : K p l e s m args below meth c R RX2 cc nL rt G A Q k n (Hd G A w) (pc + 3) lv (v :: st)) : K p l e s m args below meth c R RX2 cc nL rt G A Q k n (Hd G A w) pc lv (.ref a :: st) := k_getN (j := 8) (C := RX0) (T := TX0) (N := 9) (host := RX4) rfl inX0 (by decide) nw_184 hd ha hv kk
theorem p_X2_35 (hd : decode cc pc = .ok (.putfield 35, 3)) (ha : w a = some (.inr (0, fs))) (hn : narrow (tyX0 8) v = v) (hf : fits (tyX0 8) v = true) (hlen : 8 < fs.length) (kk : K p l e s m args below meth c R RX2 cc nL rt G A Q k n (Hd G A (us w a (.inr (0, fs.set 8 v)))) (pc + 3) lv st) : K p l e s m args below meth c R RX2 cc nL rt G A Q k n (Hd G A w) pc lv (v :: .ref a :: st) := k_putN (j := 8) (C := RX0) (T := TX0) (N := 9) (ty := (tyX0 8)) (host := RX4) tyX0 rfl inX0 tyX0_ok nmX0 (by decide) nw_184 rfl (tyX0_ok 8 (by decide)) hd ha hn hf hlen kk
theorem g_X5_7 (hd : decode cc pc = .ok (.getfield 7, 3)) (ha : w a = some (.inr (5, fs))) (hv : fs[0]? = some v) (kk : K p l e s m args below meth c R RX5 cc nL rt G A Q k n (Hd G A w) (pc + 3) lv (v :: st)) : K p l e s m args below meth c R RX5 cc nL rt G A Q k n (Hd G A w) pc lv (.ref a :: st) := k_get (j := 0) (C := RX5) (T := TX5) (N := 29) rfl inX5 (by decide) gw_451 hd ha hv kk
theorem p_X5_7 (hini : meth.name = "<init>") (hd : decode cc pc = .ok (.putfield 7, 3)) (ha : w a = some (.inr (5, fs))) (hn : narrow (tyX5 0) v = v) (hf : fits (tyX5 0) v = true) (hlen : 0 < fs.length) (kk : K p l e s m args below meth c R RX5 cc nL rt G A Q k n (Hd G A (us w a (.inr (5, fs.set 0 v)))) (pc + 3) lv st) : K p l e s m args below meth c R RX5 cc nL rt G A Q k n (Hd G A w) pc lv (v :: .ref a :: st) := k_putF (j := 0) (C := RX5) (T := TX5) (N := 29) (ty := (tyX5 0)) tyX5 rfl inX5 tyX5_ok nmX5 (by decide) gw_451 rfl hini rfl (tyX5_ok 0 (by decide)) hd ha hn hf hlen kk
theorem g_X5_13 (hd : decode cc pc = .ok (.getfield 13, 3)) (ha : w a = some (.inr (5, fs))) (hv : fs[1]? = some v) (kk : K p l e s m args below meth c R RX5 cc nL rt G A Q k n (Hd G A w) (pc + 3) lv (v :: st)) : K p l e s m args below meth c R RX5 cc nL rt G A Q k n (Hd G A w) pc lv (.ref a :: st) := k_get (j := 1) (C := RX5) (T := TX5) (N := 29) rfl inX5 (by decide) gw_452 hd ha hv kk
theorem p_X5_13 (hini : meth.name = "<init>") (hd : decode cc pc = .ok (.putfield 13, 3)) (ha : w a = some (.inr (5, fs))) (hn : narrow (tyX5 1) v = v) (hf : fits (tyX5 1) v = true) (hlen : 1 < fs.length) (kk : K p l e s m args below meth c R RX5 cc nL rt G A Q k n (Hd G A (us w a (.inr (5, fs.set 1 v)))) (pc + 3) lv st) : K p l e s m args below meth c R RX5 cc nL rt G A Q k n (Hd G A w) pc lv (v :: .ref a :: st) := k_putF (j := 1) (C := RX5) (T := TX5) (N := 29) (ty := (tyX5 1)) tyX5 rfl inX5 tyX5_ok nmX5 (by decide) gw_452 rfl hini rfl (tyX5_ok 1 (by decide)) hd ha hn hf hlen kk
theorem g_X5_17 (hd : decode cc pc = .ok (.getfield 17, 3)) (ha : w a = some (.inr (5, fs))) (hv : fs[2]? = some v) (kk : K p l e s m args below meth c R RX5 cc nL rt G A Q k n (Hd G A w) (pc + 3) lv (v :: st)) : K p l e s m args below meth c R RX5 cc nL rt G A Q k n (Hd G A w) pc lv (.ref a :: st) := k_get (j := 2) (C := RX5) (T := TX5) (N := 29) rfl inX5 (by decide) gw_453 hd ha hv kk
theorem p_X5_17 (hini : meth.name = "<init>") (hd : decode cc pc = .ok (.putfield 17, 3)) (ha : w a = some (.inr (5, fs))) (hn : narrow (tyX5 2) v = v) (hf : fits (tyX5 2) v = true) (hlen : 2 < fs.length) (kk : K p l e s m args below meth c R RX5 cc nL rt G A Q k n (Hd G A (us w a (.inr (5, fs.set 2 v)))) (pc + 3) lv st) : K p l e s m args below meth c R RX5 cc nL rt G A Q k n (Hd G A w) pc lv (v :: .ref a :: st) := k_putF (j := 2) (C := RX5) (T := TX5) (N := 29) (ty := (tyX5 2)) tyX5 rfl inX5 tyX5_ok nmX5 (by decide) gw_453 rfl hini rfl (tyX5_ok 2 (by decide)) hd ha hn hf hlen kk
theorem g_X5_20 (hd : decode cc pc = .ok (.getfield 20, 3)) (ha : w a = some (.inr (5, fs))) (hv : fs[3]? = some v) (kk : K p l e s m args below meth c R RX5 cc nL rt G A Q k n (Hd G A w) (pc + 3) lv (v :: st)) : K p l e s m args below meth c R RX5 cc nL rt G A Q k n (Hd G A w) pc lv (.ref a :: st) := k_get (j := 3) (C := RX5) (T := TX5) (N := 29) rfl inX5 (by decide) gw_454 hd ha hv kk
theorem p_X5_20 (hini : meth.name = "<init>") (hd : decode cc pc = .ok (.putfield 20, 3)) (ha : w a = some (.inr (5, fs))) (hn : narrow (tyX5 3) v = v) (hf : fits (tyX5 3) v = true) (hlen : 3 < fs.length) (kk : K p l e s m args below meth c R RX5 cc nL rt G A Q k n (Hd G A (us w a (.inr (5, fs.set 3 v)))) (pc + 3) lv st) : K p l e s m args below meth c R RX5 cc nL rt G A Q k n (Hd G A w) pc lv (v :: .ref a :: st) := k_putF (j := 3) (C := RX5) (T := TX5) (N := 29) (ty := (tyX5 3)) tyX5 rfl inX5 tyX5_ok nmX5 (by decide) gw_454 rfl hini rfl (tyX5_ok 3 (by decide)) hd ha hn hf hlen kk
theorem g_X5_23 (hd : decode cc pc = .ok (.getfield 23, 3)) (ha : w a = some (.inr (5, fs))) (hv : fs[4]? = some v) (kk : K p l e s m args below meth c R RX5 cc nL rt G A Q k n (Hd G A w) (pc + 3) lv (v :: st)) : K p l e s m args below meth c R RX5 cc nL rt G A Q k n (Hd G A w) pc lv (.ref a :: st) := k_get (j := 4) (C := RX5) (T := TX5) (N := 29) rfl inX5 (by decide) gw_455 hd ha hv kk
theorem p_X5_23 (hini : meth.name = "<init>") (hd : decode cc pc = .ok (.putfield 23, 3)) (ha : w a = some (.inr (5, fs))) (hn : narrow (tyX5 4) v = v) (hf : fits (tyX5 4) v = true) (hlen : 4 < fs.length) (kk : K p l e s m args below meth c R RX5 cc nL rt G A Q k n (Hd G A (us w a (.inr (5, fs.set 4 v)))) (pc + 3) lv st) : K p l e s m args below meth c R RX5 cc nL rt G A Q k n (Hd G A w) pc lv (v :: .ref a :: st) := k_putF (j := 4) (C := RX5) (T := TX5) (N := 29) (ty := (tyX5 4)) tyX5 rfl inX5 tyX5_ok nmX5 (by decide) gw_455 rfl hini rfl (tyX5_ok 4 (by decide)) hd ha hn hf hlen kk
theorem g_X5_27 (hd : decode cc pc = .ok (.getfield 27, 3)) (ha : w a = some (.inr (5, fs))) (hv : fs[5]? = some v) (kk : K p l e s m args below meth c R RX5 cc nL rt G A Q k n (Hd G A w) (pc + 3) lv (v :: st)) : K p l e s m args below meth c R RX5 cc nL rt G A Q k n (Hd G A w) pc lv (.ref a :: st) := k_get (j := 5) (C := RX5) (T := TX5) (N := 29) rfl inX5 (by decide) gw_456 hd ha hv kk
theorem p_X5_27 (hini : meth.name = "<init>") (hd : decode cc pc = .ok (.putfield 27, 3)) (ha : w a = some (.inr (5, fs))) (hn : narrow (tyX5 5) v = v) (hf : fits (tyX5 5) v = true) (hlen : 5 < fs.length) (kk : K p l e s m args below meth c R RX5 cc nL rt G A Q k n (Hd G A (us w a (.inr (5, fs.set 5 v)))) (pc + 3) lv st) : K p l e s m args below meth c R RX5 cc nL rt G A Q k n (Hd G A w) pc lv (v :: .ref a :: st) := k_putF (j := 5) (C := RX5) (T := TX5) (N := 29) (ty := (tyX5 5)) tyX5 rfl inX5 tyX5_ok nmX5 (by decide) gw_456 rfl hini rfl (tyX5_ok 5 (by decide)) hd ha hn hf hlen kk
theorem g_X5_30 (hd : decode cc pc = .ok (.getfield 30, 3)) (ha : w a = some (.inr (5, fs))) (hv : fs[6]? = some v) (kk : K p l e s m args below meth c R RX5 cc nL rt G A Q k n (Hd G A w) (pc + 3) lv (v :: st)) : K p l e s m args below meth c R RX5 cc nL rt G A Q k n (Hd G A w) pc lv (.ref a :: st) := k_get (j := 6) (C := RX5) (T := TX5) (N := 29) rfl inX5 (by decide) gw_457 hd ha hv kk
theorem p_X5_30 (hini : meth.name = "<init>") (hd : decode cc pc = .ok (.putfield 30, 3)) (ha : w a = some (.inr (5, fs))) (hn : narrow (tyX5 6) v = v) (hf : fits (tyX5 6) v = true) (hlen : 6 < fs.length) (kk : K p l e s m args below meth c R RX5 cc nL rt G A Q k n (Hd G A (us w a (.inr (5, fs.set 6 v)))) (pc + 3) lv st) : K p l e s m args below meth c R RX5 cc nL rt G A Q k n (Hd G A w) pc lv (v :: .ref a :: st) := k_putF (j := 6) (C := RX5) (T := TX5) (N := 29) (ty := (tyX5 6)) tyX5 rfl inX5 tyX5_ok nmX5 (by decide) gw_457 rfl hini rfl (tyX5_ok 6 (by decide)) hd ha hn hf hlen kk
theorem g_X5_96 (hd : decode cc pc = .ok (.getfield 96, 3)) (ha : w a = some (.inr (5, fs))) (hv : fs[7]? = some v) (kk : K p l e s m args below meth c R RX5 cc nL rt G A Q k n (Hd G A w) (pc + 3) lv (v :: st)) : K p l e s m args below meth c R RX5 cc nL rt G A Q k n (Hd G A w) pc lv (.ref a :: st) := k_get (j := 7) (C := RX5) (T := TX5) (N := 29) rfl inX5 (by decide) gw_458 hd ha hv kk
theorem p_X5_96 (hd : decode cc pc = .ok (.putfield 96, 3)) (ha : w a = some (.inr (5, fs))) (hn : narrow (tyX5 7) v = v) (hf : fits (tyX5 7) v = true) (hlen : 7 < fs.length) (kk : K p l e s m args below meth c R RX5 cc nL rt G A Q k n (Hd G A (us w a (.inr (5, fs.set 7 v)))) (pc + 3) lv st) : K p l e s m args below meth c R RX5 cc nL rt G A Q k n (Hd G A w) pc lv (v :: .ref a :: st) := k_put (j := 7) (C := RX5) (T := TX5) (N := 29) (ty := (tyX5 7)) tyX5 rfl inX5 tyX5_ok nmX5 (by decide) gw_458 rfl (tyX5_ok 7 (by decide)) hd ha hn hf hlen kk
theorem g_X5_33 (hd : decode cc pc = .ok (.getfield 33, 3)) (ha : w a = some (.inr (5, fs))) (hv : fs[8]? = some v) (kk : K p l e s m args below meth c R RX5 cc nL rt G A Q k n (Hd G A w) (pc + 3) lv (v :: st)) : K p l e s m args below meth c R RX5 cc nL rt G A Q k n (Hd G A w) pc lv (.ref a :: st) := k_get (j := 8) (C := RX5) (T := TX5) (N := 29) rfl inX5 (by decide) gw_459 hd ha hv kk
theorem p_X5_33 (hini : meth.name = "<init>") (hd : decode cc pc = .ok (.putfield 33, 3)) (ha : w a = some (.inr (5, fs))) (hn : narrow (tyX5 8) v = v) (hf : fits (tyX5 8) v = true) (hlen : 8 < fs.length) (kk : K p l e s m args below meth c R RX5 cc nL rt G A Q k n (Hd G A (us w a (.inr (5, fs.set 8 v)))) (pc + 3) lv st) : K p l e s m args below meth c R RX5 cc nL rt G A Q k n (Hd G A w) pc lv (v :: .ref a :: st) := k_putF (j := 8) (C := RX5) (T := TX5) (N := 29) (ty := (tyX5 8)) tyX5 rfl inX5 tyX5_ok nmX5 (by decide) gw_459 rfl hini rfl (tyX5_ok 8 (by decide)) hd ha hn hf hlen kk
theorem g_X5_106 (hd : decode cc pc = .ok (.getfield 106, 3)) (ha : w a = some (.inr (5, fs))) (hv : fs[9]? = some v) (kk : K p l e s m args below meth c R RX5 cc nL rt G A Q k n (Hd G A w) (pc + 3) lv (v :: st)) : K p l e s m args below meth c R RX5 cc nL rt G A Q k n (Hd G A w) pc lv (.ref a :: st) := k_get (j := 9) (C := RX5) (T := TX5) (N := 29) rfl inX5 (by decide) gw_460 hd ha hv kk
theorem p_X5_106 (hd : decode cc pc = .ok (.putfield 106, 3)) (ha : w a = some (.inr (5, fs))) (hn : narrow (tyX5 9) v = v) (hf : fits (tyX5 9) v = true) (hlen : 9 < fs.length) (kk : K p l e s m args below meth c R RX5 cc nL rt G A Q k n (Hd G A (us w a (.inr (5, fs.set 9 v)))) (pc + 3) lv st) : K p l e s m args below meth c R RX5 cc nL rt G A Q k n (Hd G A w) pc lv (v :: .ref a :: st) := k_put (j := 9) (C := RX5) (T := TX5) (N := 29) (ty := (tyX5 9)) tyX5 rfl inX5 tyX5_ok nmX5 (by decide) gw_460 rfl (tyX5_ok 9 (by decide)) hd ha hn hf hlen kk
theorem g_X5_100 (hd : decode cc pc = .ok (.getfield 100, 3)) (ha : w a = some (.inr (5, fs))) (hv : fs[10]? = some v) (kk : K p l e s m args below meth c R RX5 cc nL rt G A Q k n (Hd G A w) (pc + 3) lv (v :: st)) : K p l e s m args below meth c R RX5 cc nL rt G A Q k n (Hd G A w) pc lv (.ref a :: st) := k_get (j := 10) (C := RX5) (T := TX5) (N := 29) rfl inX5 (by decide) gw_461 hd ha hv kk
theorem p_X5_100 (hd : decode cc pc = .ok (.putfield 100, 3)) (ha : w a = some (.inr (5, fs))) (hn : narrow (tyX5 10) v = v) (hf : fits (tyX5 10) v = true) (hlen : 10 < fs.length) (kk : K p l e s m args below meth c R RX5 cc nL rt G A Q k n (Hd G A (us w a (.inr (5, fs.set 10 v)))) (pc + 3) lv st) : K p l e s m args below meth c R RX5 cc nL rt G A Q k n (Hd G A w) pc lv (v :: .ref a :: st) := k_put (j := 10) (C := RX5) (T := TX5) (N := 29) (ty := (tyX5 10)) tyX5 rfl inX5 tyX5_ok nmX5 (by decide) gw_461 rfl (tyX5_ok 10 (by decide)) hd ha hn hf hlen kk
theorem g_X5_36 (hd : decode cc pc = .ok (.getfield 36, 3)) (ha : w a = some (.inr (5, fs))) (hv : fs[11]? = some v) (kk : K p l e s m args below meth c R RX5 cc nL rt G A Q k n (Hd G A w) (pc + 3) lv (v :: st)) : K p l e s m args below meth c R RX5 cc nL rt G A Q k n (Hd G A w) pc lv (.ref a :: st) := k_get (j := 11) (C := RX5) (T := TX5) (N := 29) rfl inX5 (by decide) gw_462 hd ha hv kk
theorem p_X5_36 (hini : meth.name = "<init>") (hd : decode cc pc = .ok (.putfield 36, 3)) (ha : w a = some (.inr (5, fs))) (hn : narrow (tyX5 11) v = v) (hf : fits (tyX5 11) v = true) (hlen : 11 < fs.length) (kk : K p l e s m args below meth c R RX5 cc nL rt G A Q k n (Hd G A (us w a (.inr (5, fs.set 11 v)))) (pc + 3) lv st) : K p l e s m args below meth c R RX5 cc nL rt G A Q k n (Hd G A w) pc lv (v :: .ref a :: st) := k_putF (j := 11) (C := RX5) (T := TX5) (N := 29) (ty := (tyX5 11)) tyX5 rfl inX5 tyX5_ok nmX5 (by decide) gw_462 rfl hini rfl (tyX5_ok 11 (by decide)) hd ha hn hf hlen kk
theorem g_X5_39 (hd : decode cc pc = .ok (.getfield 39, 3)) (ha : w a = some (.inr (5, fs))) (hv : fs[12]? = some v) (kk : K p l e s m args below meth c R RX5 cc nL rt G A Q k n (Hd G A w) (pc + 3) lv (v :: st)) : K p l e s m args below meth c R RX5 cc nL rt G A Q k n (Hd G A w) pc lv (.ref a :: st) := k_get (j := 12) (C := RX5) (T := TX5) (N := 29) rfl inX5 (by decide) gw_463 hd ha hv kk
theorem p_X5_39 (hini : meth.name = "<init>") (hd : decode cc pc = .ok (.putfield 39, 3)) (ha : w a = some (.inr (5, fs))) (hn : narrow (tyX5 12) v = v) (hf : fits (tyX5 12) v = true) (hlen : 12 < fs.length) (kk : K p l e s m args below meth c R RX5 cc nL rt G A Q k n (Hd G A (us w a (.inr (5, fs.set 12 v)))) (pc + 3) lv st) : K p l e s m args below meth c R RX5 cc nL rt G A Q k n (Hd G A w) pc lv (v :: .ref a :: st) := k_putF (j := 12) (C := RX5) (T := TX5) (N := 29) (ty := (tyX5 12)) tyX5 rfl inX5 tyX5_ok nmX5 (by decide) gw_463 rfl hini rfl (tyX5_ok 12 (by decide)) hd ha hn hf hlen kk
theorem g_X5_42 (hd : decode cc pc = .ok (.getfield 42, 3)) (ha : w a = some (.inr (5, fs))) (hv : fs[13]? = some v) (kk : K p l e s m args below meth c R RX5 cc nL rt G A Q k n (Hd G A w) (pc + 3) lv (v :: st)) : K p l e s m args below meth c R RX5 cc nL rt G A Q k n (Hd G A w) pc lv (.ref a :: st) := k_get (j := 13) (C := RX5) (T := TX5) (N := 29) rfl inX5 (by decide) gw_464 hd ha hv kk
theorem p_X5_42 (hini : meth.name = "<init>") (hd : decode cc pc = .ok (.putfield 42, 3)) (ha : w a = some (.inr (5, fs))) (hn : narrow (tyX5 13) v = v) (hf : fits (tyX5 13) v = true) (hlen : 13 < fs.length) (kk : K p l e s m args below meth c R RX5 cc nL rt G A Q k n (Hd G A (us w a (.inr (5, fs.set 13 v)))) (pc + 3) lv st) : K p l e s m args below meth c R RX5 cc nL rt G A Q k n (Hd G A w) pc lv (v :: .ref a :: st) := k_putF (j := 13) (C := RX5) (T := TX5) (N := 29) (ty := (tyX5 13)) tyX5 rfl inX5 tyX5_ok nmX5 (by decide) gw_464 rfl hini rfl (tyX5_ok 13 (by decide)) hd ha hn hf hlen kk
theorem g_X5_45 (hd : decode cc pc = .ok (.getfield 45, 3)) (ha : w a = some (.inr (5, fs))) (hv : fs[14]? = some v) (kk : K p l e s m args below meth c R RX5 cc nL rt G A Q k n (Hd G A w) (pc + 3) lv (v :: st)) : K p l e s m args below meth c R RX5 cc nL rt G A Q k n (Hd G A w) pc lv (.ref a :: st) := k_get (j := 14) (C := RX5) (T := TX5) (N := 29) rfl inX5 (by decide) gw_465 hd ha hv kk
theorem p_X5_45 (hini : meth.name = "<init>") (hd : decode cc pc = .ok (.putfield 45, 3)) (ha : w a = some (.inr (5, fs))) (hn : narrow (tyX5 14) v = v) (hf : fits (tyX5 14) v = true) (hlen : 14 < fs.length) (kk : K p l e s m args below meth c R RX5 cc nL rt G A Q k n (Hd G A (us w a (.inr (5, fs.set 14 v)))) (pc + 3) lv st) : K p l e s m args below meth c R RX5 cc nL rt G A Q k n (Hd G A w) pc lv (v :: .ref a :: st) := k_putF (j := 14) (C := RX5) (T := TX5) (N := 29) (ty := (tyX5 14)) tyX5 rfl inX5 tyX5_ok nmX5 (by decide) gw_465 rfl hini rfl (tyX5_ok 14 (by decide)) hd ha hn hf hlen kk
theorem g_X5_48 (hd : decode cc pc = .ok (.getfield 48, 3)) (ha : w a = some (.inr (5, fs))) (hv : fs[15]? = some v) (kk : K p l e s m args below meth c R RX5 cc nL rt G A Q k n (Hd G A w) (pc + 3) lv (v :: st)) : K p l e s m args below meth c R RX5 cc nL rt G A Q k n (Hd G A w) pc lv (.ref a :: st) := k_get (j := 15) (C := RX5) (T := TX5) (N := 29) rfl inX5 (by decide) gw_466 hd ha hv kk
theorem p_X5_48 (hini : meth.name = "<init>") (hd : decode cc pc = .ok (.putfield 48, 3)) (ha : w a = some (.inr (5, fs))) (hn : narrow (tyX5 15) v = v) (hf : fits (tyX5 15) v = true) (hlen : 15 < fs.length) (kk : K p l e s m args below meth c R RX5 cc nL rt G A Q k n (Hd G A (us w a (.inr (5, fs.set 15 v)))) (pc + 3) lv st) : K p l e s m args below meth c R RX5 cc nL rt G A Q k n (Hd G A w) pc lv (v :: .ref a :: st) := k_putF (j := 15) (C := RX5) (T := TX5) (N := 29) (ty := (tyX5 15)) tyX5 rfl inX5 tyX5_ok nmX5 (by decide) gw_466 rfl hini rfl (tyX5_ok 15 (by decide)) hd ha hn hf hlen kk
theorem g_X5_51 (hd : decode cc pc = .ok (.getfield 51, 3)) (ha : w a = some (.inr (5, fs))) (hv : fs[16]? = some v) (kk : K p l e s m args below meth c R RX5 cc nL rt G A Q k n (Hd G A w) (pc + 3) lv (v :: st)) : K p l e s m args below meth c R RX5 cc nL rt G A Q k n (Hd G A w) pc lv (.ref a :: st) := k_get (j := 16) (C := RX5) (T := TX5) (N := 29) rfl inX5 (by decide) gw_467 hd ha hv kk
theorem p_X5_51 (hini : meth.name = "<init>") (hd : decode cc pc = .ok (.putfield 51, 3)) (ha : w a = some (.inr (5, fs))) (hn : narrow (tyX5 16) v = v) (hf : fits (tyX5 16) v = true) (hlen : 16 < fs.length) (kk : K p l e s m args below meth c R RX5 cc nL rt G A Q k n (Hd G A (us w a (.inr (5, fs.set 16 v)))) (pc + 3) lv st) : K p l e s m args below meth c R RX5 cc nL rt G A Q k n (Hd G A w) pc lv (v :: .ref a :: st) := k_putF (j := 16) (C := RX5) (T := TX5) (N := 29) (ty := (tyX5 16)) tyX5 rfl inX5 tyX5_ok nmX5 (by decide) gw_467 rfl hini rfl (tyX5_ok 16 (by decide)) hd ha hn hf hlen kk
theorem g_X5_54 (hd : decode cc pc = .ok (.getfield 54, 3)) (ha : w a = some (.inr (5, fs))) (hv : fs[17]? = some v) (kk : K p l e s m args below meth c R RX5 cc nL rt G A Q k n (Hd G A w) (pc + 3) lv (v :: st)) : K p l e s m args below meth c R RX5 cc nL rt G A Q k n (Hd G A w) pc lv (.ref a :: st) := k_get (j := 17) (C := RX5) (T := TX5) (N := 29) rfl inX5 (by decide) gw_468 hd ha hv kk
theorem p_X5_54 (hini : meth.name = "<init>") (hd : decode cc pc = .ok (.putfield 54, 3)) (ha : w a = some (.inr (5, fs))) (hn : narrow (tyX5 17) v = v) (hf : fits (tyX5 17) v = true) (hlen : 17 < fs.length) (kk : K p l e s m args below meth c R RX5 cc nL rt G A Q k n (Hd G A (us w a (.inr (5, fs.set 17 v)))) (pc + 3) lv st) : K p l e s m args below meth c R RX5 cc nL rt G A Q k n (Hd G A w) pc lv (v :: .ref a :: st) := k_putF (j := 17) (C := RX5) (T := TX5) (N := 29) (ty := (tyX5 17)) tyX5 rfl inX5 tyX5_ok nmX5 (by decide) gw_468 rfl hini rfl (tyX5_ok 17 (by decide)) hd ha hn hf hlen kk
theorem g_X5_57 (hd : decode cc pc = .ok (.getfield 57, 3)) (ha : w a = some (.inr (5, fs))) (hv : fs[18]? = some v) (kk : K p l e s m args below meth c R RX5 cc nL rt G A Q k n (Hd G A w) (pc + 3) lv (v :: st)) : K p l e s m args below meth c R RX5 cc nL rt G A Q k n (Hd G A w) pc lv (.ref a :: st) := k_get (j := 18) (C := RX5) (T := TX5) (N := 29) rfl inX5 (by decide) gw_469 hd ha hv kk
theorem p_X5_57 (hini : meth.name = "<init>") (hd : decode cc pc = .ok (.putfield 57, 3)) (ha : w a = some (.inr (5, fs))) (hn : narrow (tyX5 18) v = v) (hf : fits (tyX5 18) v = true) (hlen : 18 < fs.length) (kk : K p l e s m args below meth c R RX5 cc nL rt G A Q k n (Hd G A (us w a (.inr (5, fs.set 18 v)))) (pc + 3) lv st) : K p l e s m args below meth c R RX5 cc nL rt G A Q k n (Hd G A w) pc lv (v :: .ref a :: st) := k_putF (j := 18) (C := RX5) (T := TX5) (N := 29) (ty := (tyX5 18)) tyX5 rfl inX5 tyX5_ok nmX5 (by decide) gw_469 rfl hini rfl (tyX5_ok 18 (by decide)) hd ha hn hf hlen kk
theorem g_X5_60 (hd : decode cc pc = .ok (.getfield 60, 3)) (ha : w a = some (.inr (5, fs))) (hv : fs[19]? = some v) (kk : K p l e s m args below meth c R RX5 cc nL rt G A Q k n (Hd G A w) (pc + 3) lv (v :: st)) : K p l e s m args below meth c R RX5 cc nL rt G A Q k n (Hd G A w) pc lv (.ref a :: st) := k_get (j := 19) (C := RX5) (T := TX5) (N := 29) rfl inX5 (by decide) gw_470 hd ha hv kk
theorem p_X5_60 (hini : meth.name = "<init>") (hd : decode cc pc = .ok (.putfield 60, 3)) (ha : w a = some (.inr (5, fs))) (hn : narrow (tyX5 19) v = v) (hf : fits (tyX5 19) v = true) (hlen : 19 < fs.length) (kk : K p l e s m args below meth c R RX5 cc nL rt G A Q k n (Hd G A (us w a (.inr (5, fs.set 19 v)))) (pc + 3) lv st) : K p l e s m args below meth c R RX5 cc nL rt G A Q k n (Hd G A w) pc lv (v :: .ref a :: st) := k_putF (j := 19) (C := RX5) (T := TX5) (N := 29) (ty := (tyX5 19)) tyX5 rfl inX5 tyX5_ok nmX5 (by decide) gw_470 rfl hini rfl (tyX5_ok 19 (by decide)) hd ha hn hf hlen kk
theorem g_X5_63 (hd : decode cc pc = .ok (.getfield 63, 3)) (ha : w a = some (.inr (5, fs))) (hv : fs[20]? = some v) (kk : K p l e s m args below meth c R RX5 cc nL rt G A Q k n (Hd G A w) (pc + 3) lv (v :: st)) : K p l e s m args below meth c R RX5 cc nL rt G A Q k n (Hd G A w) pc lv (.ref a :: st) := k_get (j := 20) (C := RX5) (T := TX5) (N := 29) rfl inX5 (by decide) gw_471 hd ha hv kk
theorem p_X5_63 (hini : meth.name = "<init>") (hd : decode cc pc = .ok (.putfield 63, 3)) (ha : w a = some (.inr (5, fs))) (hn : narrow (tyX5 20) v = v) (hf : fits (tyX5 20) v = true) (hlen : 20 < fs.length) (kk : K p l e s m args below meth c R RX5 cc nL rt G A Q k n (Hd G A (us w a (.inr (5, fs.set 20 v)))) (pc + 3) lv st) : K p l e s m args below meth c R RX5 cc nL rt G A Q k n (Hd G A w) pc lv (v :: .ref a :: st) := k_putF (j := 20) (C := RX5) (T := TX5) (N := 29) (ty := (tyX5 20)) tyX5 rfl inX5 tyX5_ok nmX5 (by decide) gw_471 rfl hini rfl (tyX5_ok 20 (by decide)) hd ha hn hf hlen kk
theorem g_X5_66 (hd : decode cc pc = .ok (.getfield 66, 3)) (ha : w a = some (.inr (5, fs))) (hv : fs[21]? = some v) (kk : K p l e s m args below meth c R RX5 cc nL rt G A Q k n (Hd G A w) (pc + 3) lv (v :: st)) : K p l e s m args below meth c R RX5 cc nL rt G A Q k n (Hd G A w) pc lv (.ref a :: st) := k_get (j := 21) (C := RX5) (T := TX5) (N := 29) rfl inX5 (by decide) gw_472 hd ha hv kk
theorem p_X5_66 (hini : meth.name = "<init>") (hd : decode cc pc = .ok (.putfield 66, 3)) (ha : w a = some (.inr (5, fs))) (hn : narrow (tyX5 21) v = v) (hf : fits (tyX5 21) v = true) (hlen : 21 < fs.length) (kk : K p l e s m args below meth c R RX5 cc nL rt G A Q k n (Hd G A (us w a (.inr (5, fs.set 21 v)))) (pc + 3) lv st) : K p l e s m args below meth c R RX5 cc nL rt G A Q k n (Hd G A w) pc lv (v :: .ref a :: st) := k_putF (j := 21) (C := RX5) (T := TX5) (N := 29) (ty := (tyX5 21)) tyX5 rfl inX5 tyX5_ok nmX5 (by decide) gw_472 rfl hini rfl (tyX5_ok 21 (by decide)) hd ha hn hf hlen kk
theorem g_X5_69 (hd : decode cc pc = .ok (.getfield 69, 3)) (ha : w a = some (.inr (5, fs))) (hv : fs[22]? = some v) (kk : K p l e s m args below meth c R RX5 cc nL rt G A Q k n (Hd G A w) (pc + 3) lv (v :: st)) : K p l e s m args below meth c R RX5 cc nL rt G A Q k n (Hd G A w) pc lv (.ref a :: st) := k_get (j := 22) (C := RX5) (T := TX5) (N := 29) rfl inX5 (by decide) gw_473 hd ha hv kk
theorem p_X5_69 (hini : meth.name = "<init>") (hd : decode cc pc = .ok (.putfield 69, 3)) (ha : w a = some (.inr (5, fs))) (hn : narrow (tyX5 22) v = v) (hf : fits (tyX5 22) v = true) (hlen : 22 < fs.length) (kk : K p l e s m args below meth c R RX5 cc nL rt G A Q k n (Hd G A (us w a (.inr (5, fs.set 22 v)))) (pc + 3) lv st) : K p l e s m args below meth c R RX5 cc nL rt G A Q k n (Hd G A w) pc lv (v :: .ref a :: st) := k_putF (j := 22) (C := RX5) (T := TX5) (N := 29) (ty := (tyX5 22)) tyX5 rfl inX5 tyX5_ok nmX5 (by decide) gw_473 rfl hini rfl (tyX5_ok 22 (by decide)) hd ha hn hf hlen kk
theorem g_X5_130 (hd : decode cc pc = .ok (.getfield 130, 3)) (ha : w a = some (.inr (5, fs))) (hv : fs[23]? = some v) (kk : K p l e s m args below meth c R RX5 cc nL rt G A Q k n (Hd G A w) (pc + 3) lv (v :: st)) : K p l e s m args below meth c R RX5 cc nL rt G A Q k n (Hd G A w) pc lv (.ref a :: st) := k_get (j := 23) (C := RX5) (T := TX5) (N := 29) rfl inX5 (by decide) gw_474 hd ha hv kk
theorem p_X5_130 (hd : decode cc pc = .ok (.putfield 130, 3)) (ha : w a = some (.inr (5, fs))) (hn : narrow (tyX5 23) v = v) (hf : fits (tyX5 23) v = true) (hlen : 23 < fs.length) (kk : K p l e s m args below meth c R RX5 cc nL rt G A Q k n (Hd G A (us w a (.inr (5, fs.set 23 v)))) (pc + 3) lv st) : K p l e s m args below meth c R RX5 cc nL rt G A Q k n (Hd G A w) pc lv (v :: .ref a :: st) := k_put (j := 23) (C := RX5) (T := TX5) (N := 29) (ty := (tyX5 23)) tyX5 rfl inX5 tyX5_ok nmX5 (by decide) gw_474 rfl (tyX5_ok 23 (by decide)) hd ha hn hf hlen kk
theorem g_X5_72 (hd : decode cc pc = .ok (.getfield 72, 3)) (ha : w a = some (.inr (5, fs))) (hv : fs[24]? = some v) (kk : K p l e s m args below meth c R RX5 cc nL rt G A Q k n (Hd G A w) (pc + 3) lv (v :: st)) : K p l e s m args below meth c R RX5 cc nL rt G A Q k n (Hd G A w) pc lv (.ref a :: st) := k_get (j := 24) (C := RX5) (T := TX5) (N := 29) rfl inX5 (by decide) gw_475 hd ha hv kk
theorem p_X5_72 (hini : meth.name = "<init>") (hd : decode cc pc = .ok (.putfield 72, 3)) (ha : w a = some (.inr (5, fs))) (hn : narrow (tyX5 24) v = v) (hf : fits (tyX5 24) v = true) (hlen : 24 < fs.length) (kk : K p l e s m args below meth c R RX5 cc nL rt G A Q k n (Hd G A (us w a (.inr (5, fs.set 24 v)))) (pc + 3) lv st) : K p l e s m args below meth c R RX5 cc nL rt G A Q k n (Hd G A w) pc lv (v :: .ref a :: st) := k_putF (j := 24) (C := RX5) (T := TX5) (N := 29) (ty := (tyX5 24)) tyX5 rfl inX5 tyX5_ok nmX5 (by decide) gw_475 rfl hini rfl (tyX5_ok 24 (by decide)) hd ha hn hf hlen kk
theorem g_X5_157 (hd : decode cc pc = .ok (.getfield 157, 3)) (ha : w a = some (.inr (5, fs))) (hv : fs[25]? = some v) (kk : K p l e s m args below meth c R RX5 cc nL rt G A Q k n (Hd G A w) (pc + 3) lv (v :: st)) : K p l e s m args below meth c R RX5 cc nL rt G A Q k n (Hd G A w) pc lv (.ref a :: st) := k_get (j := 25) (C := RX5) (T := TX5) (N := 29) rfl inX5 (by decide) gw_476 hd ha hv kk
theorem p_X5_157 (hd : decode cc pc = .ok (.putfield 157, 3)) (ha : w a = some (.inr (5, fs))) (hn : narrow (tyX5 25) v = v) (hf : fits (tyX5 25) v = true) (hlen : 25 < fs.length) (kk : K p l e s m args below meth c R RX5 cc nL rt G A Q k n (Hd G A (us w a (.inr (5, fs.set 25 v)))) (pc + 3) lv st) : K p l e s m args below meth c R RX5 cc nL rt G A Q k n (Hd G A w) pc lv (v :: .ref a :: st) := k_put (j := 25) (C := RX5) (T := TX5) (N := 29) (ty := (tyX5 25)) tyX5 rfl inX5 tyX5_ok nmX5 (by decide) gw_476 rfl (tyX5_ok 25 (by decide)) hd ha hn hf hlen kk
theorem g_X5_161 (hd : decode cc pc = .ok (.getfield 161, 3)) (ha : w a = some (.inr (5, fs))) (hv : fs[26]? = some v) (kk : K p l e s m args below meth c R RX5 cc nL rt G A Q k n (Hd G A w) (pc + 3) lv (v :: st)) : K p l e s m args below meth c R RX5 cc nL rt G A Q k n (Hd G A w) pc lv (.ref a :: st) := k_get (j := 26) (C := RX5) (T := TX5) (N := 29) rfl inX5 (by decide) gw_477 hd ha hv kk
theorem p_X5_161 (hd : decode cc pc = .ok (.putfield 161, 3)) (ha : w a = some (.inr (5, fs))) (hn : narrow (tyX5 26) v = v) (hf : fits (tyX5 26) v = true) (hlen : 26 < fs.length) (kk : K p l e s m args below meth c R RX5 cc nL rt G A Q k n (Hd G A (us w a (.inr (5, fs.set 26 v)))) (pc + 3) lv st) : K p l e s m args below meth c R RX5 cc nL rt G A Q k n (Hd G A w) pc lv (v :: .ref a :: st) := k_put (j := 26) (C := RX5) (T := TX5) (N := 29) (ty := (tyX5 26)) tyX5 rfl inX5 tyX5_ok nmX5 (by decide) gw_477 rfl (tyX5_ok 26 (by decide)) hd ha hn hf hlen kk
theorem g_X5_164 (hd : decode cc pc = .ok (.getfield 164, 3)) (ha : w a = some (.inr (5, fs))) (hv : fs[27]? = some v) (kk : K p l e s m args below meth c R RX5 cc nL rt G A Q k n (Hd G A w) (pc + 3) lv (v :: st)) : K p l e s m args below meth c R RX5 cc nL rt G A Q k n (Hd G A w) pc lv (.ref a :: st) := k_get (j := 27) (C := RX5) (T := TX5) (N := 29) rfl inX5 (by decide) gw_478 hd ha hv kk
theorem p_X5_164 (hd : decode cc pc = .ok (.putfield 164, 3)) (ha : w a = some (.inr (5, fs))) (hn : narrow (tyX5 27) v = v) (hf : fits (tyX5 27) v = true) (hlen : 27 < fs.length) (kk : K p l e s m args below meth c R RX5 cc nL rt G A Q k n (Hd G A (us w a (.inr (5, fs.set 27 v)))) (pc + 3) lv st) : K p l e s m args below meth c R RX5 cc nL rt G A Q k n (Hd G A w) pc lv (v :: .ref a :: st) := k_put (j := 27) (C := RX5) (T := TX5) (N := 29) (ty := (tyX5 27)) tyX5 rfl inX5 tyX5_ok nmX5 (by decide) gw_478 rfl (tyX5_ok 27 (by decide)) hd ha hn hf hlen kk
theorem g_X5_167 (hd : decode cc pc = .ok (.getfield 167, 3)) (ha : w a = some (.inr (5, fs))) (hv : fs[28]? = some v) (kk : K p l e s m args below meth c R RX5 cc nL rt G A Q k n (Hd G A w) (pc + 3) lv (v :: st)) : K p l e s m args below meth c R RX5 cc nL rt G A Q k n (Hd G A w) pc lv (.ref a :: st) := k_get (j := 28) (C := RX5) (T := TX5) (N := 29) rfl inX5 (by decide) gw_479 hd ha hv kk
theorem p_X5_167 (hd : decode cc pc = .ok (.putfield 167, 3)) (ha : w a = some (.inr (5, fs))) (hn : narrow (tyX5 28) v = v) (hf : fits (tyX5 28) v = true) (hlen : 28 < fs.length) (kk : K p l e s m args below meth c R RX5 cc nL rt G A Q k n (Hd G A (us w a (.inr (5, fs.set 28 v)))) (pc + 3) lv st) : K p l e s m args below meth c R RX5 cc nL rt G A Q k n (Hd G A w) pc lv (v :: .ref a :: st) := k_put (j := 28) (C := RX5) (T := TX5) (N := 29) (ty := (tyX5 28)) tyX5 rfl inX5 tyX5_ok nmX5 (by decide) gw_479 rfl (tyX5_ok 28 (by decide)) hd ha hn hf hlen kk
end KFLD
end
section
def mtp : Nat → Nat := fun k => match k with
  | 0 => 2
  | 1 => 1
  | 2 => 1
  | 3 => 1
  | 4 => 3
  | 5 => 3
  | 6 => 1
  | 8 => 1
  | 11 => 2
  | 12 => 1
  | 13 => 1
  | 14 => 1
  | 15 => 3
  | 16 => 1
  | 17 => 2
  | 18 => 1
  | 19 => 1
  | 20 => 1
  | 21 => 3
  | 22 => 3
  | 24 => 1
  | _ => 0
def mln : Nat → Nat := fun k => match k with
  | 0 => 700
  | 1 => 700
  | 2 => 700
  | 3 => 700
  | 4 => 700
  | 5 => 700
  | 6 => 700
  | 8 => 8
  | 11 => 512
  | 12 => 512
  | 13 => 512
  | 14 => 512
  | 15 => 512
  | 16 => 64
  | 17 => 700
  | 18 => 700
  | 19 => 700
  | 20 => 700
  | 21 => 700
  | 22 => 700
  | 24 => 12
  | _ => 0
def m_fs (ad : Nat → Nat) (fi : Nat → Int32) : List Value := [.ref (ad 0), .ref (ad 1), .ref (ad 2), .ref (ad 3), .ref (ad 4), .ref (ad 5), .ref (ad 6), .int (fi 7), .ref (ad 8), .int (fi 9), .int (fi 10), .ref (ad 11), .ref (ad 12), .ref (ad 13), .ref (ad 14), .ref (ad 15), .ref (ad 16), .ref (ad 17), .ref (ad 18), .ref (ad 19), .ref (ad 20), .ref (ad 21), .ref (ad 22), .int (fi 23), .ref (ad 24), .int (fi 25), .int (fi 26), .int (fi 27), .int (fi 28)]
def mcell (ai : Nat → Nat → Int32) (al : Nat → Nat → Int64) (k : Nat) : Ce := if mtp k = 2 then .inl (1, mln k, fun j => .long (al k j)) else if mtp k = 1 then .inl (0, mln k, fun j => .int (ai k j)) else .inl (2, mln k, fun j => .int (ai k j))
/-- the reference's world: its object at mo, its arrays at ad k (k: the field's slot; sl: back from an address to the slot) -/
def mw (mo : Nat) (ad sl : Nat → Nat) (fi : Nat → Int32) (ai : Nat → Nat → Int32) (al : Nat → Nat → Int64) : Wd := fun a => if a = mo then some (.inr (5, m_fs ad fi)) else if mtp (sl a) ≠ 0 ∧ ad (sl a) = a then some (mcell ai al (sl a)) else none
def MSt (mo : Nat) (ad sl : Nat → Nat) : Prop := ∀ k, mtp k ≠ 0 → sl (ad k) = k ∧ ad k ≠ mo
theorem nI_inc (k : Nat) : nI k + Int32.ofInt 1 = nI (k + 1) := nI_1 k
def up2 {α : Type} (f : Nat → Nat → α) (q j : Nat) (x : α) : Nat → Nat → α := va_up f q (va_up (f q) j x)
theorem up2_at {α : Type} (f : Nat → Nat → α) (q j : Nat) (x : α) (a b : Nat) : up2 f q j x a b = if a = q ∧ b = j then x else f a b := by
  unfold up2 va_up
  by_cases h : a = q
  · subst h
    by_cases h2 : b = j <;> simp [h2]
  · simp [h]
section MROWS
variable {p : Program} {l : Launch} {e : Env} {s : State} {m : MethodId} {args : Array Value} {below : List Frame} {meth : Method} {c : Code} {R : Room} {cc : ByteArray} {nL : Nat} {rt : Option FieldType} {G : Gd} {A : Nat → Prop} {Q : State → Prop} {k n : Nat} {pc : Nat} {lv : List (Option Value)} {st : List Value} {mo : Nat} {ad sl : Nat → Nat} {fi : Nat → Int32} {ai : Nat → Nat → Int32} {al : Nat → Nat → Int64}
theorem mw_mo (hst : MSt mo ad sl) : mw mo ad sl fi ai al mo = some (.inr (5, m_fs ad fi)) := if_pos rfl
theorem mw_ad (hst : MSt mo ad sl) {k : Nat} (hk : mtp k ≠ 0) : mw mo ad sl fi ai al (ad k) = some (mcell ai al k) := by
  have h := hst k hk
  unfold mw
  rw [if_neg h.2, h.1, if_pos ⟨hk, rfl⟩]
theorem mw_up (hst : MSt mo ad sl) {k : Nat} (hk : mtp k ≠ 0) {ai' : Nat → Nat → Int32} {al' : Nat → Nat → Int64} {x : Ce} (hx : x = mcell ai' al' k) (hne : ∀ q, q ≠ k → mcell ai' al' q = mcell ai al q) : us (mw mo ad sl fi ai al) (ad k) x = mw mo ad sl fi ai' al' := by
  funext a
  have h := hst k hk
  by_cases ha : a = ad k
  · subst ha
    rw [us_same, mw_ad hst hk, hx]
  · rw [us_ne _ _ ha]
    unfold mw
    by_cases hm : a = mo
    · rw [if_pos hm, if_pos hm]
    · rw [if_neg hm, if_neg hm]
      by_cases hs : mtp (sl a) ≠ 0 ∧ ad (sl a) = a
      · rw [if_pos hs, if_pos hs, hne (sl a) (fun e => ha (by rw [← hs.2, e]))]
      · rw [if_neg hs, if_neg hs]
theorem mg_7 (hst : MSt mo ad sl) (hd : decode cc pc = .ok (.getfield 7, 3)) (kk : K p l e s m args below meth c R RX5 cc nL rt G A Q k n (Hd G A (mw mo ad sl fi ai al)) (pc + 3) lv (.ref (ad 0) :: st)) : K p l e s m args below meth c R RX5 cc nL rt G A Q k n (Hd G A (mw mo ad sl fi ai al)) pc lv (.ref mo :: st) := g_X5_7 hd (mw_mo hst) rfl kk
theorem mg_13 (hst : MSt mo ad sl) (hd : decode cc pc = .ok (.getfield 13, 3)) (kk : K p l e s m args below meth c R RX5 cc nL rt G A Q k n (Hd G A (mw mo ad sl fi ai al)) (pc + 3) lv (.ref (ad 1) :: st)) : K p l e s m args below meth c R RX5 cc nL rt G A Q k n (Hd G A (mw mo ad sl fi ai al)) pc lv (.ref mo :: st) := g_X5_13 hd (mw_mo hst) rfl kk
theorem mg_17 (hst : MSt mo ad sl) (hd : decode cc pc = .ok (.getfield 17, 3)) (kk : K p l e s m args below meth c R RX5 cc nL rt G A Q k n (Hd G A (mw mo ad sl fi ai al)) (pc + 3) lv (.ref (ad 2) :: st)) : K p l e s m args below meth c R RX5 cc nL rt G A Q k n (Hd G A (mw mo ad sl fi ai al)) pc lv (.ref mo :: st) := g_X5_17 hd (mw_mo hst) rfl kk
theorem mg_20 (hst : MSt mo ad sl) (hd : decode cc pc = .ok (.getfield 20, 3)) (kk : K p l e s m args below meth c R RX5 cc nL rt G A Q k n (Hd G A (mw mo ad sl fi ai al)) (pc + 3) lv (.ref (ad 3) :: st)) : K p l e s m args below meth c R RX5 cc nL rt G A Q k n (Hd G A (mw mo ad sl fi ai al)) pc lv (.ref mo :: st) := g_X5_20 hd (mw_mo hst) rfl kk
theorem mg_23 (hst : MSt mo ad sl) (hd : decode cc pc = .ok (.getfield 23, 3)) (kk : K p l e s m args below meth c R RX5 cc nL rt G A Q k n (Hd G A (mw mo ad sl fi ai al)) (pc + 3) lv (.ref (ad 4) :: st)) : K p l e s m args below meth c R RX5 cc nL rt G A Q k n (Hd G A (mw mo ad sl fi ai al)) pc lv (.ref mo :: st) := g_X5_23 hd (mw_mo hst) rfl kk
theorem mg_27 (hst : MSt mo ad sl) (hd : decode cc pc = .ok (.getfield 27, 3)) (kk : K p l e s m args below meth c R RX5 cc nL rt G A Q k n (Hd G A (mw mo ad sl fi ai al)) (pc + 3) lv (.ref (ad 5) :: st)) : K p l e s m args below meth c R RX5 cc nL rt G A Q k n (Hd G A (mw mo ad sl fi ai al)) pc lv (.ref mo :: st) := g_X5_27 hd (mw_mo hst) rfl kk
theorem mg_30 (hst : MSt mo ad sl) (hd : decode cc pc = .ok (.getfield 30, 3)) (kk : K p l e s m args below meth c R RX5 cc nL rt G A Q k n (Hd G A (mw mo ad sl fi ai al)) (pc + 3) lv (.ref (ad 6) :: st)) : K p l e s m args below meth c R RX5 cc nL rt G A Q k n (Hd G A (mw mo ad sl fi ai al)) pc lv (.ref mo :: st) := g_X5_30 hd (mw_mo hst) rfl kk
theorem mg_96 (hst : MSt mo ad sl) (hd : decode cc pc = .ok (.getfield 96, 3)) (kk : K p l e s m args below meth c R RX5 cc nL rt G A Q k n (Hd G A (mw mo ad sl fi ai al)) (pc + 3) lv (.int (fi 7) :: st)) : K p l e s m args below meth c R RX5 cc nL rt G A Q k n (Hd G A (mw mo ad sl fi ai al)) pc lv (.ref mo :: st) := g_X5_96 hd (mw_mo hst) rfl kk
theorem mp_96 (hst : MSt mo ad sl) {x : Int32} (hd : decode cc pc = .ok (.putfield 96, 3)) (hn : narrow (tyX5 7) (.int x) = .int x) (hf : fits (tyX5 7) (.int x) = true) (kk : K p l e s m args below meth c R RX5 cc nL rt G A Q k n (Hd G A (mw mo ad sl (va_up fi 7 x) ai al)) (pc + 3) lv st) : K p l e s m args below meth c R RX5 cc nL rt G A Q k n (Hd G A (mw mo ad sl fi ai al)) pc lv (.int x :: .ref mo :: st) := by
  refine p_X5_96 hd (mw_mo hst) hn hf (Nat.le_of_ble_eq_true rfl) ?_
  have h : us (mw mo ad sl fi ai al) mo (.inr (5, (m_fs ad fi).set 7 (.int x))) = mw mo ad sl (va_up fi 7 x) ai al := by
    funext a
    by_cases ha : a = mo
    · subst ha
      rw [us_same, mw_mo hst]
      rfl
    · rw [us_ne _ _ ha]
      unfold mw
      rw [if_neg ha, if_neg ha]
  rw [h]
  exact kk
theorem mg_33 (hst : MSt mo ad sl) (hd : decode cc pc = .ok (.getfield 33, 3)) (kk : K p l e s m args below meth c R RX5 cc nL rt G A Q k n (Hd G A (mw mo ad sl fi ai al)) (pc + 3) lv (.ref (ad 8) :: st)) : K p l e s m args below meth c R RX5 cc nL rt G A Q k n (Hd G A (mw mo ad sl fi ai al)) pc lv (.ref mo :: st) := g_X5_33 hd (mw_mo hst) rfl kk
theorem mg_106 (hst : MSt mo ad sl) (hd : decode cc pc = .ok (.getfield 106, 3)) (kk : K p l e s m args below meth c R RX5 cc nL rt G A Q k n (Hd G A (mw mo ad sl fi ai al)) (pc + 3) lv (.int (fi 9) :: st)) : K p l e s m args below meth c R RX5 cc nL rt G A Q k n (Hd G A (mw mo ad sl fi ai al)) pc lv (.ref mo :: st) := g_X5_106 hd (mw_mo hst) rfl kk
theorem mp_106 (hst : MSt mo ad sl) {x : Int32} (hd : decode cc pc = .ok (.putfield 106, 3)) (hn : narrow (tyX5 9) (.int x) = .int x) (hf : fits (tyX5 9) (.int x) = true) (kk : K p l e s m args below meth c R RX5 cc nL rt G A Q k n (Hd G A (mw mo ad sl (va_up fi 9 x) ai al)) (pc + 3) lv st) : K p l e s m args below meth c R RX5 cc nL rt G A Q k n (Hd G A (mw mo ad sl fi ai al)) pc lv (.int x :: .ref mo :: st) := by
  refine p_X5_106 hd (mw_mo hst) hn hf (Nat.le_of_ble_eq_true rfl) ?_
  have h : us (mw mo ad sl fi ai al) mo (.inr (5, (m_fs ad fi).set 9 (.int x))) = mw mo ad sl (va_up fi 9 x) ai al := by
    funext a
    by_cases ha : a = mo
    · subst ha
      rw [us_same, mw_mo hst]
      rfl
    · rw [us_ne _ _ ha]
      unfold mw
      rw [if_neg ha, if_neg ha]
  rw [h]
  exact kk
theorem mg_100 (hst : MSt mo ad sl) (hd : decode cc pc = .ok (.getfield 100, 3)) (kk : K p l e s m args below meth c R RX5 cc nL rt G A Q k n (Hd G A (mw mo ad sl fi ai al)) (pc + 3) lv (.int (fi 10) :: st)) : K p l e s m args below meth c R RX5 cc nL rt G A Q k n (Hd G A (mw mo ad sl fi ai al)) pc lv (.ref mo :: st) := g_X5_100 hd (mw_mo hst) rfl kk
theorem mp_100 (hst : MSt mo ad sl) {x : Int32} (hd : decode cc pc = .ok (.putfield 100, 3)) (hn : narrow (tyX5 10) (.int x) = .int x) (hf : fits (tyX5 10) (.int x) = true) (kk : K p l e s m args below meth c R RX5 cc nL rt G A Q k n (Hd G A (mw mo ad sl (va_up fi 10 x) ai al)) (pc + 3) lv st) : K p l e s m args below meth c R RX5 cc nL rt G A Q k n (Hd G A (mw mo ad sl fi ai al)) pc lv (.int x :: .ref mo :: st) := by
  refine p_X5_100 hd (mw_mo hst) hn hf (Nat.le_of_ble_eq_true rfl) ?_
  have h : us (mw mo ad sl fi ai al) mo (.inr (5, (m_fs ad fi).set 10 (.int x))) = mw mo ad sl (va_up fi 10 x) ai al := by
    funext a
    by_cases ha : a = mo
    · subst ha
      rw [us_same, mw_mo hst]
      rfl
    · rw [us_ne _ _ ha]
      unfold mw
      rw [if_neg ha, if_neg ha]
  rw [h]
  exact kk
theorem mg_36 (hst : MSt mo ad sl) (hd : decode cc pc = .ok (.getfield 36, 3)) (kk : K p l e s m args below meth c R RX5 cc nL rt G A Q k n (Hd G A (mw mo ad sl fi ai al)) (pc + 3) lv (.ref (ad 11) :: st)) : K p l e s m args below meth c R RX5 cc nL rt G A Q k n (Hd G A (mw mo ad sl fi ai al)) pc lv (.ref mo :: st) := g_X5_36 hd (mw_mo hst) rfl kk
theorem mg_39 (hst : MSt mo ad sl) (hd : decode cc pc = .ok (.getfield 39, 3)) (kk : K p l e s m args below meth c R RX5 cc nL rt G A Q k n (Hd G A (mw mo ad sl fi ai al)) (pc + 3) lv (.ref (ad 12) :: st)) : K p l e s m args below meth c R RX5 cc nL rt G A Q k n (Hd G A (mw mo ad sl fi ai al)) pc lv (.ref mo :: st) := g_X5_39 hd (mw_mo hst) rfl kk
theorem mg_42 (hst : MSt mo ad sl) (hd : decode cc pc = .ok (.getfield 42, 3)) (kk : K p l e s m args below meth c R RX5 cc nL rt G A Q k n (Hd G A (mw mo ad sl fi ai al)) (pc + 3) lv (.ref (ad 13) :: st)) : K p l e s m args below meth c R RX5 cc nL rt G A Q k n (Hd G A (mw mo ad sl fi ai al)) pc lv (.ref mo :: st) := g_X5_42 hd (mw_mo hst) rfl kk
theorem mg_45 (hst : MSt mo ad sl) (hd : decode cc pc = .ok (.getfield 45, 3)) (kk : K p l e s m args below meth c R RX5 cc nL rt G A Q k n (Hd G A (mw mo ad sl fi ai al)) (pc + 3) lv (.ref (ad 14) :: st)) : K p l e s m args below meth c R RX5 cc nL rt G A Q k n (Hd G A (mw mo ad sl fi ai al)) pc lv (.ref mo :: st) := g_X5_45 hd (mw_mo hst) rfl kk
theorem mg_48 (hst : MSt mo ad sl) (hd : decode cc pc = .ok (.getfield 48, 3)) (kk : K p l e s m args below meth c R RX5 cc nL rt G A Q k n (Hd G A (mw mo ad sl fi ai al)) (pc + 3) lv (.ref (ad 15) :: st)) : K p l e s m args below meth c R RX5 cc nL rt G A Q k n (Hd G A (mw mo ad sl fi ai al)) pc lv (.ref mo :: st) := g_X5_48 hd (mw_mo hst) rfl kk
theorem mg_51 (hst : MSt mo ad sl) (hd : decode cc pc = .ok (.getfield 51, 3)) (kk : K p l e s m args below meth c R RX5 cc nL rt G A Q k n (Hd G A (mw mo ad sl fi ai al)) (pc + 3) lv (.ref (ad 16) :: st)) : K p l e s m args below meth c R RX5 cc nL rt G A Q k n (Hd G A (mw mo ad sl fi ai al)) pc lv (.ref mo :: st) := g_X5_51 hd (mw_mo hst) rfl kk
theorem mg_54 (hst : MSt mo ad sl) (hd : decode cc pc = .ok (.getfield 54, 3)) (kk : K p l e s m args below meth c R RX5 cc nL rt G A Q k n (Hd G A (mw mo ad sl fi ai al)) (pc + 3) lv (.ref (ad 17) :: st)) : K p l e s m args below meth c R RX5 cc nL rt G A Q k n (Hd G A (mw mo ad sl fi ai al)) pc lv (.ref mo :: st) := g_X5_54 hd (mw_mo hst) rfl kk
theorem mg_57 (hst : MSt mo ad sl) (hd : decode cc pc = .ok (.getfield 57, 3)) (kk : K p l e s m args below meth c R RX5 cc nL rt G A Q k n (Hd G A (mw mo ad sl fi ai al)) (pc + 3) lv (.ref (ad 18) :: st)) : K p l e s m args below meth c R RX5 cc nL rt G A Q k n (Hd G A (mw mo ad sl fi ai al)) pc lv (.ref mo :: st) := g_X5_57 hd (mw_mo hst) rfl kk
theorem mg_60 (hst : MSt mo ad sl) (hd : decode cc pc = .ok (.getfield 60, 3)) (kk : K p l e s m args below meth c R RX5 cc nL rt G A Q k n (Hd G A (mw mo ad sl fi ai al)) (pc + 3) lv (.ref (ad 19) :: st)) : K p l e s m args below meth c R RX5 cc nL rt G A Q k n (Hd G A (mw mo ad sl fi ai al)) pc lv (.ref mo :: st) := g_X5_60 hd (mw_mo hst) rfl kk
theorem mg_63 (hst : MSt mo ad sl) (hd : decode cc pc = .ok (.getfield 63, 3)) (kk : K p l e s m args below meth c R RX5 cc nL rt G A Q k n (Hd G A (mw mo ad sl fi ai al)) (pc + 3) lv (.ref (ad 20) :: st)) : K p l e s m args below meth c R RX5 cc nL rt G A Q k n (Hd G A (mw mo ad sl fi ai al)) pc lv (.ref mo :: st) := g_X5_63 hd (mw_mo hst) rfl kk
theorem mg_66 (hst : MSt mo ad sl) (hd : decode cc pc = .ok (.getfield 66, 3)) (kk : K p l e s m args below meth c R RX5 cc nL rt G A Q k n (Hd G A (mw mo ad sl fi ai al)) (pc + 3) lv (.ref (ad 21) :: st)) : K p l e s m args below meth c R RX5 cc nL rt G A Q k n (Hd G A (mw mo ad sl fi ai al)) pc lv (.ref mo :: st) := g_X5_66 hd (mw_mo hst) rfl kk
theorem mg_69 (hst : MSt mo ad sl) (hd : decode cc pc = .ok (.getfield 69, 3)) (kk : K p l e s m args below meth c R RX5 cc nL rt G A Q k n (Hd G A (mw mo ad sl fi ai al)) (pc + 3) lv (.ref (ad 22) :: st)) : K p l e s m args below meth c R RX5 cc nL rt G A Q k n (Hd G A (mw mo ad sl fi ai al)) pc lv (.ref mo :: st) := g_X5_69 hd (mw_mo hst) rfl kk
theorem mg_130 (hst : MSt mo ad sl) (hd : decode cc pc = .ok (.getfield 130, 3)) (kk : K p l e s m args below meth c R RX5 cc nL rt G A Q k n (Hd G A (mw mo ad sl fi ai al)) (pc + 3) lv (.int (fi 23) :: st)) : K p l e s m args below meth c R RX5 cc nL rt G A Q k n (Hd G A (mw mo ad sl fi ai al)) pc lv (.ref mo :: st) := g_X5_130 hd (mw_mo hst) rfl kk
theorem mp_130 (hst : MSt mo ad sl) {x : Int32} (hd : decode cc pc = .ok (.putfield 130, 3)) (hn : narrow (tyX5 23) (.int x) = .int x) (hf : fits (tyX5 23) (.int x) = true) (kk : K p l e s m args below meth c R RX5 cc nL rt G A Q k n (Hd G A (mw mo ad sl (va_up fi 23 x) ai al)) (pc + 3) lv st) : K p l e s m args below meth c R RX5 cc nL rt G A Q k n (Hd G A (mw mo ad sl fi ai al)) pc lv (.int x :: .ref mo :: st) := by
  refine p_X5_130 hd (mw_mo hst) hn hf (Nat.le_of_ble_eq_true rfl) ?_
  have h : us (mw mo ad sl fi ai al) mo (.inr (5, (m_fs ad fi).set 23 (.int x))) = mw mo ad sl (va_up fi 23 x) ai al := by
    funext a
    by_cases ha : a = mo
    · subst ha
      rw [us_same, mw_mo hst]
      rfl
    · rw [us_ne _ _ ha]
      unfold mw
      rw [if_neg ha, if_neg ha]
  rw [h]
  exact kk
theorem mg_72 (hst : MSt mo ad sl) (hd : decode cc pc = .ok (.getfield 72, 3)) (kk : K p l e s m args below meth c R RX5 cc nL rt G A Q k n (Hd G A (mw mo ad sl fi ai al)) (pc + 3) lv (.ref (ad 24) :: st)) : K p l e s m args below meth c R RX5 cc nL rt G A Q k n (Hd G A (mw mo ad sl fi ai al)) pc lv (.ref mo :: st) := g_X5_72 hd (mw_mo hst) rfl kk
theorem mg_157 (hst : MSt mo ad sl) (hd : decode cc pc = .ok (.getfield 157, 3)) (kk : K p l e s m args below meth c R RX5 cc nL rt G A Q k n (Hd G A (mw mo ad sl fi ai al)) (pc + 3) lv (.int (fi 25) :: st)) : K p l e s m args below meth c R RX5 cc nL rt G A Q k n (Hd G A (mw mo ad sl fi ai al)) pc lv (.ref mo :: st) := g_X5_157 hd (mw_mo hst) rfl kk
theorem mp_157 (hst : MSt mo ad sl) {x : Int32} (hd : decode cc pc = .ok (.putfield 157, 3)) (hn : narrow (tyX5 25) (.int x) = .int x) (hf : fits (tyX5 25) (.int x) = true) (kk : K p l e s m args below meth c R RX5 cc nL rt G A Q k n (Hd G A (mw mo ad sl (va_up fi 25 x) ai al)) (pc + 3) lv st) : K p l e s m args below meth c R RX5 cc nL rt G A Q k n (Hd G A (mw mo ad sl fi ai al)) pc lv (.int x :: .ref mo :: st) := by
  refine p_X5_157 hd (mw_mo hst) hn hf (Nat.le_of_ble_eq_true rfl) ?_
  have h : us (mw mo ad sl fi ai al) mo (.inr (5, (m_fs ad fi).set 25 (.int x))) = mw mo ad sl (va_up fi 25 x) ai al := by
    funext a
    by_cases ha : a = mo
    · subst ha
      rw [us_same, mw_mo hst]
      rfl
    · rw [us_ne _ _ ha]
      unfold mw
      rw [if_neg ha, if_neg ha]
  rw [h]
  exact kk
theorem mg_161 (hst : MSt mo ad sl) (hd : decode cc pc = .ok (.getfield 161, 3)) (kk : K p l e s m args below meth c R RX5 cc nL rt G A Q k n (Hd G A (mw mo ad sl fi ai al)) (pc + 3) lv (.int (fi 26) :: st)) : K p l e s m args below meth c R RX5 cc nL rt G A Q k n (Hd G A (mw mo ad sl fi ai al)) pc lv (.ref mo :: st) := g_X5_161 hd (mw_mo hst) rfl kk
theorem mp_161 (hst : MSt mo ad sl) {x : Int32} (hd : decode cc pc = .ok (.putfield 161, 3)) (hn : narrow (tyX5 26) (.int x) = .int x) (hf : fits (tyX5 26) (.int x) = true) (kk : K p l e s m args below meth c R RX5 cc nL rt G A Q k n (Hd G A (mw mo ad sl (va_up fi 26 x) ai al)) (pc + 3) lv st) : K p l e s m args below meth c R RX5 cc nL rt G A Q k n (Hd G A (mw mo ad sl fi ai al)) pc lv (.int x :: .ref mo :: st) := by
  refine p_X5_161 hd (mw_mo hst) hn hf (Nat.le_of_ble_eq_true rfl) ?_
  have h : us (mw mo ad sl fi ai al) mo (.inr (5, (m_fs ad fi).set 26 (.int x))) = mw mo ad sl (va_up fi 26 x) ai al := by
    funext a
    by_cases ha : a = mo
    · subst ha
      rw [us_same, mw_mo hst]
      rfl
    · rw [us_ne _ _ ha]
      unfold mw
      rw [if_neg ha, if_neg ha]
  rw [h]
  exact kk
theorem mg_164 (hst : MSt mo ad sl) (hd : decode cc pc = .ok (.getfield 164, 3)) (kk : K p l e s m args below meth c R RX5 cc nL rt G A Q k n (Hd G A (mw mo ad sl fi ai al)) (pc + 3) lv (.int (fi 27) :: st)) : K p l e s m args below meth c R RX5 cc nL rt G A Q k n (Hd G A (mw mo ad sl fi ai al)) pc lv (.ref mo :: st) := g_X5_164 hd (mw_mo hst) rfl kk
theorem mp_164 (hst : MSt mo ad sl) {x : Int32} (hd : decode cc pc = .ok (.putfield 164, 3)) (hn : narrow (tyX5 27) (.int x) = .int x) (hf : fits (tyX5 27) (.int x) = true) (kk : K p l e s m args below meth c R RX5 cc nL rt G A Q k n (Hd G A (mw mo ad sl (va_up fi 27 x) ai al)) (pc + 3) lv st) : K p l e s m args below meth c R RX5 cc nL rt G A Q k n (Hd G A (mw mo ad sl fi ai al)) pc lv (.int x :: .ref mo :: st) := by
  refine p_X5_164 hd (mw_mo hst) hn hf (Nat.le_of_ble_eq_true rfl) ?_
  have h : us (mw mo ad sl fi ai al) mo (.inr (5, (m_fs ad fi).set 27 (.int x))) = mw mo ad sl (va_up fi 27 x) ai al := by
    funext a
    by_cases ha : a = mo
    · subst ha
      rw [us_same, mw_mo hst]
      rfl
    · rw [us_ne _ _ ha]
      unfold mw
      rw [if_neg ha, if_neg ha]
  rw [h]
  exact kk
theorem mg_167 (hst : MSt mo ad sl) (hd : decode cc pc = .ok (.getfield 167, 3)) (kk : K p l e s m args below meth c R RX5 cc nL rt G A Q k n (Hd G A (mw mo ad sl fi ai al)) (pc + 3) lv (.int (fi 28) :: st)) : K p l e s m args below meth c R RX5 cc nL rt G A Q k n (Hd G A (mw mo ad sl fi ai al)) pc lv (.ref mo :: st) := g_X5_167 hd (mw_mo hst) rfl kk
theorem mp_167 (hst : MSt mo ad sl) {x : Int32} (hd : decode cc pc = .ok (.putfield 167, 3)) (hn : narrow (tyX5 28) (.int x) = .int x) (hf : fits (tyX5 28) (.int x) = true) (kk : K p l e s m args below meth c R RX5 cc nL rt G A Q k n (Hd G A (mw mo ad sl (va_up fi 28 x) ai al)) (pc + 3) lv st) : K p l e s m args below meth c R RX5 cc nL rt G A Q k n (Hd G A (mw mo ad sl fi ai al)) pc lv (.int x :: .ref mo :: st) := by
  refine p_X5_167 hd (mw_mo hst) hn hf (Nat.le_of_ble_eq_true rfl) ?_
  have h : us (mw mo ad sl fi ai al) mo (.inr (5, (m_fs ad fi).set 28 (.int x))) = mw mo ad sl (va_up fi 28 x) ai al := by
    funext a
    by_cases ha : a = mo
    · subst ha
      rw [us_same, mw_mo hst]
      rfl
    · rw [us_ne _ _ ha]
      unfold mw
      rw [if_neg ha, if_neg ha]
  rw [h]
  exact kk
theorem m_iald (hst : MSt mo ad sl) {q j : Nat} (hq : mtp q = 1) (hd : decode cc pc = .ok (.iaload, 1)) {i : Int32} (hi : i = nI j) (hj : j < mln q) (hN : mln q < 2 ^ 31) (kk : K p l e s m args below meth c R RX5 cc nL rt G A Q k n (Hd G A (mw mo ad sl fi ai al)) (pc + 1) lv (.int (ai q j) :: st)) : K p l e s m args below meth c R RX5 cc nL rt G A Q k n (Hd G A (mw mo ad sl fi ai al)) pc lv (.int i :: .ref (ad q) :: st) := k_iald (g := ai q) hd ((mw_ad hst (by rw [hq]; decide)).trans (by unfold mcell; rw [hq]; rfl)) hi hj hN kk
theorem m_lald (hst : MSt mo ad sl) {q j : Nat} (hq : mtp q = 2) (hd : decode cc pc = .ok (.laload, 1)) {i : Int32} (hi : i = nI j) (hj : j < mln q) (hN : mln q < 2 ^ 31) (kk : K p l e s m args below meth c R RX5 cc nL rt G A Q k n (Hd G A (mw mo ad sl fi ai al)) (pc + 1) lv (.long (al q j) :: st)) : K p l e s m args below meth c R RX5 cc nL rt G A Q k n (Hd G A (mw mo ad sl fi ai al)) pc lv (.int i :: .ref (ad q) :: st) := k_lald (g := al q) hd ((mw_ad hst (by rw [hq]; decide)).trans (by unfold mcell; rw [hq]; rfl)) hi hj hN kk
theorem m_zald (hst : MSt mo ad sl) {q j : Nat} (hq : mtp q = 3) (hd : decode cc pc = .ok (.baload, 1)) {i : Int32} (hi : i = nI j) (hj : j < mln q) (hN : mln q < 2 ^ 31) (kk : K p l e s m args below meth c R RX5 cc nL rt G A Q k n (Hd G A (mw mo ad sl fi ai al)) (pc + 1) lv (.int (ai q j) :: st)) : K p l e s m args below meth c R RX5 cc nL rt G A Q k n (Hd G A (mw mo ad sl fi ai al)) pc lv (.int i :: .ref (ad q) :: st) := k_zald (g := ai q) hd ((mw_ad hst (by rw [hq]; decide)).trans (by unfold mcell; rw [hq]; rfl)) hi hj hN kk
theorem m_iast (hst : MSt mo ad sl) {q j : Nat} {x : Int32} (hq : mtp q = 1) (hd : decode cc pc = .ok (.iastore, 1)) {i : Int32} (hi : i = nI j) (hj : j < mln q) (hN : mln q < 2 ^ 31) (kk : K p l e s m args below meth c R RX5 cc nL rt G A Q k n (Hd G A (mw mo ad sl fi (up2 ai q j x) al)) (pc + 1) lv st) : K p l e s m args below meth c R RX5 cc nL rt G A Q k n (Hd G A (mw mo ad sl fi ai al)) pc lv (.int x :: .int i :: .ref (ad q) :: st) := by
  refine k_iast (g := ai q) hd ((mw_ad hst (by rw [hq]; decide)).trans (by unfold mcell; rw [hq]; rfl)) hi hj hN ?_
  rw [mw_up hst (by rw [hq]; decide) (ai' := (up2 ai q j x)) (al' := al) (by unfold mcell; rw [hq]; unfold up2; rw [va_up_self]; rfl) (fun z hz => by unfold mcell up2; rw [va_up_ne _ _ hz])]
  exact kk
theorem m_last (hst : MSt mo ad sl) {q j : Nat} {x : Int64} (hq : mtp q = 2) (hd : decode cc pc = .ok (.lastore, 1)) {i : Int32} (hi : i = nI j) (hj : j < mln q) (hN : mln q < 2 ^ 31) (kk : K p l e s m args below meth c R RX5 cc nL rt G A Q k n (Hd G A (mw mo ad sl fi ai (up2 al q j x))) (pc + 1) lv st) : K p l e s m args below meth c R RX5 cc nL rt G A Q k n (Hd G A (mw mo ad sl fi ai al)) pc lv (.long x :: .int i :: .ref (ad q) :: st) := by
  refine k_last (g := al q) hd ((mw_ad hst (by rw [hq]; decide)).trans (by unfold mcell; rw [hq]; rfl)) hi hj hN ?_
  rw [mw_up hst (by rw [hq]; decide) (al' := (up2 al q j x)) (ai' := ai) (by unfold mcell; rw [hq]; unfold up2; rw [va_up_self]; rfl) (fun z hz => by unfold mcell up2; rw [va_up_ne _ _ hz])]
  exact kk
theorem m_zast (hst : MSt mo ad sl) {q j : Nat} {x : Int32} (hq : mtp q = 3) (hd : decode cc pc = .ok (.bastore, 1)) {i : Int32} (hi : i = nI j) (hj : j < mln q) (hN : mln q < 2 ^ 31) (hx : narrow .boolean (.int x) = .int x) (kk : K p l e s m args below meth c R RX5 cc nL rt G A Q k n (Hd G A (mw mo ad sl fi (up2 ai q j x) al)) (pc + 1) lv st) : K p l e s m args below meth c R RX5 cc nL rt G A Q k n (Hd G A (mw mo ad sl fi ai al)) pc lv (.int x :: .int i :: .ref (ad q) :: st) := by
  refine k_zast (g := ai q) hd ((mw_ad hst (by rw [hq]; decide)).trans (by unfold mcell; rw [hq]; rfl)) hi hj hN hx ?_
  rw [mw_up hst (by rw [hq]; decide) (ai' := (up2 ai q j x)) (al' := al) (by unfold mcell; rw [hq]; unfold up2; rw [va_up_self]; rfl) (fun z hz => by unfold mcell up2; rw [va_up_ne _ _ hz])]
  exact kk
end MROWS
end
section
/-! numbers that both sides compute -/
def ush (x : Int64) (y : Int32) : Int64 := (x.toUInt64 >>> (y.toInt64.toUInt64 &&& Int64.toUInt64 63)).toInt64
def mixA (x : Int64) : Int64 := x ^^^ ush x 32
def mixI (x : Int64) : Int64 := mixA (mixA (mixA x * (-2960836687051489901)) * (-2960836687051489901))
def unmixI (x : Int64) : Int64 := mixA (mixA (mixA x * (-3463755963560253285)) * (-3463755963560253285))
def setI (x : Int64) : Int32 := (mixI x &&& 63).toInt32
def bitM (m : Int64) : Int64 := (1 : Int64) <<< ((ush m 6 &&& 63).toInt32.toInt64 &&& 63) ||| (1 : Int64) <<< ((ush m 12 &&& 63).toInt32.toInt64 &&& 63)
def bitI (x : Int64) : Int64 := bitM (mixI x)
def setN (x : Int64) : Nat := (mixI x).toBitVec.toNat % 64
theorem setM_eq (x : Int64) : (x &&& 63).toInt32 = nI (x.toBitVec.toNat % 64) := by
  have h : (x &&& 63).toBitVec.toNat = x.toBitVec.toNat % 64 := by
    rw [Int64.toBitVec_and, BitVec.toNat_and]
    exact Nat.and_two_pow_sub_one_eq_mod _ 6
  have e : x &&& 63 = lN (x.toBitVec.toNat % 64) := by
    apply Int64.toBitVec_inj.mp
    apply BitVec.eq_of_toNat_eq
    rw [h]
    show _ = (BitVec.ofNat 64 _).toNat
    rw [BitVec.toNat_ofNat, Nat.mod_eq_of_lt (b := 2 ^ 64)]
    have := Nat.mod_lt x.toBitVec.toNat (show 64 > 0 by decide)
    omega
  rw [e, lN_i]
theorem setI_eq (x : Int64) : setI x = nI (setN x) := setM_eq (mixI x)
theorem setN_lt (x : Int64) : setN x < 64 := Nat.mod_lt _ (by decide)
theorem cmp_ne {x y : Int64} (h : ¬ lg_cmp x y = 0) : x ≠ y := fun e => h ((lg_cmp_eq x y).mpr e)
theorem cmp_eq {x y : Int64} (h : lg_cmp x y = 0) : x = y := (lg_cmp_eq x y).mp h
def bI (b : Bool) : Int32 := if b then 1 else 0
section REFA
variable {G : Gd} {A : Nat → Prop} {mo : Nat} {ad sl : Nat → Nat} {fi : Nat → Int32} {ai : Nat → Nat → Int32} {al : Nat → Nat → Int64}
abbrev MH (G : Gd) (A : Nat → Prop) (mo : Nat) (ad sl : Nat → Nat) (fi : Nat → Int32) (ai : Nat → Nat → Int32) (al : Nat → Nat → Int64) : Heap → Prop := Hd G A (mw mo ad sl fi ai al)
set_option maxRecDepth 4000 in
theorem c_mix (hst : MSt mo ad sl) (key : Int64) : Ct 0 0 0 yX5_mix cX5_mix 5 (some .long) G A [.ref mo, .long key] (MH G A mo ad sl fi ai al) (some (.long (mixI key))) (MH G A mo ad sl fi ai al) := by
  refine Ct.of 2 rfl rfl (Nat.le_of_ble_eq_true rfl) ?_
  intro p l e s m below meth c hini
  refine k_lload_n (pc := 0) dX5_mix_0 rfl ?_
  refine k_lstore_n (pc := 1) dX5_mix_1 (by decide) rfl ?_
  refine k_lload_n (pc := 2) dX5_mix_2 rfl ?_
  refine k_lload_n (pc := 3) dX5_mix_3 rfl ?_
  refine k_bipush (v := 32) (pc := 4) dX5_mix_4 (by decide) ?_
  refine k_lushr (pc := 6) dX5_mix_6 ?_
  refine k_lxor (pc := 7) dX5_mix_7 ?_
  refine k_lstore_n (pc := 8) dX5_mix_8 (by decide) rfl ?_
  refine k_lload_n (pc := 9) dX5_mix_9 rfl ?_
  refine k_ldc2 gw_544 (pc := 10) dX5_mix_10 ?_
  refine k_lmul (pc := 13) dX5_mix_13 ?_
  refine k_lstore_n (pc := 14) dX5_mix_14 (by decide) rfl ?_
  refine k_lload_n (pc := 15) dX5_mix_15 rfl ?_
  refine k_lload_n (pc := 16) dX5_mix_16 rfl ?_
  refine k_bipush (v := 32) (pc := 17) dX5_mix_17 (by decide) ?_
  refine k_lushr (pc := 19) dX5_mix_19 ?_
  refine k_lxor (pc := 20) dX5_mix_20 ?_
  refine k_lstore_n (pc := 21) dX5_mix_21 (by decide) rfl ?_
  refine k_lload_n (pc := 22) dX5_mix_22 rfl ?_
  refine k_ldc2 gw_544 (pc := 23) dX5_mix_23 ?_
  refine k_lmul (pc := 26) dX5_mix_26 ?_
  refine k_lstore_n (pc := 27) dX5_mix_27 (by decide) rfl ?_
  refine k_lload_n (pc := 28) dX5_mix_28 rfl ?_
  refine k_lload_n (pc := 29) dX5_mix_29 rfl ?_
  refine k_bipush (v := 32) (pc := 30) dX5_mix_30 (by decide) ?_
  refine k_lushr (pc := 32) dX5_mix_32 ?_
  refine k_lxor (pc := 33) dX5_mix_33 ?_
  refine k_lstore_n (pc := 34) dX5_mix_34 (by decide) rfl ?_
  refine k_lload_n (pc := 35) dX5_mix_35 rfl ?_
  exact k_lret (pc := 36) dX5_mix_36 rfl (fun _ h => h) (Nat.le_refl _) (Nat.le_refl _)
def unR : Nat → Int64
  | 0 => -2960836687051489901
  | k + 1 => unR k * (2 - (-2960836687051489901) * unR k)
theorem unR_6 : unR 6 = -3463755963560253285 := by decide +kernel
set_option maxRecDepth 4000 in
theorem c_unmix (hst : MSt mo ad sl) (key : Int64) : Ct 0 0 0 yX5_unmix cX5_unmix 7 (some .long) G A [.ref mo, .long key] (MH G A mo ad sl fi ai al) (some (.long (unmixI key))) (MH G A mo ad sl fi ai al) := by
  refine Ct.of 4 rfl rfl (Nat.le_of_ble_eq_true rfl) ?_
  intro p l e s m below meth c hini
  have loop : ∀ j i : Nat, i + j = 6 → K p l e s m ([.ref mo, .long key] : List Value).toArray below meth c (rmm 0 0 0) yX5_unmix.cls cX5_unmix 7 (some .long) G A (MQ below (Qd (some (.long (unmixI key))) (MH G A mo ad sl fi ai al) A) ([.ref mo, .long key] : List Value).toArray s 0 0 A) 0 0 (MH G A mo ad sl fi ai al) 7 [some (.ref mo), some (.long key), none, some (.long (unR i)), none, some (.int (nI i)), none] [] := by
    intro j
    induction j with
    | zero =>
      intro i hi
      have hi6 : i = 6 := by omega
      subst hi6
      rw [unR_6]
      refine k_iload (pc := 7) dX5_unmix_7 rfl ?_
      refine k_bipush (v := 6) (pc := 9) dX5_unmix_9 (by decide) ?_
      refine k_icmp_ge (tgt := 32) (pc := 11) dX5_unmix_11 (by decide) (fun _ => ?_) (fun c => absurd (by decide) c)
      refine k_lv (lv2 := [some (.ref mo), some (.long key), none, some (.long (-3463755963560253285)), none, none, none]) (fun i v h => by match i, h with | 0, h => exact h | 1, h => exact h | 3, h => exact h | 2, h => cases h | 4, h => cases h | 5, h => cases h | 6, h => cases h | i + 7, h => cases h) ?_
      refine k_lload_n (pc := 32) dX5_unmix_32 rfl ?_
      refine k_lstore (pc := 33) dX5_unmix_33 (by decide) rfl ?_
      refine k_lload (pc := 35) dX5_unmix_35 rfl ?_
      refine k_lload (pc := 37) dX5_unmix_37 rfl ?_
      refine k_bipush (v := 32) (pc := 39) dX5_unmix_39 (by decide) ?_
      refine k_lushr (pc := 41) dX5_unmix_41 ?_
      refine k_lxor (pc := 42) dX5_unmix_42 ?_
      refine k_lstore (pc := 43) dX5_unmix_43 (by decide) rfl ?_
      refine k_lload (pc := 45) dX5_unmix_45 rfl ?_
      refine k_lload_n (pc := 47) dX5_unmix_47 rfl ?_
      refine k_lmul (pc := 48) dX5_unmix_48 ?_
      refine k_lstore (pc := 49) dX5_unmix_49 (by decide) rfl ?_
      refine k_lload (pc := 51) dX5_unmix_51 rfl ?_
      refine k_lload (pc := 53) dX5_unmix_53 rfl ?_
      refine k_bipush (v := 32) (pc := 55) dX5_unmix_55 (by decide) ?_
      refine k_lushr (pc := 57) dX5_unmix_57 ?_
      refine k_lxor (pc := 58) dX5_unmix_58 ?_
      refine k_lstore (pc := 59) dX5_unmix_59 (by decide) rfl ?_
      refine k_lload (pc := 61) dX5_unmix_61 rfl ?_
      refine k_lload_n (pc := 63) dX5_unmix_63 rfl ?_
      refine k_lmul (pc := 64) dX5_unmix_64 ?_
      refine k_lstore (pc := 65) dX5_unmix_65 (by decide) rfl ?_
      refine k_lload (pc := 67) dX5_unmix_67 rfl ?_
      refine k_lload (pc := 69) dX5_unmix_69 rfl ?_
      refine k_bipush (v := 32) (pc := 71) dX5_unmix_71 (by decide) ?_
      refine k_lushr (pc := 73) dX5_unmix_73 ?_
      refine k_lxor (pc := 74) dX5_unmix_74 ?_
      refine k_lstore (pc := 75) dX5_unmix_75 (by decide) rfl ?_
      refine k_lload (pc := 77) dX5_unmix_77 rfl ?_
      exact k_lret (pc := 79) dX5_unmix_79 rfl (fun _ h => h) (Nat.le_refl _) (Nat.le_refl _)
    | succ j ih =>
      intro i hi
      refine k_iload (pc := 7) dX5_unmix_7 rfl ?_
      refine k_bipush (v := 6) (pc := 9) dX5_unmix_9 (by decide) ?_
      refine k_icmp_ge (tgt := 32) (pc := 11) dX5_unmix_11 (by decide) (fun c => absurd c (nI_ge (a := i) (b := 6) (by omega) (by decide))) (fun _ => ?_)
      refine k_lload_n (pc := 14) dX5_unmix_14 rfl ?_
      refine k_ldc2 gw_549 (pc := 15) dX5_unmix_15 ?_
      refine k_ldc2 gw_544 (pc := 18) dX5_unmix_18 ?_
      refine k_lload_n (pc := 21) dX5_unmix_21 rfl ?_
      refine k_lmul (pc := 22) dX5_unmix_22 ?_
      refine k_lsub (pc := 23) dX5_unmix_23 ?_
      refine k_lmul (pc := 24) dX5_unmix_24 ?_
      refine k_lstore_n (pc := 25) dX5_unmix_25 (by decide) rfl ?_
      refine k_iinc (pc := 26) dX5_unmix_26 rfl (nI_inc _) (by decide) rfl ?_
      refine k_goto (tgt := 7) (pc := 29) dX5_unmix_29 (by decide) ?_
      exact ih (i + 1) (by omega)
  refine k_ldc2 gw_544 (pc := 0) dX5_unmix_0 ?_
  refine k_lstore_n (pc := 3) dX5_unmix_3 (by decide) rfl ?_
  refine k_iconst (v := 0) (pc := 4) dX5_unmix_4 (by decide) ?_
  refine k_istore (pc := 5) dX5_unmix_5 (by decide) rfl ?_
  exact loop 6 0 rfl
set_option maxRecDepth 4000 in
theorem c_setOf (hst : MSt mo ad sl) (key : Int64) : Ct 1 0 0 yX5_setOf cX5_setOf 3 (some .int) G A [.ref mo, .long key] (MH G A mo ad sl fi ai al) (some (.int (nI (setN key)))) (MH G A mo ad sl fi ai al) := by
  refine Ct.of 0 rfl rfl (Nat.le_of_ble_eq_true rfl) ?_
  intro p l e s m below meth c hini
  refine k_aload_n (pc := 0) dX5_setOf_0 rfl ?_
  refine k_lload_n (pc := 1) dX5_setOf_1 rfl ?_
  refine k_callV sv_X5_79 (c_mix hst key) (pc := 2) dX5_setOf_2 rfl (mw_mo hst) rfl rfl (Nat.le_of_ble_eq_true rfl) (by decide) (by decide) (Nat.le_refl _) (Nat.le_refl _) ?_
  refine k_ldc2 gw_555 (pc := 5) dX5_setOf_5 ?_
  refine k_land (pc := 8) dX5_setOf_8 ?_
  refine k_l2i (pc := 9) dX5_setOf_9 ?_
  exact k_iret (pc := 10) dX5_setOf_10 (setI_eq key) (fun _ h => h) (Nat.le_refl _) (Nat.le_refl _)
set_option maxRecDepth 4000 in
theorem c_bitsOf (hst : MSt mo ad sl) (key : Int64) : Ct 1 0 0 yX5_bitsOf cX5_bitsOf 5 (some .long) G A [.ref mo, .long key] (MH G A mo ad sl fi ai al) (some (.long (bitI key))) (MH G A mo ad sl fi ai al) := by
  refine Ct.of 2 rfl rfl (Nat.le_of_ble_eq_true rfl) ?_
  intro p l e s m below meth c hini
  refine k_aload_n (pc := 0) dX5_bitsOf_0 rfl ?_
  refine k_lload_n (pc := 1) dX5_bitsOf_1 rfl ?_
  refine k_callV sv_X5_79 (c_mix hst key) (pc := 2) dX5_bitsOf_2 rfl (mw_mo hst) rfl rfl (Nat.le_of_ble_eq_true rfl) (by decide) (by decide) (Nat.le_refl _) (Nat.le_refl _) ?_
  refine k_lstore_n (pc := 5) dX5_bitsOf_5 (by decide) rfl ?_
  refine k_lconst (v := 1) (pc := 6) dX5_bitsOf_6 (by decide) ?_
  refine k_lload_n (pc := 7) dX5_bitsOf_7 rfl ?_
  refine k_bipush (v := 6) (pc := 8) dX5_bitsOf_8 (by decide) ?_
  refine k_lushr (pc := 10) dX5_bitsOf_10 ?_
  refine k_ldc2 gw_555 (pc := 11) dX5_bitsOf_11 ?_
  refine k_land (pc := 14) dX5_bitsOf_14 ?_
  refine k_l2i (pc := 15) dX5_bitsOf_15 ?_
  refine k_lshl (pc := 16) dX5_bitsOf_16 ?_
  refine k_lconst (v := 1) (pc := 17) dX5_bitsOf_17 (by decide) ?_
  refine k_lload_n (pc := 18) dX5_bitsOf_18 rfl ?_
  refine k_bipush (v := 12) (pc := 19) dX5_bitsOf_19 (by decide) ?_
  refine k_lushr (pc := 21) dX5_bitsOf_21 ?_
  refine k_ldc2 gw_555 (pc := 22) dX5_bitsOf_22 ?_
  refine k_land (pc := 25) dX5_bitsOf_25 ?_
  refine k_l2i (pc := 26) dX5_bitsOf_26 ?_
  refine k_lshl (pc := 27) dX5_bitsOf_27 ?_
  refine k_lor (pc := 28) dX5_bitsOf_28 ?_
  exact k_lret (pc := 29) dX5_bitsOf_29 rfl (fun _ h => h) (Nat.le_refl _) (Nat.le_refl _)
def filR (al : Nat → Nat → Int64) (s : Nat) : Nat → Int64
  | 0 => 0
  | k + 1 => filR al s k ||| bitI (al 11 (8 * s + k))
theorem nI_8 (s k : Nat) : 8 * nI s + nI k = nI (8 * s + k) := by
  rw [show (8 : Int32) = nI 8 from rfl, pk_mul, nI_add]
set_option maxRecDepth 4000 in
theorem c_filterOf (hst : MSt mo ad sl) (s0 n0 : Nat) (hs : s0 < 64) (hn : ai 16 s0 = nI n0) (hn8 : n0 ≤ 8) : Ct 2 0 0 yX5_filterOf cX5_filterOf 5 (some .long) G A [.ref mo, .int (nI s0)] (MH G A mo ad sl fi ai al) (some (.long (filR al s0 n0))) (MH G A mo ad sl fi ai al) := by
  refine Ct.of 3 rfl rfl (Nat.le_of_ble_eq_true rfl) ?_
  intro p l e s m below meth c hini
  have loop : ∀ j i : Nat, i + j = n0 → K p l e s m ([.ref mo, .int (nI s0)] : List Value).toArray below meth c (rmm 2 0 0) yX5_filterOf.cls cX5_filterOf 5 (some .long) G A (MQ below (Qd (some (.long (filR al s0 n0))) (MH G A mo ad sl fi ai al) A) ([.ref mo, .int (nI s0)] : List Value).toArray s 0 0 A) 0 0 (MH G A mo ad sl fi ai al) 5 [some (.ref mo), some (.int (nI s0)), some (.long (filR al s0 i)), none, some (.int (nI i))] [] := by
    intro j
    induction j with
    | zero =>
      intro i hi
      have hi6 : i = n0 := by omega
      subst hi6
      refine k_iload (pc := 5) dX5_filterOf_5 rfl ?_
      refine k_aload_n (pc := 7) dX5_filterOf_7 rfl ?_
      refine mg_51 hst (pc := 8) dX5_filterOf_8 ?_
      refine k_iload_n (pc := 11) dX5_filterOf_11 rfl ?_
      refine m_iald hst rfl (pc := 12) dX5_filterOf_12 rfl (by simpa [mln] using hs) (by decide) ?_
      rw [hn]
      refine k_icmp_ge (tgt := 41) (pc := 13) dX5_filterOf_13 (by decide) (fun _ => ?_) (fun c => absurd (nI_le (Nat.le_refl _) (by omega)) c)
      refine k_lload_n (pc := 41) dX5_filterOf_41 rfl ?_
      exact k_lret (pc := 42) dX5_filterOf_42 rfl (fun _ h => h) (Nat.le_refl _) (Nat.le_refl _)
    | succ j ih =>
      intro i hi
      refine k_iload (pc := 5) dX5_filterOf_5 rfl ?_
      refine k_aload_n (pc := 7) dX5_filterOf_7 rfl ?_
      refine mg_51 hst (pc := 8) dX5_filterOf_8 ?_
      refine k_iload_n (pc := 11) dX5_filterOf_11 rfl ?_
      refine m_iald hst rfl (pc := 12) dX5_filterOf_12 rfl (by simpa [mln] using hs) (by decide) ?_
      rw [hn]
      refine k_icmp_ge (tgt := 41) (pc := 13) dX5_filterOf_13 (by decide) (fun c => absurd c (nI_ge (by omega) (by omega))) (fun _ => ?_)
      refine k_lload_n (pc := 16) dX5_filterOf_16 rfl ?_
      refine k_aload_n (pc := 17) dX5_filterOf_17 rfl ?_
      refine k_aload_n (pc := 18) dX5_filterOf_18 rfl ?_
      refine mg_36 hst (pc := 19) dX5_filterOf_19 ?_
      refine k_bipush (v := 8) (pc := 22) dX5_filterOf_22 (by decide) ?_
      refine k_iload_n (pc := 24) dX5_filterOf_24 rfl ?_
      refine k_imul (pc := 25) dX5_filterOf_25 ?_
      refine k_iload (pc := 26) dX5_filterOf_26 rfl ?_
      refine k_iadd (pc := 28) dX5_filterOf_28 ?_
      refine m_lald hst rfl (pc := 29) dX5_filterOf_29 (nI_8 s0 i) (by simp only [mln]; omega) (by decide) ?_
      refine k_callV sv_X5_85 (c_bitsOf hst (al 11 (8 * s0 + i))) (pc := 30) dX5_filterOf_30 rfl (mw_mo hst) rfl rfl (Nat.le_of_ble_eq_true rfl) (by decide) (by decide) (Nat.le_refl _) (Nat.le_refl _) ?_
      refine k_lor (pc := 33) dX5_filterOf_33 ?_
      refine k_lstore_n (pc := 34) dX5_filterOf_34 (by decide) rfl ?_
      refine k_iinc (pc := 35) dX5_filterOf_35 rfl (nI_inc _) (by decide) rfl ?_
      refine k_goto (tgt := 5) (pc := 38) dX5_filterOf_38 (by decide) ?_
      exact ih (i + 1) (by omega)
  refine k_lconst (v := 0) (pc := 0) dX5_filterOf_0 (by decide) ?_
  refine k_lstore_n (pc := 1) dX5_filterOf_1 (by decide) rfl ?_
  refine k_iconst (v := 0) (pc := 2) dX5_filterOf_2 (by decide) ?_
  refine k_istore (pc := 3) dX5_filterOf_3 (by decide) rfl ?_
  exact loop n0 0 (by omega)
def mayR (al : Nat → Nat → Int64) (key : Int64) (n : Nat) : Bool := filR al (setN key) n &&& bitI key == bitI key
theorem bI_nar (b : Bool) : narrow .boolean (.int (bI b)) = .int (bI b) := by cases b <;> rfl
set_option maxRecDepth 4000 in
theorem c_mayHave (hst : MSt mo ad sl) (key : Int64) (n0 : Nat) (hn : ai 16 (setN key) = nI n0) (hn8 : n0 ≤ 8) : Ct 3 0 0 yX5_mayHave cX5_mayHave 5 (some .boolean) G A [.ref mo, .long key] (MH G A mo ad sl fi ai al) (some (.int (bI (mayR al key n0)))) (MH G A mo ad sl fi ai al) := by
  refine Ct.of 2 rfl rfl (Nat.le_of_ble_eq_true rfl) ?_
  intro p l e s m below meth c hini
  refine k_aload_n (pc := 0) dX5_mayHave_0 rfl ?_
  refine k_lload_n (pc := 1) dX5_mayHave_1 rfl ?_
  refine k_callV sv_X5_85 (c_bitsOf hst key) (pc := 2) dX5_mayHave_2 rfl (mw_mo hst) rfl rfl (Nat.le_of_ble_eq_true rfl) (by decide) (by decide) (Nat.le_refl _) (Nat.le_refl _) ?_
  refine k_lstore_n (pc := 5) dX5_mayHave_5 (by decide) rfl ?_
  refine k_aload_n (pc := 6) dX5_mayHave_6 rfl ?_
  refine k_aload_n (pc := 7) dX5_mayHave_7 rfl ?_
  refine k_lload_n (pc := 8) dX5_mayHave_8 rfl ?_
  refine k_callV sv_X5_88 (c_setOf hst key) (pc := 9) dX5_mayHave_9 rfl (mw_mo hst) rfl rfl (Nat.le_of_ble_eq_true rfl) (by decide) (by decide) (Nat.le_refl _) (Nat.le_refl _) ?_
  refine k_callV sv_X5_92 (c_filterOf hst (setN key) n0 (setN_lt key) hn hn8) (pc := 12) dX5_mayHave_12 rfl (mw_mo hst) rfl rfl (Nat.le_of_ble_eq_true rfl) (by decide) (by decide) (Nat.le_refl _) (Nat.le_refl _) ?_
  refine k_lload_n (pc := 15) dX5_mayHave_15 rfl ?_
  refine k_land (pc := 16) dX5_mayHave_16 ?_
  refine k_lload_n (pc := 17) dX5_mayHave_17 rfl ?_
  refine k_lcmp (pc := 18) dX5_mayHave_18 ?_
  refine k_if_ne (tgt := 26) (pc := 19) dX5_mayHave_19 (by decide) (fun hc => ?_) (fun hc => ?_)
  · refine k_iconst (v := 0) (pc := 26) dX5_mayHave_26 (by decide) ?_
    exact k_zret (pc := 27) dX5_mayHave_27 (by simp [mayR, cmp_ne hc, bI]) (bI_nar _) (fun _ h => h) (Nat.le_refl _) (Nat.le_refl _)
  · refine k_iconst (v := 1) (pc := 22) dX5_mayHave_22 (by decide) ?_
    refine k_goto (tgt := 27) (pc := 23) dX5_mayHave_23 (by decide) ?_
    exact k_zret (pc := 27) dX5_mayHave_27 (by simp [mayR, cmp_eq hc, bI]) (bI_nar _) (fun _ h => h) (Nat.le_refl _) (Nat.le_refl _)
def inLogR (ai : Nat → Nat → Int32) (al : Nat → Nat → Int64) (key : Int64) : Nat → Int32
  | 0 => -1
  | k + 1 => if ai 4 k ≠ 0 ∧ al 0 k = key then nI k else inLogR ai al key k
set_option maxRecDepth 4000 in
theorem c_inLog (hst : MSt mo ad sl) (key : Int64) (n0 : Nat) (hn : fi 7 = nI n0) (hn7 : n0 ≤ 700) : Ct 0 0 0 yX5_inLog cX5_inLog 5 (some .int) G A [.ref mo, .long key] (MH G A mo ad sl fi ai al) (some (.int (inLogR ai al key n0))) (MH G A mo ad sl fi ai al) := by
  refine Ct.of 2 rfl rfl (Nat.le_of_ble_eq_true rfl) ?_
  intro p l e s m below meth c hini
  have loop : ∀ j i : Nat, i + j = n0 → K p l e s m ([.ref mo, .long key] : List Value).toArray below meth c (rmm 0 0 0) yX5_inLog.cls cX5_inLog 5 (some .int) G A (MQ below (Qd (some (.int (inLogR ai al key n0))) (MH G A mo ad sl fi ai al) A) ([.ref mo, .long key] : List Value).toArray s 0 0 A) 0 0 (MH G A mo ad sl fi ai al) 5 [some (.ref mo), some (.long key), none, some (.int (inLogR ai al key i)), some (.int (nI i))] [] := by
    intro j
    induction j with
    | zero =>
      intro i hi
      have hi6 : i = n0 := by omega
      subst hi6
      refine k_iload (pc := 5) dX5_inLog_5 rfl ?_
      refine k_aload_n (pc := 7) dX5_inLog_7 rfl ?_
      refine mg_96 hst (pc := 8) dX5_inLog_8 ?_
      rw [hn]
      refine k_icmp_ge (tgt := 49) (pc := 11) dX5_inLog_11 (by decide) (fun _ => ?_) (fun c => absurd (nI_le (Nat.le_refl _) (by omega)) c)
      refine k_iload_n (pc := 49) dX5_inLog_49 rfl ?_
      exact k_iret (pc := 50) dX5_inLog_50 rfl (fun _ h => h) (Nat.le_refl _) (Nat.le_refl _)
    | succ j ih =>
      intro i hi
      have step := ih (i + 1) (by omega)
      refine k_iload (pc := 5) dX5_inLog_5 rfl ?_
      refine k_aload_n (pc := 7) dX5_inLog_7 rfl ?_
      refine mg_96 hst (pc := 8) dX5_inLog_8 ?_
      rw [hn]
      refine k_icmp_ge (tgt := 49) (pc := 11) dX5_inLog_11 (by decide) (fun c => absurd c (nI_ge (by omega) (by omega))) (fun _ => ?_)
      refine k_aload_n (pc := 14) dX5_inLog_14 rfl ?_
      refine mg_23 hst (pc := 15) dX5_inLog_15 ?_
      refine k_iload (pc := 18) dX5_inLog_18 rfl ?_
      refine m_zald hst rfl (pc := 20) dX5_inLog_20 rfl (by simp only [mln]; omega) (by decide) ?_
      refine k_if_eq (tgt := 41) (pc := 21) dX5_inLog_21 (by decide) (fun h1 => ?_) (fun h1 => ?_)
      · rw [show inLogR ai al key (i + 1) = inLogR ai al key i by simp [inLogR, h1]] at step
        refine k_iload_n (pc := 41) dX5_inLog_41 rfl ?_
        refine k_istore_n (pc := 42) dX5_inLog_42 (by decide) rfl ?_
        refine k_iinc (pc := 43) dX5_inLog_43 rfl (nI_inc _) (by decide) rfl ?_
        refine k_goto (tgt := 5) (pc := 46) dX5_inLog_46 (by decide) ?_
        exact step
      · refine k_aload_n (pc := 24) dX5_inLog_24 rfl ?_
        refine mg_7 hst (pc := 25) dX5_inLog_25 ?_
        refine k_iload (pc := 28) dX5_inLog_28 rfl ?_
        refine m_lald hst rfl (pc := 30) dX5_inLog_30 rfl (by simp only [mln]; omega) (by decide) ?_
        refine k_lload_n (pc := 31) dX5_inLog_31 rfl ?_
        refine k_lcmp (pc := 32) dX5_inLog_32 ?_
        refine k_if_ne (tgt := 41) (pc := 33) dX5_inLog_33 (by decide) (fun h2 => ?_) (fun h2 => ?_)
        · rw [show inLogR ai al key (i + 1) = inLogR ai al key i by simp [inLogR, cmp_ne h2]] at step
          refine k_iload_n (pc := 41) dX5_inLog_41 rfl ?_
          refine k_istore_n (pc := 42) dX5_inLog_42 (by decide) rfl ?_
          refine k_iinc (pc := 43) dX5_inLog_43 rfl (nI_inc _) (by decide) rfl ?_
          refine k_goto (tgt := 5) (pc := 46) dX5_inLog_46 (by decide) ?_
          exact step
        · rw [show inLogR ai al key (i + 1) = nI i by simp [inLogR, h1, cmp_eq h2]] at step
          refine k_iload (pc := 36) dX5_inLog_36 rfl ?_
          refine k_goto (tgt := 42) (pc := 38) dX5_inLog_38 (by decide) ?_
          refine k_istore_n (pc := 42) dX5_inLog_42 (by decide) rfl ?_
          refine k_iinc (pc := 43) dX5_inLog_43 rfl (nI_inc _) (by decide) rfl ?_
          refine k_goto (tgt := 5) (pc := 46) dX5_inLog_46 (by decide) ?_
          exact step
  refine k_iconst (v := -1) (pc := 0) dX5_inLog_0 (by decide) ?_
  refine k_istore_n (pc := 1) dX5_inLog_1 (by decide) rfl ?_
  refine k_iconst (v := 0) (pc := 2) dX5_inLog_2 (by decide) ?_
  refine k_istore (pc := 3) dX5_inLog_3 (by decide) rfl ?_
  exact loop n0 0 (by omega)
def inPageR (al : Nat → Nat → Int64) (key : Int64) (s n : Nat) : Nat → Int32
  | 0 => -1
  | j + 1 => if al 11 (8 * s + (n - (j + 1))) = key then nI (8 * s + (n - (j + 1))) else inPageR al key s n j
set_option maxRecDepth 4000 in
theorem c_inPage (hst : MSt mo ad sl) (key : Int64) (n0 : Nat) (hn : ai 16 (setN key) = nI n0) (hn8 : n0 ≤ 8) : Ct 2 0 0 yX5_inPage cX5_inPage 5 (some .int) G A [.ref mo, .long key] (MH G A mo ad sl fi ai al) (some (.int (inPageR al key (setN key) n0 n0))) (MH G A mo ad sl fi ai al) := by
  refine Ct.of 2 rfl rfl (Nat.le_of_ble_eq_true rfl) ?_
  intro p l e s m below meth c hini
  have hs := setN_lt key
  have loop : ∀ j i : Nat, i + j = n0 → inPageR al key (setN key) n0 j = inPageR al key (setN key) n0 n0 → K p l e s m ([.ref mo, .long key] : List Value).toArray below meth c (rmm 2 0 0) yX5_inPage.cls cX5_inPage 5 (some .int) G A (MQ below (Qd (some (.int (inPageR al key (setN key) n0 n0))) (MH G A mo ad sl fi ai al) A) ([.ref mo, .long key] : List Value).toArray s 0 0 A) 0 0 (MH G A mo ad sl fi ai al) 9 [some (.ref mo), some (.long key), none, some (.int (nI (setN key))), some (.int (nI i))] [] := by
    intro j
    induction j with
    | zero =>
      intro i hi hr
      have hi6 : i = n0 := by omega
      subst hi6
      refine k_iload (pc := 9) dX5_inPage_9 rfl ?_
      refine k_aload_n (pc := 11) dX5_inPage_11 rfl ?_
      refine mg_51 hst (pc := 12) dX5_inPage_12 ?_
      refine k_iload_n (pc := 15) dX5_inPage_15 rfl ?_
      refine m_iald hst rfl (pc := 16) dX5_inPage_16 rfl hs (by decide) ?_
      rw [hn]
      refine k_icmp_ge (tgt := 51) (pc := 17) dX5_inPage_17 (by decide) (fun _ => ?_) (fun c => absurd (nI_le (Nat.le_refl _) (by omega)) c)
      refine k_iconst (v := -1) (pc := 51) dX5_inPage_51 (by decide) ?_
      exact k_iret (pc := 52) dX5_inPage_52 hr (fun _ h => h) (Nat.le_refl _) (Nat.le_refl _)
    | succ j ih =>
      intro i hi hr
      have hij : n0 - (j + 1) = i := by omega
      simp only [inPageR, hij] at hr
      refine k_iload (pc := 9) dX5_inPage_9 rfl ?_
      refine k_aload_n (pc := 11) dX5_inPage_11 rfl ?_
      refine mg_51 hst (pc := 12) dX5_inPage_12 ?_
      refine k_iload_n (pc := 15) dX5_inPage_15 rfl ?_
      refine m_iald hst rfl (pc := 16) dX5_inPage_16 rfl hs (by decide) ?_
      rw [hn]
      refine k_icmp_ge (tgt := 51) (pc := 17) dX5_inPage_17 (by decide) (fun c => absurd c (nI_ge (by omega) (by omega))) (fun _ => ?_)
      refine k_aload_n (pc := 20) dX5_inPage_20 rfl ?_
      refine mg_36 hst (pc := 21) dX5_inPage_21 ?_
      refine k_bipush (v := 8) (pc := 24) dX5_inPage_24 (by decide) ?_
      refine k_iload_n (pc := 26) dX5_inPage_26 rfl ?_
      refine k_imul (pc := 27) dX5_inPage_27 ?_
      refine k_iload (pc := 28) dX5_inPage_28 rfl ?_
      refine k_iadd (pc := 30) dX5_inPage_30 ?_
      refine m_lald hst rfl (pc := 31) dX5_inPage_31 (nI_8 (setN key) i) (by simp only [mln]; omega) (by decide) ?_
      refine k_lload_n (pc := 32) dX5_inPage_32 rfl ?_
      refine k_lcmp (pc := 33) dX5_inPage_33 ?_
      refine k_if_ne (tgt := 45) (pc := 34) dX5_inPage_34 (by decide) (fun h2 => ?_) (fun h2 => ?_)
      · rw [if_neg (cmp_ne h2)] at hr
        refine k_iinc (pc := 45) dX5_inPage_45 rfl (nI_inc _) (by decide) rfl ?_
        refine k_goto (tgt := 9) (pc := 48) dX5_inPage_48 (by decide) ?_
        exact ih (i + 1) (by omega) hr
      · rw [if_pos (cmp_eq h2)] at hr
        refine k_bipush (v := 8) (pc := 37) dX5_inPage_37 (by decide) ?_
        refine k_iload_n (pc := 39) dX5_inPage_39 rfl ?_
        refine k_imul (pc := 40) dX5_inPage_40 ?_
        refine k_iload (pc := 41) dX5_inPage_41 rfl ?_
        refine k_iadd (pc := 43) dX5_inPage_43 ?_
        exact k_iret (pc := 44) dX5_inPage_44 ((nI_8 (setN key) i).trans hr) (fun _ h => h) (Nat.le_refl _) (Nat.le_refl _)
  refine k_aload_n (pc := 0) dX5_inPage_0 rfl ?_
  refine k_lload_n (pc := 1) dX5_inPage_1 rfl ?_
  refine k_callV sv_X5_88 (c_setOf hst key) (pc := 2) dX5_inPage_2 rfl (mw_mo hst) rfl rfl (Nat.le_of_ble_eq_true rfl) (by decide) (by decide) (Nat.le_refl _) (Nat.le_refl _) ?_
  refine k_istore_n (pc := 5) dX5_inPage_5 (by decide) rfl ?_
  refine k_iconst (v := 0) (pc := 6) dX5_inPage_6 (by decide) ?_
  refine k_istore (pc := 7) dX5_inPage_7 (by decide) rfl ?_
  exact loop n0 0 (by omega) rfl
end REFA
end
section
/-! the specification: what both sides hold, as lists -/
abbrev Da : Type := Int64 × Nat × Int32 × Int32
abbrev En : Type := Da × Bool × Bool × Nat
abbrev Pe : Type := Da × Bool
abbrev Ne : Type := Da × Bool × Bool
/-- log, head, pages of the segments, places of the open page, set pages, counts, shut, what was got -/
abbrev SS : Type := List En × Nat × (Nat → Nat) × Nat × (Nat → List Pe) × (Nat → Int32) × Bool × (Int32 × Int32 × Int32)
abbrev sL (S : SS) : List En := S.1
abbrev sH (S : SS) : Nat := S.2.1
abbrev sN (S : SS) : Nat → Nat := S.2.2.1
abbrev sO (S : SS) : Nat := S.2.2.2.1
abbrev sP (S : SS) : Nat → List Pe := S.2.2.2.2.1
abbrev sC (S : SS) : Nat → Int32 := S.2.2.2.2.2.1
abbrev sX (S : SS) : Bool := S.2.2.2.2.2.2.1
abbrev sG (S : SS) : Int32 × Int32 × Int32 := S.2.2.2.2.2.2.2
def inc (c : Nat → Int32) (j : Nat) : Nat → Int32 := va_up c j (c j + 1)
def plc (d : Da) : Nat := 3 + d.2.1
/-- the open page is written as the next page of the head -/
def wr0 (S : SS) : SS := ((sL S).map (fun e => if e.2.2.2 = 32 then (e.1, e.2.1, e.2.2.1, 4 * sH S + sN S (sH S)) else e), sH S, va_up (sN S) (sH S) (sN S (sH S) + 1), 0, sP S, inc (sC S) 1, sX S, sG S)
def pushS (S : SS) (d : Da) : SS := (sL S ++ [(d, true, false, 32)], sH S, sN S, sO S + plc d, sP S, sC S, sX S, sG S)
def uL (S : SS) (l : List En) : SS := (l, S.2)
def uC (S : SS) (c : Nat → Int32) : SS := (sL S, sH S, sN S, sO S, sP S, c, sX S, sG S)
def uP (S : SS) (p : Nat → List Pe) : SS := (sL S, sH S, sN S, sO S, p, sC S, sX S, sG S)
def kill1 (e : En) : En := (e.1, false, e.2.2.1, e.2.2.2)
def killAt (l : List En) (k : Nat) : List En := l.modify k kill1
/-- the last that is alive under a key, among the first n -/
def lastIx (l : List En) (key : Int64) : Nat → Option Nat
  | 0 => none
  | k + 1 => match l[k]? with
    | some e => if e.2.1 = true ∧ e.1.1 = key then some k else lastIx l key k
    | none => lastIx l key k
def filS (p : List Pe) : Int64 := p.foldl (fun f e => f ||| bitI e.1.1) 0
def mayS (p : List Pe) (key : Int64) : Bool := filS p &&& bitI key == bitI key
def ixS (p : List Pe) (key : Int64) : Option Nat := p.findIdx? (fun e => e.1.1 == key)
def takeS (S : SS) (key : Int64) (what : Nat) : SS × Bool :=
  if mayS (sP S (setN key)) key = true then
    match ixS (sP S (setN key)) key with
    | none => (uC S (inc (sC S) 11), false)
    | some i => (uC (uP S (va_up (sP S) (setN key) ((sP S (setN key)).eraseIdx i))) (inc (inc (sC S) 11) what), true)
  else (S, false)
def inSet (s : Nat) (e : En) : Bool := e.2.1 && setN e.1.1 == s
def plN (l : List Ne) : Nat := (l.map (fun e => plc e.1)).sum
/-- one is dropped -/
def dropS (l : List Ne) (c : Nat → Int32) : List Ne × (Nat → Int32) :=
  match l.findIdx? (fun e => e.2.2 && !e.2.1) with
  | some i => (l.eraseIdx i, inc c 6)
  | none => match l.findIdx? (fun e => e.2.2) with
    | some i => (l.eraseIdx i, inc c 7)
    | none => (l.eraseIdx 0, inc c 8)
def dropAll : Nat → List Ne → (Nat → Int32) → List Ne × (Nat → Int32)
  | 0, l, c => (l, c)
  | n + 1, l, c => if plN l > 32 then dropAll n (dropS l c).1 (dropS l c).2 else (l, c)
def addN (c : Nat → Int32) (j n : Nat) : Nat → Int32 := va_up c j (c j + nI n)
def newsS (S : SS) (s : Nat) : List Ne := ((sP S s).filter (fun e => (lastIx (sL S) e.1.1 (sL S).length).isNone)).map (fun e => (e.1, e.2, true)) ++ ((sL S).filter (inSet s)).map (fun e => (e.1, e.2.2.1, false))
def moveS (S : SS) (s : Nat) : SS :=
  ((sL S).map (fun e => if inSet s e then kill1 e else e), sH S, sN S, sO S,
    va_up (sP S) s ((dropAll (newsS S s).length (newsS S s) (addN (inc (sC S) 11) 5 ((sL S).filter (inSet s)).length)).1.map (fun e => (e.1, false))),
    inc (dropAll (newsS S s).length (newsS S s) (addN (inc (sC S) 11) 5 ((sL S).filter (inSet s)).length)).2 2, sX S, sG S)
/-- put anew: never fills the head -/
def anewS (S : SS) (d : Da) : SS := if sO S + plc d > 32 then pushS (wr0 S) d else pushS S d
def handleS (S : SS) (k : Nat) : SS :=
  match (sL S)[k]? with
  | none => S
  | some e =>
    if ((sL S).filter (inSet (setN e.1.1))).length > 1 then moveS S (setN e.1.1)
    else if e.2.2.1 = true then anewS (uC (uL S (killAt (sL S) k)) (inc (sC S) 10)) e.1
    else (takeS (uC (uL S (killAt (sL S) k)) (inc (sC S) 9)) e.1.1 3).1
def isOut (e : En) : Bool := e.2.2.2 / 4 == 9
def forget (S : SS) : SS := uL S ((sL S).filter (fun e => !(isOut e && !e.2.1)))
def stepS (S : SS) (k : Nat) : SS := match (sL S)[k]? with
    | some e => if isOut e = true ∧ e.2.1 = true then handleS S k else S
    | none => S
def loopS : Nat → Nat → SS → SS
  | 0, _, S => S
  | n + 1, k, S => loopS n (k + 1) (stepS S k)
def outS (S : SS) (h : Nat) : SS := ((sL S).map (fun e => if e.2.2.2 / 4 = h then (e.1, e.2.1, e.2.2.1, 36 + e.2.2.2 % 4) else e), sH S, va_up (sN S) h 0, sO S, sP S, sC S, sX S, sG S)
def emptyS (S : SS) (h : Nat) : SS := forget (loopS (sL (forget (outS S h))).length 0 (forget (outS S h)))
def turnS (S : SS) : SS := (sL S, (sH S + 1) % 8, sN S, sO S, sP S, inc (sC S) 0, sX S, sG S)
def writeS (S : SS) : SS :=
  if sN (wr0 S) (sH S) = 4 then
    if sN (turnS (wr0 S)) (sH (turnS (wr0 S))) > 0 then emptyS (turnS (wr0 S)) (sH (turnS (wr0 S))) else turnS (wr0 S)
  else wr0 S
def appS : Nat → SS → Da → SS
  | 0, S, _ => S
  | n + 1, S, d => if sO S + plc d > 32 then appS n (writeS S) d else pushS S d
theorem wr0_L (S : SS) : sL (wr0 S) = (sL S).map (fun e => if e.2.2.2 = 32 then (e.1, e.2.1, e.2.2.1, 4 * sH S + sN S (sH S)) else e) := rfl
theorem wr0_H (S : SS) : sH (wr0 S) = sH S := rfl
theorem wr0_N (S : SS) : sN (wr0 S) = va_up (sN S) (sH S) (sN S (sH S) + 1) := rfl
theorem wr0_O (S : SS) : sO (wr0 S) = 0 := rfl
theorem wr0_P (S : SS) : sP (wr0 S) = sP S := rfl
theorem wr0_C (S : SS) : sC (wr0 S) = inc (sC S) 1 := rfl
theorem wr0_X (S : SS) : sX (wr0 S) = sX S := rfl
theorem wr0_G (S : SS) : sG (wr0 S) = sG S := rfl
theorem pushS_L (S : SS) (d : Da) : sL (pushS S d) = sL S ++ [(d, true, false, 32)] := rfl
theorem pushS_H (S : SS) (d : Da) : sH (pushS S d) = sH S := rfl
theorem pushS_N (S : SS) (d : Da) : sN (pushS S d) = sN S := rfl
theorem pushS_O (S : SS) (d : Da) : sO (pushS S d) = sO S + plc d := rfl
theorem pushS_P (S : SS) (d : Da) : sP (pushS S d) = sP S := rfl
theorem pushS_C (S : SS) (d : Da) : sC (pushS S d) = sC S := rfl
theorem pushS_X (S : SS) (d : Da) : sX (pushS S d) = sX S := rfl
theorem pushS_G (S : SS) (d : Da) : sG (pushS S d) = sG S := rfl
theorem uL_L (S : SS) (l : List En) : sL (uL S l) = l := rfl
theorem uL_H (S : SS) (l : List En) : sH (uL S l) = sH S := rfl
theorem uL_N (S : SS) (l : List En) : sN (uL S l) = sN S := rfl
theorem uL_O (S : SS) (l : List En) : sO (uL S l) = sO S := rfl
theorem uL_P (S : SS) (l : List En) : sP (uL S l) = sP S := rfl
theorem uL_C (S : SS) (l : List En) : sC (uL S l) = sC S := rfl
theorem uL_X (S : SS) (l : List En) : sX (uL S l) = sX S := rfl
theorem uL_G (S : SS) (l : List En) : sG (uL S l) = sG S := rfl
theorem uC_L (S : SS) (c : Nat → Int32) : sL (uC S c) = sL S := rfl
theorem uC_H (S : SS) (c : Nat → Int32) : sH (uC S c) = sH S := rfl
theorem uC_N (S : SS) (c : Nat → Int32) : sN (uC S c) = sN S := rfl
theorem uC_O (S : SS) (c : Nat → Int32) : sO (uC S c) = sO S := rfl
theorem uC_P (S : SS) (c : Nat → Int32) : sP (uC S c) = sP S := rfl
theorem uC_C (S : SS) (c : Nat → Int32) : sC (uC S c) = c := rfl
theorem uC_X (S : SS) (c : Nat → Int32) : sX (uC S c) = sX S := rfl
theorem uC_G (S : SS) (c : Nat → Int32) : sG (uC S c) = sG S := rfl
theorem uP_L (S : SS) (q : Nat → List Pe) : sL (uP S q) = sL S := rfl
theorem uP_H (S : SS) (q : Nat → List Pe) : sH (uP S q) = sH S := rfl
theorem uP_N (S : SS) (q : Nat → List Pe) : sN (uP S q) = sN S := rfl
theorem uP_O (S : SS) (q : Nat → List Pe) : sO (uP S q) = sO S := rfl
theorem uP_P (S : SS) (q : Nat → List Pe) : sP (uP S q) = q := rfl
theorem uP_C (S : SS) (q : Nat → List Pe) : sC (uP S q) = sC S := rfl
theorem uP_X (S : SS) (q : Nat → List Pe) : sX (uP S q) = sX S := rfl
theorem uP_G (S : SS) (q : Nat → List Pe) : sG (uP S q) = sG S := rfl
theorem forget_L (S : SS) : sL (forget S) = (sL S).filter (fun e => !(isOut e && !e.2.1)) := rfl
theorem forget_H (S : SS) : sH (forget S) = sH S := rfl
theorem forget_N (S : SS) : sN (forget S) = sN S := rfl
theorem forget_O (S : SS) : sO (forget S) = sO S := rfl
theorem forget_P (S : SS) : sP (forget S) = sP S := rfl
theorem forget_C (S : SS) : sC (forget S) = sC S := rfl
theorem forget_X (S : SS) : sX (forget S) = sX S := rfl
theorem forget_G (S : SS) : sG (forget S) = sG S := rfl
theorem outS_L (S : SS) (h : Nat) : sL (outS S h) = (sL S).map (fun e => if e.2.2.2 / 4 = h then (e.1, e.2.1, e.2.2.1, 36 + e.2.2.2 % 4) else e) := rfl
theorem outS_H (S : SS) (h : Nat) : sH (outS S h) = sH S := rfl
theorem outS_N (S : SS) (h : Nat) : sN (outS S h) = va_up (sN S) h 0 := rfl
theorem outS_O (S : SS) (h : Nat) : sO (outS S h) = sO S := rfl
theorem outS_P (S : SS) (h : Nat) : sP (outS S h) = sP S := rfl
theorem outS_C (S : SS) (h : Nat) : sC (outS S h) = sC S := rfl
theorem outS_X (S : SS) (h : Nat) : sX (outS S h) = sX S := rfl
theorem outS_G (S : SS) (h : Nat) : sG (outS S h) = sG S := rfl
theorem turnS_L (S : SS) : sL (turnS S) = sL S := rfl
theorem turnS_H (S : SS) : sH (turnS S) = (sH S + 1) % 8 := rfl
theorem turnS_N (S : SS) : sN (turnS S) = sN S := rfl
theorem turnS_O (S : SS) : sO (turnS S) = sO S := rfl
theorem turnS_P (S : SS) : sP (turnS S) = sP S := rfl
theorem turnS_C (S : SS) : sC (turnS S) = inc (sC S) 0 := rfl
theorem turnS_X (S : SS) : sX (turnS S) = sX S := rfl
theorem turnS_G (S : SS) : sG (turnS S) = sG S := rfl
/-! how the reference's arrays show it -/
def ent (ai : Nat → Nat → Int32) (al : Nat → Nat → Int64) (k : Nat) : Int64 × Int32 × Int32 × Int32 × Int32 × Int32 × Int32 := (al 0 k, ai 1 k, ai 2 k, ai 3 k, ai 4 k, ai 5 k, ai 6 k)
def enc (e : En) : Int64 × Int32 × Int32 × Int32 × Int32 × Int32 × Int32 := (e.1.1, nI e.1.2.1, e.1.2.2.1, e.1.2.2.2, bI e.2.1, bI e.2.2.1, nI (e.2.2.2 / 4))
def pent (ai : Nat → Nat → Int32) (al : Nat → Nat → Int64) (k : Nat) : Int64 × Int32 × Int32 × Int32 × Int32 := (al 11 k, ai 12 k, ai 13 k, ai 14 k, ai 15 k)
def penc (e : Pe) : Int64 × Int32 × Int32 × Int32 × Int32 := (e.1.1, nI e.1.2.1, e.1.2.2.1, e.1.2.2.2, bI e.2)
def nent (ai : Nat → Nat → Int32) (al : Nat → Nat → Int64) (k : Nat) : Int64 × Int32 × Int32 × Int32 × Int32 × Int32 := (al 17 k, ai 18 k, ai 19 k, ai 20 k, ai 21 k, ai 22 k)
def nenc (e : Ne) : Int64 × Int32 × Int32 × Int32 × Int32 × Int32 := (e.1.1, nI e.1.2.1, e.1.2.2.1, e.1.2.2.2, bI e.2.1, bI e.2.2)
def RepL (l : List En) (fi : Nat → Int32) (ai : Nat → Nat → Int32) (al : Nat → Nat → Int64) : Prop := fi 7 = nI l.length ∧ l.length ≤ 700 ∧ ∀ k e, l[k]? = some e → ent ai al k = enc e
def RepN (nw : List Ne) (fi : Nat → Int32) (ai : Nat → Nat → Int32) (al : Nat → Nat → Int64) : Prop := fi 23 = nI nw.length ∧ nw.length ≤ 700 ∧ ∀ k e, nw[k]? = some e → nent ai al k = nenc e
def RepP (P : Nat → List Pe) (ai : Nat → Nat → Int32) (al : Nat → Nat → Int64) : Prop := ∀ s, s < 64 → ai 16 s = nI (P s).length ∧ (P s).length ≤ 8 ∧ ∀ k e, (P s)[k]? = some e → pent ai al (8 * s + k) = penc e
def RepR (S : SS) (fi : Nat → Int32) (ai : Nat → Nat → Int32) : Prop := fi 9 = nI (sH S) ∧ fi 10 = nI (sO S) ∧ (∀ j, j < 8 → ai 8 j = nI (sN S j)) ∧ (∀ j, j < 12 → ai 24 j = sC S j) ∧ fi 25 = bI (sX S) ∧ fi 26 = (sG S).1 ∧ fi 27 = (sG S).2.1 ∧ fi 28 = (sG S).2.2
def Rep (S : SS) (nw : List Ne) (fi : Nat → Int32) (ai : Nat → Nat → Int32) (al : Nat → Nat → Int64) : Prop := RepL (sL S) fi ai al ∧ RepN nw fi ai al ∧ RepP (sP S) ai al ∧ RepR S fi ai
def MPN (G : Gd) (A : Nat → Prop) (mo : Nat) (ad sl : Nat → Nat) (S : SS) (nw : List Ne) : Heap → Prop := fun H => ∃ μ : (Nat → Int32) × (Nat → Nat → Int32) × (Nat → Nat → Int64), Rep S nw μ.1 μ.2.1 μ.2.2 ∧ Hd G A (mw mo ad sl μ.1 μ.2.1 μ.2.2) H
def MPS (G : Gd) (A : Nat → Prop) (mo : Nat) (ad sl : Nat → Nat) (S : SS) : Heap → Prop := fun H => ∃ nw, MPN G A mo ad sl S nw H
section OPEN
variable {p : Program} {l : Launch} {e : Env} {s : State} {m : MethodId} {args : Array Value} {below : List Frame} {meth : Method} {c : Code} {R : Room} {own : String} {cc : ByteArray} {nL : Nat} {rt : Option FieldType} {G : Gd} {A : Nat → Prop} {Q : State → Prop} {k n : Nat} {pc : Nat} {lv : List (Option Value)} {st : List Value} {mo : Nat} {ad sl : Nat → Nat} {S : SS} {nw : List Ne}
theorem k_open (kk : ∀ fi ai al, Rep S nw fi ai al → K p l e s m args below meth c R own cc nL rt G A Q k n (MH G A mo ad sl fi ai al) pc lv st) : K p l e s m args below meth c R own cc nL rt G A Q k n (MPN G A mo ad sl S nw) pc lv st := fun F H locs ls hI hS hl => by
  obtain ⟨⟨fi, ai, al⟩, hr, hH⟩ := hI
  exact kk fi ai al hr F H locs ls hH hS hl
theorem k_openS (kk : ∀ nw, K p l e s m args below meth c R own cc nL rt G A Q k n (MPN G A mo ad sl S nw) pc lv st) : K p l e s m args below meth c R own cc nL rt G A Q k n (MPS G A mo ad sl S) pc lv st := fun F H locs ls hI hS hl => by
  obtain ⟨nw, hH⟩ := hI
  exact kk nw F H locs ls hH hS hl
theorem MPN.of {fi : Nat → Int32} {ai : Nat → Nat → Int32} {al : Nat → Nat → Int64} (h : Rep S nw fi ai al) : ∀ H, MH G A mo ad sl fi ai al H → MPN G A mo ad sl S nw H := fun H hH => ⟨(fi, ai, al), h, hH⟩
theorem MPS.of {fi : Nat → Int32} {ai : Nat → Nat → Int32} {al : Nat → Nat → Int64} (h : Rep S nw fi ai al) : ∀ H, MH G A mo ad sl fi ai al H → MPS G A mo ad sl S H := fun H hH => ⟨nw, (fi, ai, al), h, hH⟩
theorem k_close {fi : Nat → Int32} {ai : Nat → Nat → Int32} {al : Nat → Nat → Int64} (h : Rep S nw fi ai al) (kk : K p l e s m args below meth c R own cc nL rt G A Q k n (MPN G A mo ad sl S nw) pc lv st) : K p l e s m args below meth c R own cc nL rt G A Q k n (MH G A mo ad sl fi ai al) pc lv st := k_I (MPN.of h) kk
theorem MPN.recv {H : Heap} (h : MPN G A mo ad sl S nw H) (hst : MSt mo ad sl) (hK : KK G s) : ∃ cell : Cell, H[mo]? = some cell ∧ cell.vm.isStatics = false ∧ s.vm.findClass RX5 = some cell.cls := by
  obtain ⟨⟨fi, ai, al⟩, -, hH⟩ := h
  exact Hd.recv (r := (RX5, TX5, 29)) rfl (mw_mo hst) hH hK
end OPEN
end
section
section CTX
theorem Ct.cases {d mc ms : Nat} {y : MethodName} {cc : ByteArray} {nL : Nat} {rt : Option FieldType} {G : Gd} {A : Nat → Prop} {vs : List Value} {I : Heap → Prop} {v : Option Value} {J : Heap → Prop} {ι : Type} {P : ι → Prop} {Is : ι → Heap → Prop} (h : ∀ H, I H → ∃ i, P i ∧ Is i H) (hC : ∀ i, P i → Ct d mc ms y cc nL rt G A vs (Is i) v J) : Ct d mc ms y cc nL rt G A vs I v J := fun l p e ha hc hk s m args below hf happ hP hK => by
  obtain ⟨i, hp, hi⟩ := h _ hP.2.1
  exact hC i hp l p e ha hc hk s m args below hf happ ⟨hP.1, hi, hP.2.2⟩ hK
theorem Ct.post {d mc ms : Nat} {y : MethodName} {cc : ByteArray} {nL : Nat} {rt : Option FieldType} {G : Gd} {A : Nat → Prop} {vs : List Value} {I : Heap → Prop} {v v' : Option Value} {J J' : Heap → Prop} (hv : v = v') (h : ∀ H, J H → J' H) (hC : Ct d mc ms y cc nL rt G A vs I v J) : Ct d mc ms y cc nL rt G A vs I v' J' := fun l p e ha hc hk s m args below hf happ hP hK => by
  subst hv
  obtain ⟨n, o, h1, h2, h3, ⟨⟨⟨e1, e2⟩, e3⟩, e4⟩⟩ := hC l p e ha hc hk s m args below hf happ hP hK
  exact ⟨n, o, h1, h2, h3, ⟨⟨e1, h _ e2⟩, e3⟩, e4⟩
theorem Ct.pre {d mc ms : Nat} {y : MethodName} {cc : ByteArray} {nL : Nat} {rt : Option FieldType} {G : Gd} {A : Nat → Prop} {vs : List Value} {I I' : Heap → Prop} {v : Option Value} {J : Heap → Prop} (h : ∀ H, I' H → I H) (hC : Ct d mc ms y cc nL rt G A vs I v J) : Ct d mc ms y cc nL rt G A vs I' v J := fun l p e ha hc hk s m args below hf happ hP hK => hC l p e ha hc hk s m args below hf happ ⟨hP.1, h _ hP.2.1, hP.2.2⟩ hK
variable {d : Nat} {y : MethodName} {cc : ByteArray} {nL : Nat} {rt : Option FieldType} {G : Gd} {A : Nat → Prop} {vs : List Value} {v : Option Value} {J : Heap → Prop} {mo : Nat} {ad sl : Nat → Nat} {S : SS} {nw : List Ne}
theorem Ct.mpn (hC : ∀ fi ai al, Rep S nw fi ai al → Ct d 0 0 y cc nL rt G A vs (MH G A mo ad sl fi ai al) v J) : Ct d 0 0 y cc nL rt G A vs (MPN G A mo ad sl S nw) v J :=
  Ct.cases (ι := (Nat → Int32) × (Nat → Nat → Int32) × (Nat → Nat → Int64)) (P := fun μ => Rep S nw μ.1 μ.2.1 μ.2.2) (Is := fun μ => MH G A mo ad sl μ.1 μ.2.1 μ.2.2) (fun H hH => hH) (fun μ h => hC μ.1 μ.2.1 μ.2.2 h)
theorem Ct.mps (hC : ∀ nw, Ct d 0 0 y cc nL rt G A vs (MPN G A mo ad sl S nw) v J) : Ct d 0 0 y cc nL rt G A vs (MPS G A mo ad sl S) v J :=
  Ct.cases (ι := List Ne) (P := fun _ => True) (Is := fun nw => MPN G A mo ad sl S nw) (fun H ⟨nw, h⟩ => ⟨nw, trivial, h⟩) (fun nw _ => hC nw)
end CTX
section KCM
variable {p : Program} {l : Launch} {e : Env} {s : State} {m : MethodId} {args : Array Value} {below : List Frame} {meth : Method} {c : Code} {R : Room} {cc : ByteArray} {nL : Nat} {rt : Option FieldType} {G : Gd} {A : Nat → Prop} {Q : State → Prop} {k n d : Nat} {J : Heap → Prop} {pc : Nat} {lv : List (Option Value)} {rest : List Value} {y : MethodName} {bytes : ByteArray} {maxL ar index : Nat} {ret : Option FieldType} {As : List Value} {v : Option Value} {st0 : List Value} {mo : Nat} {ad sl : Nat → Nat} {S : SS} {nw : List Ne}
theorem k_callM (T : SiteV RX5 RX5 index y bytes maxL ret ar) (hst : MSt mo ad sl) (hC : Ct d 0 0 y bytes maxL ret G A (.ref mo :: As) (MPN G A mo ad sl S nw) v J) (hd : decode cc pc = .ok (.invokevirtual index, 3)) (hn : As.length = ar) (hs : st0 = As.reverse ++ .ref mo :: rest) (hrest : (rest.map fun v => v.category).sum ≤ 8) (hfr : d + 1 ≤ R.frames) (hlo : 8 + (maxL + 11) + 40 * d ≤ R.locals) (hce : k + 0 ≤ R.cells) (hsl : n + 0 ≤ R.slots)
    (kk : K p l e s m args below meth c R RX5 cc nL rt G A Q k n J (pc + 3) lv (v.toList ++ rest)) : K p l e s m args below meth c R RX5 cc nL rt G A Q k n (MPN G A mo ad sl S nw) pc lv st0 :=
  k_callV' T hC hd hn hs hrest hfr hlo hce hsl (fun H h hK => h.recv hst hK) (fun _ h => h) (fun _ h => h) (fun _ _ _ h _ _ => h) kk
theorem k_callMS (T : SiteV RX5 RX5 index y bytes maxL ret ar) (hst : MSt mo ad sl) (hC : Ct d 0 0 y bytes maxL ret G A (.ref mo :: As) (MPS G A mo ad sl S) v J) (hd : decode cc pc = .ok (.invokevirtual index, 3)) (hn : As.length = ar) (hs : st0 = As.reverse ++ .ref mo :: rest) (hrest : (rest.map fun v => v.category).sum ≤ 8) (hfr : d + 1 ≤ R.frames) (hlo : 8 + (maxL + 11) + 40 * d ≤ R.locals) (hce : k + 0 ≤ R.cells) (hsl : n + 0 ≤ R.slots)
    (kk : K p l e s m args below meth c R RX5 cc nL rt G A Q k n J (pc + 3) lv (v.toList ++ rest)) : K p l e s m args below meth c R RX5 cc nL rt G A Q k n (MPS G A mo ad sl S) pc lv st0 :=
  k_callV' T hC hd hn hs hrest hfr hlo hce hsl (fun H h hK => by obtain ⟨nw, h⟩ := h; exact h.recv hst hK) (fun _ h => h) (fun _ h => h) (fun _ _ _ h _ _ => h) kk
end KCM
/-! numbers off the arrays are numbers of the lists -/
def oI : Option Nat → Int32
  | none => -1
  | some k => nI k
theorem bI_ne (b : Bool) : bI b ≠ 0 ↔ b = true := by cases b <;> simp [bI]
theorem bI_t {b : Bool} (h : ¬ bI b = 0) : b = true := (bI_ne b).mp h
theorem bI_f {b : Bool} (h : bI b = 0) : b = false := by cases b with | true => exact absurd h (by decide) | false => rfl
theorem ent_k {ai : Nat → Nat → Int32} {al : Nat → Nat → Int64} {k : Nat} {e : En} (h : ent ai al k = enc e) : al 0 k = e.1.1 ∧ ai 1 k = nI e.1.2.1 ∧ ai 2 k = e.1.2.2.1 ∧ ai 3 k = e.1.2.2.2 ∧ ai 4 k = bI e.2.1 ∧ ai 5 k = bI e.2.2.1 ∧ ai 6 k = nI (e.2.2.2 / 4) := by
  simpa [ent, enc] using h
theorem pent_k {ai : Nat → Nat → Int32} {al : Nat → Nat → Int64} {k : Nat} {e : Pe} (h : pent ai al k = penc e) : al 11 k = e.1.1 ∧ ai 12 k = nI e.1.2.1 ∧ ai 13 k = e.1.2.2.1 ∧ ai 14 k = e.1.2.2.2 ∧ ai 15 k = bI e.2 := by
  simpa [pent, penc] using h
theorem nent_k {ai : Nat → Nat → Int32} {al : Nat → Nat → Int64} {k : Nat} {e : Ne} (h : nent ai al k = nenc e) : al 17 k = e.1.1 ∧ ai 18 k = nI e.1.2.1 ∧ ai 19 k = e.1.2.2.1 ∧ ai 20 k = e.1.2.2.2 ∧ ai 21 k = bI e.2.1 ∧ ai 22 k = bI e.2.2 := by
  simpa [nent, nenc] using h
theorem inLog_eq {l : List En} {fi : Nat → Int32} {ai : Nat → Nat → Int32} {al : Nat → Nat → Int64} (h : RepL l fi ai al) (key : Int64) : ∀ n, n ≤ l.length → inLogR ai al key n = oI (lastIx l key n) := by
  intro n
  induction n with
  | zero => intro _; rfl
  | succ n ih =>
    intro hn
    obtain ⟨e, he⟩ : ∃ e, l[n]? = some e := ⟨l[n], List.getElem?_eq_getElem (by omega)⟩
    obtain ⟨h1, -, -, -, h5, -⟩ := ent_k (h.2.2 n e he)
    simp only [inLogR, lastIx, he, h1, h5, bI_ne]
    split
    · rfl
    · exact ih (by omega)
theorem fil_eq {P : Nat → List Pe} {ai : Nat → Nat → Int32} {al : Nat → Nat → Int64} (h : RepP P ai al) {s : Nat} (hs : s < 64) : ∀ n, n ≤ (P s).length → filR al s n = filS ((P s).take n) := by
  intro n
  induction n with
  | zero => intro _; rfl
  | succ n ih =>
    intro hn
    obtain ⟨e, he⟩ : ∃ e, (P s)[n]? = some e := ⟨(P s)[n], List.getElem?_eq_getElem (by omega)⟩
    obtain ⟨h1, -⟩ := pent_k ((h s hs).2.2 n e he)
    simp only [filR, ih (by omega), h1]
    rw [List.take_add_one, he]
    simp [filS]
theorem may_eq {P : Nat → List Pe} {ai : Nat → Nat → Int32} {al : Nat → Nat → Int64} (h : RepP P ai al) (key : Int64) : mayR al key (P (setN key)).length = mayS (P (setN key)) key := by
  unfold mayR mayS
  rw [fil_eq h (setN_lt key) _ (Nat.le_refl _), List.take_length]
theorem inPage_eq {P : Nat → List Pe} {ai : Nat → Nat → Int32} {al : Nat → Nat → Int64} (h : RepP P ai al) {s : Nat} (hs : s < 64) (key : Int64) : ∀ j, j ≤ (P s).length → inPageR al key s (P s).length j = oI ((((P s).drop ((P s).length - j)).findIdx? (fun e => e.1.1 == key)).map (fun i => 8 * s + ((P s).length - j + i))) := by
  intro j
  induction j with
  | zero => intro _; simp [inPageR, oI]
  | succ j ih =>
    intro hj
    generalize hm : (P s).length - (j + 1) = m
    have hml : m < (P s).length := by omega
    have hm1 : (P s).length - j = m + 1 := by omega
    obtain ⟨h1, -⟩ := pent_k ((h s hs).2.2 m _ (List.getElem?_eq_getElem hml))
    rw [hm1] at ih
    rw [List.drop_eq_getElem_cons hml, List.findIdx?_cons]
    simp only [inPageR, hm, h1, beq_iff_eq]
    by_cases hk : (P s)[m].1.1 = key
    · simp [hk, oI]
    · rw [if_neg hk, if_neg hk, ih (by omega), Option.map_map]
      congr 2
      funext i
      simp only [Function.comp]
      omega
theorem inPage_eq' {P : Nat → List Pe} {ai : Nat → Nat → Int32} {al : Nat → Nat → Int64} (h : RepP P ai al) (key : Int64) : inPageR al key (setN key) (P (setN key)).length (P (setN key)).length = oI ((ixS (P (setN key)) key).map (fun i => 8 * setN key + i)) := by
  rw [inPage_eq h (setN_lt key) key _ (Nat.le_refl _)]
  simp [ixS]
section REFB
variable {G : Gd} {A : Nat → Prop} {mo : Nat} {ad sl : Nat → Nat} {S : SS} {nw : List Ne}
theorem n_mix (hst : MSt mo ad sl) (key : Int64) : Ct 0 0 0 yX5_mix cX5_mix 5 (some .long) G A [.ref mo, .long key] (MPN G A mo ad sl S nw) (some (.long (mixI key))) (MPN G A mo ad sl S nw) :=
  Ct.mpn fun fi ai al h => Ct.post rfl (MPN.of h) (c_mix hst key)
theorem n_unmix (hst : MSt mo ad sl) (key : Int64) : Ct 0 0 0 yX5_unmix cX5_unmix 7 (some .long) G A [.ref mo, .long key] (MPN G A mo ad sl S nw) (some (.long (unmixI key))) (MPN G A mo ad sl S nw) :=
  Ct.mpn fun fi ai al h => Ct.post rfl (MPN.of h) (c_unmix hst key)
theorem n_setOf (hst : MSt mo ad sl) (key : Int64) : Ct 1 0 0 yX5_setOf cX5_setOf 3 (some .int) G A [.ref mo, .long key] (MPN G A mo ad sl S nw) (some (.int (nI (setN key)))) (MPN G A mo ad sl S nw) :=
  Ct.mpn fun fi ai al h => Ct.post rfl (MPN.of h) (c_setOf hst key)
theorem n_filterOf (hst : MSt mo ad sl) (s : Nat) (hs : s < 64) : Ct 2 0 0 yX5_filterOf cX5_filterOf 5 (some .long) G A [.ref mo, .int (nI s)] (MPN G A mo ad sl S nw) (some (.long (filS (sP S s)))) (MPN G A mo ad sl S nw) :=
  Ct.mpn fun fi ai al h => Ct.post (by rw [fil_eq h.2.2.1 hs _ (Nat.le_refl _), List.take_length]) (MPN.of h) (c_filterOf hst s (sP S s).length hs (h.2.2.1 s hs).1 (h.2.2.1 s hs).2.1)
theorem n_mayHave (hst : MSt mo ad sl) (key : Int64) : Ct 3 0 0 yX5_mayHave cX5_mayHave 5 (some .boolean) G A [.ref mo, .long key] (MPN G A mo ad sl S nw) (some (.int (bI (mayS (sP S (setN key)) key)))) (MPN G A mo ad sl S nw) :=
  Ct.mpn fun fi ai al h => Ct.post (by rw [may_eq h.2.2.1]) (MPN.of h) (c_mayHave hst key (sP S (setN key)).length (h.2.2.1 _ (setN_lt key)).1 (h.2.2.1 _ (setN_lt key)).2.1)
theorem n_inLog (hst : MSt mo ad sl) (key : Int64) : Ct 0 0 0 yX5_inLog cX5_inLog 5 (some .int) G A [.ref mo, .long key] (MPN G A mo ad sl S nw) (some (.int (oI (lastIx (sL S) key (sL S).length)))) (MPN G A mo ad sl S nw) :=
  Ct.mpn fun fi ai al h => Ct.post (by rw [inLog_eq h.1 key _ (Nat.le_refl _)]) (MPN.of h) (c_inLog hst key (sL S).length h.1.1 h.1.2.1)
theorem n_inPage (hst : MSt mo ad sl) (key : Int64) : Ct 2 0 0 yX5_inPage cX5_inPage 5 (some .int) G A [.ref mo, .long key] (MPN G A mo ad sl S nw) (some (.int (oI ((ixS (sP S (setN key)) key).map (fun i => 8 * setN key + i))))) (MPN G A mo ad sl S nw) :=
  Ct.mpn fun fi ai al h => Ct.post (by rw [inPage_eq' h.2.2.1]) (MPN.of h) (c_inPage hst key (sP S (setN key)).length (h.2.2.1 _ (setN_lt key)).1 (h.2.2.1 _ (setN_lt key)).2.1)
end REFB
end
section
theorem nI_one : (1 : Int32) = nI 1 := rfl
def rel (f : Nat → Int32) (a b : Int32) (i : Nat) : Nat → Int32 := fun k => if k < i ∧ f k = a then b else f k
theorem rel_0 (f : Nat → Int32) (a b : Int32) : rel f a b 0 = f := by
  funext k
  simp [rel]
theorem rel_t {f : Nat → Int32} {a b : Int32} {i : Nat} (h : f i = a) : va_up (rel f a b i) i b = rel f a b (i + 1) := by
  funext k
  by_cases hk : k = i
  · subst hk
    simp [va_up, rel, h]
  · simp only [va_up, rel, hk, if_false]
    by_cases h2 : k < i
    · simp [h2, show k < i + 1 by omega]
    · simp [h2, show ¬ k < i + 1 by omega]
theorem rel_f {f : Nat → Int32} {a b : Int32} {i : Nat} (h : ¬ f i = a) : rel f a b i = rel f a b (i + 1) := by
  funext k
  by_cases hk : k = i
  · subst hk
    simp [rel, h]
  · simp only [rel]
    by_cases h2 : k < i
    · simp [h2, show k < i + 1 by omega]
    · simp [h2, show ¬ k < i + 1 by omega]
theorem rel_i (f : Nat → Int32) (a b : Int32) (i : Nat) : rel f a b i i = f i := by simp [rel]
theorem up2_va {α : Type} (f : Nat → Nat → α) (g : Nat → α) (q i : Nat) (x : α) : up2 (va_up f q g) q i x = va_up f q (va_up g i x) := by
  funext a b
  by_cases h : a = q
  · subst h
    simp [up2, va_up]
  · simp [up2, va_up, h]
theorem va_id {α : Type} (f : Nat → α) (q : Nat) : va_up f q (f q) = f := by
  funext a
  by_cases h : a = q
  · subst h
    simp [va_up]
  · simp [va_up, h]
theorem ent_mk {ai : Nat → Nat → Int32} {al : Nat → Nat → Int64} {k : Nat} {e : En} (h0 : al 0 k = e.1.1) (h1 : ai 1 k = nI e.1.2.1) (h2 : ai 2 k = e.1.2.2.1) (h3 : ai 3 k = e.1.2.2.2) (h4 : ai 4 k = bI e.2.1) (h5 : ai 5 k = bI e.2.2.1) (h6 : ai 6 k = nI (e.2.2.2 / 4)) : ent ai al k = enc e := by
  simp only [ent, enc, h0, h1, h2, h3, h4, h5, h6]
/-- the numbers of the places of the log's entries: 0 .. 31, 32, 36 .. 39 -/
def Lb (S : SS) : Prop := ∀ e ∈ sL S, e.2.2.2 < 40 ∧ (e.2.2.2 / 4 = 8 → e.2.2.2 = 32)
theorem rep_wr0 {S : SS} {nw : List Ne} {fi : Nat → Int32} {ai : Nat → Nat → Int32} {al : Nat → Nat → Int64} (h : Rep S nw fi ai al) (hH : sH S < 8) (hN : sN S (sH S) ≤ 3) (hb : Lb S) : Rep (wr0 S) nw (va_up fi 10 0) (up2 (up2 (va_up ai 6 (rel (ai 6) 8 (fi 9) (sL S).length)) 8 (sH S) (nI (sN S (sH S)) + 1)) 24 1 (sC S 1 + 1)) al := by
  obtain ⟨⟨l1, l2, l3⟩, ⟨n1, n2, n3⟩, hP, r1, r2, r3, r4, r5⟩ := h
  refine ⟨⟨?_, ?_, ?_⟩, ⟨?_, n2, ?_⟩, ?_, ?_, ?_, ?_, ?_, ?_⟩
  · simpa [wr0_L, va_up] using l1
  · simpa [wr0_L] using l2
  · intro k e he
    simp only [wr0_L, List.getElem?_map, Option.map_eq_some_iff] at he
    obtain ⟨e0, he0, rfl⟩ := he
    have hk : k < (sL S).length := (List.getElem?_eq_some_iff.mp he0).1
    obtain ⟨c0, c1, c2, c3, c4, c5, c6⟩ := ent_k (l3 k e0 he0)
    obtain ⟨b1, b2⟩ := hb e0 (List.mem_of_getElem? he0)
    have key : (if e0.2.2.2 = 32 then (e0.1, e0.2.1, e0.2.2.1, 4 * sH S + sN S (sH S)) else e0) = (e0.1, e0.2.1, e0.2.2.1, if e0.2.2.2 = 32 then 4 * sH S + sN S (sH S) else e0.2.2.2) := by
      split <;> rfl
    rw [key]
    refine ent_mk c0 ?_ ?_ ?_ ?_ ?_ ?_
    · simpa [up2_at, va_up] using c1
    · simpa [up2_at, va_up] using c2
    · simpa [up2_at, va_up] using c3
    · simpa [up2_at, va_up] using c4
    · simpa [up2_at, va_up] using c5
    · have hrel : (up2 (up2 (va_up ai 6 (rel (ai 6) 8 (fi 9) (sL S).length)) 8 (sH S) (nI (sN S (sH S)) + 1)) 24 1 (sC S 1 + 1)) 6 k = rel (ai 6) 8 (fi 9) (sL S).length k := by simp [up2_at, va_up]
      rw [hrel]
      unfold rel
      rw [c6, r1]
      by_cases h32 : e0.2.2.2 = 32
      · have e1 : (4 * sH S + sN S (sH S)) / 4 = sH S := by omega
        rw [if_pos ⟨hk, by rw [h32]; rfl⟩]
        show _ = nI ((if e0.2.2.2 = 32 then 4 * sH S + sN S (sH S) else e0.2.2.2) / 4)
        rw [if_pos h32, e1]
      · have e1 : ¬ nI (e0.2.2.2 / 4) = 8 := fun q => h32 (b2 ((nI_eq (by omega) (by decide)).mp (q.trans (show (8 : Int32) = nI 8 from rfl))))
        rw [if_neg (fun q => e1 q.2)]
        show _ = nI ((if e0.2.2.2 = 32 then 4 * sH S + sN S (sH S) else e0.2.2.2) / 4)
        rw [if_neg h32]
  · simpa [va_up] using n1
  · intro k e he
    simpa [nent, up2_at, va_up] using n3 k e he
  · intro s hs
    simpa [wr0_P, pent, up2_at, va_up] using hP s hs
  · simpa [wr0_H, va_up] using r1
  · simp [wr0_O, va_up, nI]
  · intro j hj
    simp only [up2_at, va_up, wr0_N]
    by_cases hj2 : j = sH S
    · simp [hj2, nI_1]
    · simp [hj2, r3 j hj]
  · intro j hj
    simp only [up2_at, va_up, wr0_C, inc]
    by_cases hj2 : j = 1
    · simp [hj2]
    · simp [hj2, r4 j hj]
  · simpa [wr0_X, wr0_G, va_up] using r5
section REFC
variable {p : Program} {l : Launch} {e : Env} {s : State} {m : MethodId} {args : Array Value} {below : List Frame} {meth : Method} {c : Code} {R : Room} {G : Gd} {A : Nat → Prop} {Q : State → Prop} {k n : Nat} {mo : Nat} {ad sl : Nat → Nat} {S : SS} {nw : List Ne}
theorem w_wop (hst : MSt mo ad sl) (hH : sH S < 8) (hN : sN S (sH S) ≤ 3) (hb : Lb S) (kk : K p l e s m args below meth c R RX5 cX5_writeOpenPage 2 (none) G A Q k n (MPN G A mo ad sl (wr0 S) nw) 65 [some (.ref mo), none] []) : K p l e s m args below meth c R RX5 cX5_writeOpenPage 2 (none) G A Q k n (MPN G A mo ad sl S nw) 0 [some (.ref mo), none] [] := by
  refine k_open fun fi ai al h => ?_
  have hlen := h.1.2.1
  have r8 := h.2.2.2.2.2.1 (sH S) hH
  have r1 := h.2.2.2.1
  have r24 := h.2.2.2.2.2.2.1 1 (by decide)
  have hfin : K p l e s m args below meth c R RX5 cX5_writeOpenPage 2 (none) G A Q k n (MH G A mo ad sl fi (va_up ai 6 (rel (ai 6) 8 (fi 9) (sL S).length)) al) 37 [some (.ref mo), none] [] := by
    refine k_aload_n (pc := 37) dX5_writeOpenPage_37 rfl ?_
    refine k_iconst (v := 0) (pc := 38) dX5_writeOpenPage_38 (by decide) ?_
    refine mp_100 hst (pc := 39) dX5_writeOpenPage_39 rfl rfl ?_
    refine k_aload_n (pc := 42) dX5_writeOpenPage_42 rfl ?_
    refine mg_33 hst (pc := 43) dX5_writeOpenPage_43 ?_
    refine k_aload_n (pc := 46) dX5_writeOpenPage_46 rfl ?_
    refine mg_106 hst (pc := 47) dX5_writeOpenPage_47 ?_
    refine k_dup2 (pc := 50) dX5_writeOpenPage_50 rfl rfl ?_
    refine m_iald hst rfl (pc := 51) dX5_writeOpenPage_51 r1 (by simpa [mln] using hH) (by decide) ?_
    refine k_iconst (v := 1) (pc := 52) dX5_writeOpenPage_52 (by decide) ?_
    refine k_iadd (pc := 53) dX5_writeOpenPage_53 ?_
    refine m_iast hst rfl (pc := 54) dX5_writeOpenPage_54 r1 (by simpa [mln] using hH) (by decide) ?_
    refine k_aload_n (pc := 55) dX5_writeOpenPage_55 rfl ?_
    refine mg_72 hst (pc := 56) dX5_writeOpenPage_56 ?_
    refine k_iconst (v := 1) (pc := 59) dX5_writeOpenPage_59 (by decide) ?_
    refine k_dup2 (pc := 60) dX5_writeOpenPage_60 rfl rfl ?_
    refine m_iald hst rfl (pc := 61) dX5_writeOpenPage_61 nI_one (by decide) (by decide) ?_
    refine k_iconst (v := 1) (pc := 62) dX5_writeOpenPage_62 (by decide) ?_
    refine k_iadd (pc := 63) dX5_writeOpenPage_63 ?_
    refine m_iast hst rfl (pc := 64) dX5_writeOpenPage_64 nI_one (by decide) (by decide) ?_
    refine k_close (S := wr0 S) (nw := nw) ?_ kk
    have e1 : (va_up ai 6 (rel (ai 6) 8 (fi 9) (sL S).length)) 8 (sH S) = nI (sN S (sH S)) := r8
    have e2 : (up2 (va_up ai 6 (rel (ai 6) 8 (fi 9) (sL S).length)) 8 (sH S) ((va_up ai 6 (rel (ai 6) 8 (fi 9) (sL S).length)) 8 (sH S) + 1)) 24 1 = sC S 1 := r24
    rw [e2, e1]
    exact rep_wr0 h hH hN hb
  have loop : ∀ j i : Nat, i + j = (sL S).length → K p l e s m args below meth c R RX5 cX5_writeOpenPage 2 (none) G A Q k n (MH G A mo ad sl fi (va_up ai 6 (rel (ai 6) 8 (fi 9) i)) al) 2 [some (.ref mo), some (.int (nI i))] [] := by
    intro j
    induction j with
    | zero =>
      intro i hi
      have hi6 : i = (sL S).length := by omega
      subst hi6
      refine k_iload_n (pc := 2) dX5_writeOpenPage_2 rfl ?_
      refine k_aload_n (pc := 3) dX5_writeOpenPage_3 rfl ?_
      refine mg_96 hst (pc := 4) dX5_writeOpenPage_4 ?_
      rw [h.1.1]
      refine k_icmp_ge (tgt := 37) (pc := 7) dX5_writeOpenPage_7 (by decide) (fun _ => ?_) (fun c => absurd (nI_le (Nat.le_refl _) (by omega)) c)
      exact k_lv (fun i v h => by match i, h with | 0, h => exact h | 1, h => cases h | i + 2, h => cases h) hfin
    | succ j ih =>
      intro i hi
      have step := ih (i + 1) (by omega)
      refine k_iload_n (pc := 2) dX5_writeOpenPage_2 rfl ?_
      refine k_aload_n (pc := 3) dX5_writeOpenPage_3 rfl ?_
      refine mg_96 hst (pc := 4) dX5_writeOpenPage_4 ?_
      rw [h.1.1]
      refine k_icmp_ge (tgt := 37) (pc := 7) dX5_writeOpenPage_7 (by decide) (fun c => absurd c (nI_ge (by omega) (by omega))) (fun _ => ?_)
      refine k_aload_n (pc := 10) dX5_writeOpenPage_10 rfl ?_
      refine mg_30 hst (pc := 11) dX5_writeOpenPage_11 ?_
      refine k_iload_n (pc := 14) dX5_writeOpenPage_14 rfl ?_
      refine m_iald hst rfl (pc := 15) dX5_writeOpenPage_15 rfl (by simp only [mln]; omega) (by decide) ?_
      refine k_bipush (v := 8) (pc := 16) dX5_writeOpenPage_16 (by decide) ?_
      refine k_icmp_ne (tgt := 31) (pc := 18) dX5_writeOpenPage_18 (by decide) (fun h1 => ?_) (fun h1 => ?_)
      · rw [va_up_self, rel_i] at h1
        rw [← rel_f h1] at step
        refine k_iinc (pc := 31) dX5_writeOpenPage_31 rfl (nI_inc _) (by decide) rfl ?_
        refine k_goto (tgt := 2) (pc := 34) dX5_writeOpenPage_34 (by decide) ?_
        exact step
      · rw [va_up_self, rel_i] at h1
        rw [← rel_t h1] at step
        refine k_aload_n (pc := 21) dX5_writeOpenPage_21 rfl ?_
        refine mg_30 hst (pc := 22) dX5_writeOpenPage_22 ?_
        refine k_iload_n (pc := 25) dX5_writeOpenPage_25 rfl ?_
        refine k_aload_n (pc := 26) dX5_writeOpenPage_26 rfl ?_
        refine mg_106 hst (pc := 27) dX5_writeOpenPage_27 ?_
        refine m_iast hst rfl (pc := 30) dX5_writeOpenPage_30 rfl (by simp only [mln]; omega) (by decide) ?_
        refine k_iinc (pc := 31) dX5_writeOpenPage_31 rfl (nI_inc _) (by decide) rfl ?_
        refine k_goto (tgt := 2) (pc := 34) dX5_writeOpenPage_34 (by decide) ?_
        rw [up2_va]
        exact step
  have h0 := loop (sL S).length 0 (by omega)
  rw [rel_0, va_id] at h0
  refine k_iconst (v := 0) (pc := 0) dX5_writeOpenPage_0 (by decide) ?_
  refine k_istore_n (pc := 1) dX5_writeOpenPage_1 (by decide) rfl ?_
  exact h0
end REFC
end
section
theorem rep_push {S : SS} {nw : List Ne} {fi : Nat → Int32} {ai : Nat → Nat → Int32} {al : Nat → Nat → Int64} (h : Rep S nw fi ai al) (hl : (sL S).length < 700) (key : Int64) (w : Nat) (f t : Int32) : Rep (pushS S (key, w, f, t)) nw (va_up (va_up fi 7 (fi 7 + 1)) 10 (fi 10 + (3 + nI w))) (up2 (up2 (up2 (up2 (up2 (up2 ai 1 (sL S).length (nI w)) 2 (sL S).length f) 3 (sL S).length t) 4 (sL S).length 1) 5 (sL S).length 0) 6 (sL S).length 8) (up2 al 0 (sL S).length key) := by
  obtain ⟨⟨l1, l2, l3⟩, ⟨n1, n2, n3⟩, hP, r1, r2, r3, r4, r5⟩ := h
  refine ⟨⟨?_, ?_, ?_⟩, ⟨?_, n2, ?_⟩, ?_, ?_, ?_, ?_, ?_, ?_⟩
  · simp [pushS_L, va_up, l1, nI_1]
  · simp [pushS_L]; omega
  · intro k e he
    rw [pushS_L] at he
    by_cases hk : k < (sL S).length
    · rw [List.getElem?_append_left hk] at he
      have hk2 : ¬ k = (sL S).length := by omega
      simpa [ent, up2_at, hk2] using l3 k e he
    · rw [List.getElem?_append_right (by omega)] at he
      have hk2 : k = (sL S).length := by
        have := (List.getElem?_eq_some_iff.mp he).1
        simp at this
        omega
      subst hk2
      simp at he
      subst he
      simp [ent, enc, up2_at, bI]
      rfl
  · simpa [va_up] using n1
  · intro k e he
    simpa [nent, up2_at, va_up] using n3 k e he
  · intro s hs
    simpa [pushS_P, pent, up2_at, va_up] using hP s hs
  · simpa [pushS_H, va_up] using r1
  · simp [pushS_O, va_up, r2, plc, show (3 : Int32) = nI 3 from rfl, nI_add]
  · intro j hj
    simpa [up2_at, pushS_N] using r3 j hj
  · intro j hj
    simpa [up2_at, pushS_C] using r4 j hj
  · simpa [pushS_X, pushS_G, va_up] using r5
section REFD
variable {p : Program} {l : Launch} {e : Env} {s : State} {m : MethodId} {args : Array Value} {below : List Frame} {meth : Method} {c : Code} {R : Room} {G : Gd} {A : Nat → Prop} {Q : State → Prop} {k n : Nat} {mo : Nat} {ad sl : Nat → Nat} {S : SS} {nw : List Ne}
set_option maxRecDepth 4000 in
theorem c_wop0 (hst : MSt mo ad sl) (hH : sH S < 8) (hN : sN S (sH S) ≤ 2) (hb : Lb S) : Ct 0 0 0 yX5_writeOpenPage cX5_writeOpenPage 2 (none) G A [.ref mo] (MPN G A mo ad sl S nw) (none) (MPN G A mo ad sl (wr0 S) nw) := by
  refine Ct.of 1 rfl rfl (Nat.le_of_ble_eq_true rfl) ?_
  intro p l e s m below meth c hini
  refine w_wop hst hH (by omega) hb ?_
  refine k_open fun fi ai al h => ?_
  have r8 := h.2.2.2.2.2.1 (sH S) hH
  have r1 : fi 9 = nI (sH S) := h.2.2.2.1
  rw [wr0_N, va_up_self] at r8
  refine k_aload_n (pc := 65) dX5_writeOpenPage_65 rfl ?_
  refine mg_33 hst (pc := 66) dX5_writeOpenPage_66 ?_
  refine k_aload_n (pc := 69) dX5_writeOpenPage_69 rfl ?_
  refine mg_106 hst (pc := 70) dX5_writeOpenPage_70 ?_
  refine m_iald hst rfl (pc := 73) dX5_writeOpenPage_73 r1 (by simpa [mln] using hH) (by decide) ?_
  refine k_iconst (v := 4) (pc := 74) dX5_writeOpenPage_74 (by decide) ?_
  rw [r8]
  refine k_icmp_ne (tgt := 121) (pc := 75) dX5_writeOpenPage_75 (by decide) (fun _ => ?_) (fun c => absurd ((nI_eq (by omega) (by decide)).mp (c.trans (show (4 : Int32) = nI 4 from rfl))) (by omega))
  exact k_vret (pc := 121) dX5_writeOpenPage_121 (MPN.of h) (Nat.le_refl _) (Nat.le_refl _)
theorem w_push (hst : MSt mo ad sl) (hl : (sL S).length < 700) {key : Int64} {w : Nat} {f t : Int32} (kk : K p l e s m args below meth c R RX5 cX5_append 6 (none) G A Q k n (MPN G A mo ad sl (pushS S (key, w, f, t)) nw) 115 [some (.ref mo), some (.long key), none, some (.int (nI w)), some (.int f), some (.int t)] []) : K p l e s m args below meth c R RX5 cX5_append 6 (none) G A Q k n (MPN G A mo ad sl S nw) 20 [some (.ref mo), some (.long key), none, some (.int (nI w)), some (.int f), some (.int t)] [] := by
  refine k_open fun fi ai al h => ?_
  have l1 := h.1.1
  refine k_aload_n (pc := 20) dX5_append_20 rfl ?_
  refine mg_7 hst (pc := 21) dX5_append_21 ?_
  refine k_aload_n (pc := 24) dX5_append_24 rfl ?_
  refine mg_96 hst (pc := 25) dX5_append_25 ?_
  refine k_lload_n (pc := 28) dX5_append_28 rfl ?_
  refine m_last hst rfl (pc := 29) dX5_append_29 l1 hl (by decide) ?_
  refine k_aload_n (pc := 30) dX5_append_30 rfl ?_
  refine mg_13 hst (pc := 31) dX5_append_31 ?_
  refine k_aload_n (pc := 34) dX5_append_34 rfl ?_
  refine mg_96 hst (pc := 35) dX5_append_35 ?_
  refine k_iload_n (pc := 38) dX5_append_38 rfl ?_
  refine m_iast hst rfl (pc := 39) dX5_append_39 l1 hl (by decide) ?_
  refine k_aload_n (pc := 40) dX5_append_40 rfl ?_
  refine mg_17 hst (pc := 41) dX5_append_41 ?_
  refine k_aload_n (pc := 44) dX5_append_44 rfl ?_
  refine mg_96 hst (pc := 45) dX5_append_45 ?_
  refine k_iload (pc := 48) dX5_append_48 rfl ?_
  refine m_iast hst rfl (pc := 50) dX5_append_50 l1 hl (by decide) ?_
  refine k_aload_n (pc := 51) dX5_append_51 rfl ?_
  refine mg_20 hst (pc := 52) dX5_append_52 ?_
  refine k_aload_n (pc := 55) dX5_append_55 rfl ?_
  refine mg_96 hst (pc := 56) dX5_append_56 ?_
  refine k_iload (pc := 59) dX5_append_59 rfl ?_
  refine m_iast hst rfl (pc := 61) dX5_append_61 l1 hl (by decide) ?_
  refine k_aload_n (pc := 62) dX5_append_62 rfl ?_
  refine mg_23 hst (pc := 63) dX5_append_63 ?_
  refine k_aload_n (pc := 66) dX5_append_66 rfl ?_
  refine mg_96 hst (pc := 67) dX5_append_67 ?_
  refine k_iconst (v := 1) (pc := 70) dX5_append_70 (by decide) ?_
  refine m_zast hst rfl (pc := 71) dX5_append_71 l1 hl (by decide) rfl ?_
  refine k_aload_n (pc := 72) dX5_append_72 rfl ?_
  refine mg_27 hst (pc := 73) dX5_append_73 ?_
  refine k_aload_n (pc := 76) dX5_append_76 rfl ?_
  refine mg_96 hst (pc := 77) dX5_append_77 ?_
  refine k_iconst (v := 0) (pc := 80) dX5_append_80 (by decide) ?_
  refine m_zast hst rfl (pc := 81) dX5_append_81 l1 hl (by decide) rfl ?_
  refine k_aload_n (pc := 82) dX5_append_82 rfl ?_
  refine mg_30 hst (pc := 83) dX5_append_83 ?_
  refine k_aload_n (pc := 86) dX5_append_86 rfl ?_
  refine mg_96 hst (pc := 87) dX5_append_87 ?_
  refine k_bipush (v := 8) (pc := 90) dX5_append_90 (by decide) ?_
  refine m_iast hst rfl (pc := 92) dX5_append_92 l1 hl (by decide) ?_
  refine k_aload_n (pc := 93) dX5_append_93 rfl ?_
  refine k_dup (pc := 94) dX5_append_94 rfl ?_
  refine mg_96 hst (pc := 95) dX5_append_95 ?_
  refine k_iconst (v := 1) (pc := 98) dX5_append_98 (by decide) ?_
  refine k_iadd (pc := 99) dX5_append_99 ?_
  refine mp_96 hst (pc := 100) dX5_append_100 rfl rfl ?_
  refine k_aload_n (pc := 103) dX5_append_103 rfl ?_
  refine k_dup (pc := 104) dX5_append_104 rfl ?_
  refine mg_100 hst (pc := 105) dX5_append_105 ?_
  refine k_iconst (v := 3) (pc := 108) dX5_append_108 (by decide) ?_
  refine k_iload_n (pc := 109) dX5_append_109 rfl ?_
  refine k_iadd (pc := 110) dX5_append_110 ?_
  refine k_iadd (pc := 111) dX5_append_111 ?_
  refine mp_100 hst (pc := 112) dX5_append_112 rfl rfl ?_
  exact k_close (rep_push h hl key w f t) kk
theorem nI_3w (o w : Nat) : nI o + 3 + nI w = nI (o + (3 + w)) := by
  rw [show (3 : Int32) = nI 3 from rfl, nI_add, nI_add, Nat.add_assoc]
set_option maxRecDepth 4000 in
theorem c_app0 (hst : MSt mo ad sl) (key : Int64) (w : Nat) (f t : Int32) (hw : w ≤ 12) (hO : sO S ≤ 32) (hH : sH S < 8) (hN : sO S + plc (key, w, f, t) > 32 → sN S (sH S) ≤ 2) (hb : Lb S) (hl : (sL S).length < 700) : Ct 1 0 0 yX5_append cX5_append 6 (none) G A [.ref mo, .long key, .int (nI w), .int f, .int t] (MPN G A mo ad sl S nw) (none) (MPN G A mo ad sl (anewS S (key, w, f, t)) nw) := by
  refine Ct.of 0 rfl rfl (Nat.le_of_ble_eq_true rfl) ?_
  intro p l e s m below meth c hini
  have fin : ∀ S' : SS, sO S' + plc (key, w, f, t) ≤ 32 → (sL S').length < 700 → pushS S' (key, w, f, t) = anewS S (key, w, f, t) → K p l e s m ([.ref mo, .long key, .int (nI w), .int f, .int t] : List Value).toArray below meth c (rmm 1 0 0) yX5_append.cls cX5_append 6 (none) G A (MQ below (Qd (none) (MPN G A mo ad sl (anewS S (key, w, f, t)) nw) A) ([.ref mo, .long key, .int (nI w), .int f, .int t] : List Value).toArray s 0 0 A) 0 0 (MPN G A mo ad sl S' nw) 0 [some (.ref mo), some (.long key), none, some (.int (nI w)), some (.int f), some (.int t)] [] := by
    intro S' hO' hl' he
    have hpl : sO S' + (3 + w) ≤ 32 := hO'
    refine k_open fun fi ai al h => ?_
    refine k_aload_n (pc := 0) dX5_append_0 rfl ?_
    refine mg_100 hst (pc := 1) dX5_append_1 ?_
    refine k_iconst (v := 3) (pc := 4) dX5_append_4 (by decide) ?_
    refine k_iadd (pc := 5) dX5_append_5 ?_
    refine k_iload_n (pc := 6) dX5_append_6 rfl ?_
    refine k_iadd (pc := 7) dX5_append_7 ?_
    refine k_bipush (v := 32) (pc := 8) dX5_append_8 (by decide) ?_
    rw [show fi 10 = nI (sO S') from h.2.2.2.2.1, nI_3w]
    refine k_icmp_le (tgt := 20) (pc := 10) dX5_append_10 (by decide) (fun _ => ?_) (fun c => absurd (nI_le hpl (by decide)) c)
    refine k_close h (w_push hst hl' ?_)
    rw [he]
    exact k_vret (pc := 115) dX5_append_115 (fun _ h => h) (Nat.le_refl _) (Nat.le_refl _)
  by_cases hf : sO S + plc (key, w, f, t) > 32
  · have hpl : 32 < sO S + (3 + w) := hf
    refine k_open fun fi ai al h => ?_
    refine k_aload_n (pc := 0) dX5_append_0 rfl ?_
    refine mg_100 hst (pc := 1) dX5_append_1 ?_
    refine k_iconst (v := 3) (pc := 4) dX5_append_4 (by decide) ?_
    refine k_iadd (pc := 5) dX5_append_5 ?_
    refine k_iload_n (pc := 6) dX5_append_6 rfl ?_
    refine k_iadd (pc := 7) dX5_append_7 ?_
    refine k_bipush (v := 32) (pc := 8) dX5_append_8 (by decide) ?_
    rw [show fi 10 = nI (sO S) from h.2.2.2.2.1, nI_3w]
    refine k_icmp_le (tgt := 20) (pc := 10) dX5_append_10 (by decide) (fun c => absurd c (nI_ge hpl (by omega))) (fun _ => ?_)
    refine k_close h ?_
    refine k_aload_n (pc := 13) dX5_append_13 rfl ?_
    refine k_callM sv_X5_103 hst (c_wop0 hst hH (hN hf) hb) (pc := 14) dX5_append_14 rfl rfl (Nat.le_of_ble_eq_true rfl) (by decide) (by decide) (Nat.le_refl _) (Nat.le_refl _) ?_
    refine k_goto (tgt := 0) (pc := 17) dX5_append_17 (by decide) ?_
    refine fin (wr0 S) ?_ ?_ ?_
    · rw [wr0_O]; show 0 + (3 + w) ≤ 32; omega
    · rw [wr0_L, List.length_map]; exact hl
    · unfold anewS; rw [if_pos hf]
  · refine fin S (by omega) hl ?_
    unfold anewS; rw [if_neg hf]
end REFD
end
section
def keepE (e : En) : Bool := !(isOut e && !e.2.1)
/-- forgetDead in its midst: the first i are gone through -/
def FdI (L : List En) (ai ai' : Nat → Nat → Int32) (al al' : Nat → Nat → Int64) (i : Nat) : Prop := (∀ (j : Nat) (e : En), ((L.take i).filter keepE)[j]? = some e → ent ai' al' j = enc e) ∧ (∀ (j : Nat) (e : En), i ≤ j → L[j]? = some e → ent ai' al' j = enc e) ∧ (∀ q, 7 ≤ q → ai' q = ai q) ∧ (∀ q, 1 ≤ q → al' q = al q)
theorem fd_len (L : List En) (i : Nat) : ((L.take i).filter keepE).length ≤ i := Nat.le_trans (List.length_filter_le _ _) (by rw [List.length_take]; omega)
theorem fd_next {L : List En} {i : Nat} {e : En} (he : L[i]? = some e) : (L.take (i + 1)).filter keepE = (L.take i).filter keepE ++ (if keepE e then [e] else []) := by
  rw [List.take_add_one, he, List.filter_append]
  simp only [Option.toList, List.filter_cons, List.filter_nil]
theorem fd_skip {L : List En} {ai ai' : Nat → Nat → Int32} {al al' : Nat → Nat → Int64} {i : Nat} {e : En} (h : FdI L ai ai' al al' i) (he : L[i]? = some e) (hk : keepE e = false) : FdI L ai ai' al al' (i + 1) := by
  refine ⟨?_, fun j e h1 h2 => h.2.1 j e (by omega) h2, h.2.2⟩
  rw [fd_next he, hk]
  simpa using h.1
theorem fd_copy {L : List En} {ai ai' : Nat → Nat → Int32} {al al' : Nat → Nat → Int64} {i : Nat} {e : En} (h : FdI L ai ai' al al' i) (he : L[i]? = some e) (hk : keepE e = true) {x0 : Int64} {x1 x2 x3 x4 x5 x6 : Int32} (h0 : x0 = al' 0 i) (h1 : x1 = ai' 1 i) (h2 : x2 = ai' 2 i) (h3 : x3 = ai' 3 i) (h4 : x4 = ai' 4 i) (h5 : x5 = ai' 5 i) (h6 : x6 = ai' 6 i) :
    FdI L ai (up2 (up2 (up2 (up2 (up2 (up2 ai' 1 ((L.take i).filter keepE).length x1) 2 ((L.take i).filter keepE).length x2) 3 ((L.take i).filter keepE).length x3) 4 ((L.take i).filter keepE).length x4) 5 ((L.take i).filter keepE).length x5) 6 ((L.take i).filter keepE).length x6) al (up2 al' 0 ((L.take i).filter keepE).length x0) (i + 1) := by
  have hn := fd_len L i
  have hnx := fd_next he
  rw [hk] at hnx
  have hei := h.2.1 i e (Nat.le_refl _) he
  generalize hF : (L.take i).filter keepE = F at *
  refine ⟨?_, ?_, ?_, ?_⟩
  · intro j e' hj
    rw [hnx] at hj
    by_cases hj2 : j < F.length
    · rw [List.getElem?_append_left hj2] at hj
      have hne : ¬ j = F.length := by omega
      have := h.1 j e' (by rw [hF]; exact hj)
      simpa [ent, up2_at, hne] using this
    · rw [List.getElem?_append_right (by omega)] at hj
      have hj3 : j = F.length := by
        have := (List.getElem?_eq_some_iff.mp hj).1
        simp at this
        omega
      subst hj3
      simp at hj
      subst hj
      rw [← hei]
      simp [ent, up2_at, h0, h1, h2, h3, h4, h5, h6]
  · intro j e' hj1 hj2
    have hne : ¬ j = F.length := by omega
    have := h.2.1 j e' (by omega) hj2
    simpa [ent, up2_at, hne] using this
  · intro q hq
    rw [← h.2.2.1 q hq]
    funext b
    simp [up2_at, show ¬ q = 1 by omega, show ¬ q = 2 by omega, show ¬ q = 3 by omega, show ¬ q = 4 by omega, show ¬ q = 5 by omega, show ¬ q = 6 by omega]
  · intro q hq
    rw [← h.2.2.2 q hq]
    funext b
    simp [up2_at, show ¬ q = 0 by omega]
theorem rep_fd {S : SS} {nw : List Ne} {fi : Nat → Int32} {ai ai' : Nat → Nat → Int32} {al al' : Nat → Nat → Int64} (h : Rep S nw fi ai al) (hf : FdI (sL S) ai ai' al al' (sL S).length) : Rep (forget S) nw (va_up fi 7 (nI ((sL S).filter keepE).length)) ai' al' := by
  obtain ⟨⟨l1, l2, l3⟩, ⟨n1, n2, n3⟩, hP, r1, r2, r3, r4, r5⟩ := h
  obtain ⟨f1, f2, f3, f4⟩ := hf
  rw [List.take_length] at f1
  refine ⟨⟨?_, ?_, ?_⟩, ⟨?_, n2, ?_⟩, ?_, ?_, ?_, ?_, ?_, ?_⟩
  · rw [va_up_self]; rfl
  · rw [forget_L]; exact Nat.le_trans (List.length_filter_le _ _) l2
  · exact f1
  · exact n1
  · intro k e he
    have := n3 k e he
    simpa [nent, f3 18 (by decide), f3 19 (by decide), f3 20 (by decide), f3 21 (by decide), f3 22 (by decide), f4 17 (by decide)] using this
  · intro s hs
    obtain ⟨p1, p2, p3⟩ := hP s hs
    refine ⟨by rw [f3 16 (by decide)]; exact p1, p2, fun k e he => ?_⟩
    have := p3 k e he
    simpa [pent, f3 12 (by decide), f3 13 (by decide), f3 14 (by decide), f3 15 (by decide), f4 11 (by decide)] using this
  · exact r1
  · exact r2
  · intro j hj; rw [f3 8 (by decide)]; exact r3 j hj
  · intro j hj; rw [f3 24 (by decide)]; exact r4 j hj
  · exact r5
section REFE
variable {p : Program} {l : Launch} {e : Env} {s : State} {m : MethodId} {args : Array Value} {below : List Frame} {meth : Method} {c : Code} {R : Room} {G : Gd} {A : Nat → Prop} {Q : State → Prop} {k n : Nat} {mo : Nat} {ad sl : Nat → Nat} {S : SS} {nw : List Ne}
set_option maxRecDepth 4000 in
theorem c_forget (hst : MSt mo ad sl) (hb : Lb S) : Ct 0 0 0 yX5_forgetDead cX5_forgetDead 3 (none) G A [.ref mo] (MPN G A mo ad sl S nw) (none) (MPN G A mo ad sl (forget S) nw) := by
  refine Ct.of 2 rfl rfl (Nat.le_of_ble_eq_true rfl) ?_
  intro p l e s m below meth c hini
  refine k_open fun fi ai al h => ?_
  have hlen := h.1.2.1
  have loop : ∀ j i : Nat, i + j = (sL S).length → ∀ ai' al', FdI (sL S) ai ai' al al' i → K p l e s m ([.ref mo] : List Value).toArray below meth c (rmm 0 0 0) yX5_forgetDead.cls cX5_forgetDead 3 (none) G A (MQ below (Qd (none) (MPN G A mo ad sl (forget S) nw) A) ([.ref mo] : List Value).toArray s 0 0 A) 0 0 (MH G A mo ad sl fi ai' al') 4 [some (.ref mo), some (.int (nI (((sL S).take i).filter keepE).length)), some (.int (nI i))] [] := by
    intro j
    induction j with
    | zero =>
      intro i hi ai' al' hf
      have hi6 : i = (sL S).length := by omega
      subst hi6
      refine k_iload_n (pc := 4) dX5_forgetDead_4 rfl ?_
      refine k_aload_n (pc := 5) dX5_forgetDead_5 rfl ?_
      refine mg_96 hst (pc := 6) dX5_forgetDead_6 ?_
      rw [h.1.1]
      refine k_icmp_ge (tgt := 128) (pc := 9) dX5_forgetDead_9 (by decide) (fun _ => ?_) (fun c => absurd (nI_le (Nat.le_refl _) (by omega)) c)
      rw [List.take_length]
      refine k_aload_n (pc := 128) dX5_forgetDead_128 rfl ?_
      refine k_iload_n (pc := 129) dX5_forgetDead_129 rfl ?_
      refine mp_96 hst (pc := 130) dX5_forgetDead_130 rfl rfl ?_
      exact k_vret (pc := 133) dX5_forgetDead_133 (MPN.of (rep_fd h hf)) (Nat.le_refl _) (Nat.le_refl _)
    | succ j ih =>
      intro i hi ai' al' hf
      obtain ⟨e0, he0⟩ : ∃ e0, (sL S)[i]? = some e0 := ⟨(sL S)[i], List.getElem?_eq_getElem (by omega)⟩
      obtain ⟨-, -, -, -, c4, -, c6⟩ := ent_k (hf.2.1 i e0 (Nat.le_refl _) he0)
      have hn := fd_len (sL S) i
      have hnx := fd_next he0
      have hcopy : keepE e0 = true → K p l e s m ([.ref mo] : List Value).toArray below meth c (rmm 0 0 0) yX5_forgetDead.cls cX5_forgetDead 3 (none) G A (MQ below (Qd (none) (MPN G A mo ad sl (forget S) nw) A) ([.ref mo] : List Value).toArray s 0 0 A) 0 0 (MH G A mo ad sl fi ai' al') 35 [some (.ref mo), some (.int (nI (((sL S).take i).filter keepE).length)), some (.int (nI i))] [] := by
        intro hk
        refine k_aload_n (pc := 35) dX5_forgetDead_35 rfl ?_
        refine mg_7 hst (pc := 36) dX5_forgetDead_36 ?_
        refine k_iload_n (pc := 39) dX5_forgetDead_39 rfl ?_
        refine k_aload_n (pc := 40) dX5_forgetDead_40 rfl ?_
        refine mg_7 hst (pc := 41) dX5_forgetDead_41 ?_
        refine k_iload_n (pc := 44) dX5_forgetDead_44 rfl ?_
        refine m_lald hst rfl (pc := 45) dX5_forgetDead_45 rfl (by simp only [mln]; omega) (by decide) ?_
        refine m_last hst rfl (pc := 46) dX5_forgetDead_46 rfl (by simp only [mln]; omega) (by decide) ?_
        refine k_aload_n (pc := 47) dX5_forgetDead_47 rfl ?_
        refine mg_13 hst (pc := 48) dX5_forgetDead_48 ?_
        refine k_iload_n (pc := 51) dX5_forgetDead_51 rfl ?_
        refine k_aload_n (pc := 52) dX5_forgetDead_52 rfl ?_
        refine mg_13 hst (pc := 53) dX5_forgetDead_53 ?_
        refine k_iload_n (pc := 56) dX5_forgetDead_56 rfl ?_
        refine m_iald hst rfl (pc := 57) dX5_forgetDead_57 rfl (by simp only [mln]; omega) (by decide) ?_
        refine m_iast hst rfl (pc := 58) dX5_forgetDead_58 rfl (by simp only [mln]; omega) (by decide) ?_
        refine k_aload_n (pc := 59) dX5_forgetDead_59 rfl ?_
        refine mg_17 hst (pc := 60) dX5_forgetDead_60 ?_
        refine k_iload_n (pc := 63) dX5_forgetDead_63 rfl ?_
        refine k_aload_n (pc := 64) dX5_forgetDead_64 rfl ?_
        refine mg_17 hst (pc := 65) dX5_forgetDead_65 ?_
        refine k_iload_n (pc := 68) dX5_forgetDead_68 rfl ?_
        refine m_iald hst rfl (pc := 69) dX5_forgetDead_69 rfl (by simp only [mln]; omega) (by decide) ?_
        refine m_iast hst rfl (pc := 70) dX5_forgetDead_70 rfl (by simp only [mln]; omega) (by decide) ?_
        refine k_aload_n (pc := 71) dX5_forgetDead_71 rfl ?_
        refine mg_20 hst (pc := 72) dX5_forgetDead_72 ?_
        refine k_iload_n (pc := 75) dX5_forgetDead_75 rfl ?_
        refine k_aload_n (pc := 76) dX5_forgetDead_76 rfl ?_
        refine mg_20 hst (pc := 77) dX5_forgetDead_77 ?_
        refine k_iload_n (pc := 80) dX5_forgetDead_80 rfl ?_
        refine m_iald hst rfl (pc := 81) dX5_forgetDead_81 rfl (by simp only [mln]; omega) (by decide) ?_
        refine m_iast hst rfl (pc := 82) dX5_forgetDead_82 rfl (by simp only [mln]; omega) (by decide) ?_
        refine k_aload_n (pc := 83) dX5_forgetDead_83 rfl ?_
        refine mg_23 hst (pc := 84) dX5_forgetDead_84 ?_
        refine k_iload_n (pc := 87) dX5_forgetDead_87 rfl ?_
        refine k_aload_n (pc := 88) dX5_forgetDead_88 rfl ?_
        refine mg_23 hst (pc := 89) dX5_forgetDead_89 ?_
        refine k_iload_n (pc := 92) dX5_forgetDead_92 rfl ?_
        refine m_zald hst rfl (pc := 93) dX5_forgetDead_93 rfl (by simp only [mln]; omega) (by decide) ?_
        refine m_zast hst rfl (pc := 94) dX5_forgetDead_94 rfl (by simp only [mln]; omega) (by decide) (by simp only [up2_at, c4]; simpa using bI_nar _) ?_
        refine k_aload_n (pc := 95) dX5_forgetDead_95 rfl ?_
        refine mg_27 hst (pc := 96) dX5_forgetDead_96 ?_
        refine k_iload_n (pc := 99) dX5_forgetDead_99 rfl ?_
        refine k_aload_n (pc := 100) dX5_forgetDead_100 rfl ?_
        refine mg_27 hst (pc := 101) dX5_forgetDead_101 ?_
        refine k_iload_n (pc := 104) dX5_forgetDead_104 rfl ?_
        refine m_zald hst rfl (pc := 105) dX5_forgetDead_105 rfl (by simp only [mln]; omega) (by decide) ?_
        refine m_zast hst rfl (pc := 106) dX5_forgetDead_106 rfl (by simp only [mln]; omega) (by decide) (by simp only [up2_at, (ent_k (hf.2.1 i e0 (Nat.le_refl _) he0)).2.2.2.2.2.1]; simpa using bI_nar _) ?_
        refine k_aload_n (pc := 107) dX5_forgetDead_107 rfl ?_
        refine mg_30 hst (pc := 108) dX5_forgetDead_108 ?_
        refine k_iload_n (pc := 111) dX5_forgetDead_111 rfl ?_
        refine k_aload_n (pc := 112) dX5_forgetDead_112 rfl ?_
        refine mg_30 hst (pc := 113) dX5_forgetDead_113 ?_
        refine k_iload_n (pc := 116) dX5_forgetDead_116 rfl ?_
        refine m_iald hst rfl (pc := 117) dX5_forgetDead_117 rfl (by simp only [mln]; omega) (by decide) ?_
        refine m_iast hst rfl (pc := 118) dX5_forgetDead_118 rfl (by simp only [mln]; omega) (by decide) ?_
        refine k_iinc (pc := 119) dX5_forgetDead_119 rfl (nI_inc _) (by decide) rfl ?_
        refine k_iinc (pc := 122) dX5_forgetDead_122 rfl (nI_inc _) (by decide) rfl ?_
        refine k_goto (tgt := 4) (pc := 125) dX5_forgetDead_125 (by decide) ?_
        rw [hk] at hnx
        have step := ih (i + 1) (by omega) _ _ (fd_copy hf he0 hk rfl rfl rfl rfl rfl rfl rfl)
        rw [hnx] at step
        simp only [if_true, List.length_append, List.length_singleton] at step
        simp only [up2_at, show ¬ (2 : Nat) = 1 by decide, show ¬ (3 : Nat) = 1 by decide, show ¬ (3 : Nat) = 2 by decide, show ¬ (4 : Nat) = 1 by decide, show ¬ (4 : Nat) = 2 by decide, show ¬ (4 : Nat) = 3 by decide, show ¬ (5 : Nat) = 1 by decide, show ¬ (5 : Nat) = 2 by decide, show ¬ (5 : Nat) = 3 by decide, show ¬ (5 : Nat) = 4 by decide, show ¬ (6 : Nat) = 1 by decide, show ¬ (6 : Nat) = 2 by decide, show ¬ (6 : Nat) = 3 by decide, show ¬ (6 : Nat) = 4 by decide, show ¬ (6 : Nat) = 5 by decide, false_and, if_false]
        exact step
      have hskip : keepE e0 = false → K p l e s m ([.ref mo] : List Value).toArray below meth c (rmm 0 0 0) yX5_forgetDead.cls cX5_forgetDead 3 (none) G A (MQ below (Qd (none) (MPN G A mo ad sl (forget S) nw) A) ([.ref mo] : List Value).toArray s 0 0 A) 0 0 (MH G A mo ad sl fi ai' al') 122 [some (.ref mo), some (.int (nI (((sL S).take i).filter keepE).length)), some (.int (nI i))] [] := by
        intro hk
        refine k_iinc (pc := 122) dX5_forgetDead_122 rfl (nI_inc _) (by decide) rfl ?_
        refine k_goto (tgt := 4) (pc := 125) dX5_forgetDead_125 (by decide) ?_
        rw [hk] at hnx
        have step := ih (i + 1) (by omega) _ _ (fd_skip hf he0 hk)
        rw [hnx] at step
        simpa using step
      refine k_iload_n (pc := 4) dX5_forgetDead_4 rfl ?_
      refine k_aload_n (pc := 5) dX5_forgetDead_5 rfl ?_
      refine mg_96 hst (pc := 6) dX5_forgetDead_6 ?_
      rw [h.1.1]
      refine k_icmp_ge (tgt := 128) (pc := 9) dX5_forgetDead_9 (by decide) (fun c => absurd c (nI_ge (by omega) (by omega))) (fun _ => ?_)
      have hp40 := (hb e0 (List.mem_of_getElem? he0)).1
      refine k_aload_n (pc := 12) dX5_forgetDead_12 rfl ?_
      refine mg_30 hst (pc := 13) dX5_forgetDead_13 ?_
      refine k_iload_n (pc := 16) dX5_forgetDead_16 rfl ?_
      refine m_iald hst rfl (pc := 17) dX5_forgetDead_17 rfl (by simp only [mln]; omega) (by decide) ?_
      refine k_bipush (v := 9) (pc := 18) dX5_forgetDead_18 (by decide) ?_
      rw [c6]
      refine k_icmp_ne (tgt := 35) (pc := 20) dX5_forgetDead_20 (by decide) (fun h1 => ?_) (fun h1 => ?_)
      · refine hcopy ?_
        have : ¬ e0.2.2.2 / 4 = 9 := fun q => h1 (by rw [q]; rfl)
        simp [keepE, isOut, this]
      · have hout : e0.2.2.2 / 4 = 9 := (nI_eq (by omega) (by decide)).mp (h1.trans (show (9 : Int32) = nI 9 from rfl))
        refine k_aload_n (pc := 23) dX5_forgetDead_23 rfl ?_
        refine mg_23 hst (pc := 24) dX5_forgetDead_24 ?_
        refine k_iload_n (pc := 27) dX5_forgetDead_27 rfl ?_
        refine m_zald hst rfl (pc := 28) dX5_forgetDead_28 rfl (by simp only [mln]; omega) (by decide) ?_
        rw [c4]
        refine k_if_ne (tgt := 35) (pc := 29) dX5_forgetDead_29 (by decide) (fun h2 => ?_) (fun h2 => ?_)
        · refine hcopy ?_
          simp [keepE, bI_t h2]
        · refine k_goto (tgt := 122) (pc := 32) dX5_forgetDead_32 (by decide) ?_
          refine hskip ?_
          simp [keepE, isOut, hout, bI_f h2]
  refine k_iconst (v := 0) (pc := 0) dX5_forgetDead_0 (by decide) ?_
  refine k_istore_n (pc := 1) dX5_forgetDead_1 (by decide) rfl ?_
  refine k_iconst (v := 0) (pc := 2) dX5_forgetDead_2 (by decide) ?_
  refine k_istore_n (pc := 3) dX5_forgetDead_3 (by decide) rfl ?_
  exact loop (sL S).length 0 (by omega) ai al ⟨fun j e he => by simp at he, fun j e _ he => h.1.2.2 j e he, fun _ _ => rfl, fun _ _ => rfl⟩
end REFE
end
section
theorem rep_add {S : SS} {nw : List Ne} {fi : Nat → Int32} {ai : Nat → Nat → Int32} {al : Nat → Nat → Int64} (h : Rep S nw fi ai al) (hl : nw.length < 700) (key : Int64) (w : Nat) (f t : Int32) (b1 b2 : Bool) : Rep S (nw ++ [((key, w, f, t), b1, b2)]) (va_up fi 23 (fi 23 + 1)) (up2 (up2 (up2 (up2 (up2 ai 18 nw.length (nI w)) 19 nw.length f) 20 nw.length t) 21 nw.length (bI b1)) 22 nw.length (bI b2)) (up2 al 17 nw.length key) := by
  obtain ⟨⟨l1, l2, l3⟩, ⟨n1, n2, n3⟩, hP, r1, r2, r3, r4, r5⟩ := h
  refine ⟨⟨?_, l2, ?_⟩, ⟨?_, ?_, ?_⟩, ?_, ?_, ?_, ?_, ?_, ?_⟩
  · simpa [va_up] using l1
  · intro k e he
    simpa [ent, up2_at] using l3 k e he
  · simp [va_up, n1, nI_1]
  · simp; omega
  · intro k e he
    by_cases hk : k < nw.length
    · rw [List.getElem?_append_left hk] at he
      have hk2 : ¬ k = nw.length := by omega
      simpa [nent, up2_at, hk2] using n3 k e he
    · rw [List.getElem?_append_right (by omega)] at he
      have hk2 : k = nw.length := by
        have := (List.getElem?_eq_some_iff.mp he).1
        simp at this
        omega
      subst hk2
      simp at he
      subst he
      simp [nent, nenc, up2_at]
  · intro s hs
    simpa [pent, up2_at] using hP s hs
  · simpa [va_up] using r1
  · simpa [va_up] using r2
  · intro j hj
    simpa [up2_at] using r3 j hj
  · intro j hj
    simpa [up2_at] using r4 j hj
  · simpa [va_up] using r5
theorem plN_take {nw : List Ne} {i : Nat} {e : Ne} (he : nw[i]? = some e) : plN (nw.take (i + 1)) = plN (nw.take i) + plc e.1 := by
  rw [List.take_add_one, he]
  simp [plN]
def pd : Nat → Int32
  | 0 => -1
  | i + 1 => nI i
theorem pd_dec (i : Nat) : pd (i + 1) + Int32.ofInt (-1) = pd i := by
  cases i with
  | zero => rfl
  | succ i => exact pk_m1 i
theorem pd_sub (i : Nat) : nI i - 1 = pd i := by
  cases i with
  | zero => rfl
  | succ i => exact nI_pred i
def fromIx {α : Type} (p : α → Bool) (l : List α) (k : Nat) : Option Nat := ((l.drop k).findIdx? p).map (fun i => k + i)
theorem fromIx_end {α : Type} (p : α → Bool) (l : List α) : fromIx p l l.length = none := by simp [fromIx]
theorem fromIx_0 {α : Type} (p : α → Bool) (l : List α) : fromIx p l 0 = l.findIdx? p := by simp [fromIx]
theorem fromIx_step {α : Type} {p : α → Bool} {l : List α} {i : Nat} {e : α} (he : l[i]? = some e) : fromIx p l i = if p e then some i else fromIx p l (i + 1) := by
  have hi := (List.getElem?_eq_some_iff.mp he)
  obtain ⟨h1, h2⟩ := hi
  unfold fromIx
  rw [List.drop_eq_getElem_cons h1, List.findIdx?_cons, h2]
  by_cases hp : p e = true
  · simp [hp]
  · rw [if_neg hp, if_neg hp, Option.map_map]
    congr 1
    funext x
    show i + (x + 1) = i + 1 + x
    omega
def shA {α : Type} (F : Nat → Nat → α) (lo hi a i : Nat) : Nat → Nat → α := fun q b => if (lo ≤ q ∧ q ≤ hi) ∧ a ≤ b ∧ b < i then F q (b + 1) else F q b
theorem shA_at {α : Type} (F : Nat → Nat → α) (lo hi a i q b : Nat) : shA F lo hi a i q b = if (lo ≤ q ∧ q ≤ hi) ∧ a ≤ b ∧ b < i then F q (b + 1) else F q b := rfl
theorem shA_0 {α : Type} (F : Nat → Nat → α) (lo hi a : Nat) : shA F lo hi a a = F := by
  funext q b
  rw [shA_at, if_neg (by omega)]
theorem shA_rd {α : Type} {F : Nat → Nat → α} {lo hi a i q : Nat} : shA F lo hi a i q (i + 1) = F q (i + 1) := by
  rw [shA_at, if_neg (by omega)]
theorem shA_out {α : Type} {F : Nat → Nat → α} {lo hi a i q : Nat} (h : q < lo ∨ hi < q) : shA F lo hi a i q = F q := by
  funext b
  rw [shA_at, if_neg (by omega)]
theorem shA_in {α : Type} {F : Nat → Nat → α} {lo hi a i q b : Nat} (h : lo ≤ q ∧ q ≤ hi) : shA F lo hi a i q b = if a ≤ b ∧ b < i then F q (b + 1) else F q b := by
  rw [shA_at]
  by_cases h2 : a ≤ b ∧ b < i
  · rw [if_pos ⟨h, h2⟩, if_pos h2]
  · rw [if_neg (fun z => h2 z.2), if_neg h2]
theorem shA_nx {α : Type} {F : Nat → Nat → α} {lo hi a i q b : Nat} (ha : a ≤ i) : shA F lo hi a (i + 1) q b = if (lo ≤ q ∧ q ≤ hi) ∧ b = i then F q (i + 1) else shA F lo hi a i q b := by
  rw [shA_at, shA_at]
  by_cases hb : b = i
  · subst hb
    by_cases hq : lo ≤ q ∧ q ≤ hi
    · rw [if_pos ⟨hq, ha, by omega⟩, if_pos ⟨hq, rfl⟩]
    · rw [if_neg (fun z => hq z.1), if_neg (fun z => hq z.1), if_neg (fun z => hq z.1)]
  · rw [if_neg (c := (lo ≤ q ∧ q ≤ hi) ∧ b = i) (fun z => hb z.2)]
    by_cases hq : (lo ≤ q ∧ q ≤ hi) ∧ a ≤ b ∧ b < i
    · rw [if_pos hq, if_pos ⟨hq.1, hq.2.1, by omega⟩]
    · rw [if_neg hq, if_neg (fun z => hq ⟨z.1, z.2.1, by omega⟩)]
theorem shA_step1 {F : Nat → Nat → Int64} {lo a i : Nat} (ha : a ≤ i) : up2 (shA F lo lo a i) lo i (F lo (i + 1)) = shA F lo lo a (i + 1) := by
  funext q b
  rw [shA_nx ha, up2_at]
  by_cases hq : q = lo ∧ b = i
  · rw [if_pos hq, if_pos ⟨by omega, hq.2⟩, hq.1]
  · rw [if_neg hq, if_neg (fun z => hq ⟨by omega, z.2⟩)]
theorem shA_step5 {F : Nat → Nat → Int32} {a i : Nat} (ha : a ≤ i) : up2 (up2 (up2 (up2 (up2 (shA F 18 22 a i) 18 i (F 18 (i + 1))) 19 i (F 19 (i + 1))) 20 i (F 20 (i + 1))) 21 i (F 21 (i + 1))) 22 i (F 22 (i + 1)) = shA F 18 22 a (i + 1) := by
  funext q b
  rw [shA_nx ha]
  simp only [up2_at]
  by_cases hb : b = i
  · subst hb
    by_cases hq : 18 ≤ q ∧ q ≤ 22
    · rcases (show q = 18 ∨ q = 19 ∨ q = 20 ∨ q = 21 ∨ q = 22 by omega) with rfl | rfl | rfl | rfl | rfl <;> simp
    · simp only [hq, show ¬ q = 18 by omega, show ¬ q = 19 by omega, show ¬ q = 20 by omega, show ¬ q = 21 by omega, show ¬ q = 22 by omega, false_and, if_false]
  · simp only [hb, and_false, if_false]
theorem shA_step4 {F : Nat → Nat → Int32} {a i : Nat} (ha : a ≤ i) : up2 (up2 (up2 (up2 (shA F 12 15 a i) 12 i (F 12 (i + 1))) 13 i (F 13 (i + 1))) 14 i (F 14 (i + 1))) 15 i (F 15 (i + 1)) = shA F 12 15 a (i + 1) := by
  funext q b
  rw [shA_nx ha]
  simp only [up2_at]
  by_cases hb : b = i
  · subst hb
    by_cases hq : 12 ≤ q ∧ q ≤ 15
    · rcases (show q = 12 ∨ q = 13 ∨ q = 14 ∨ q = 15 by omega) with rfl | rfl | rfl | rfl <;> simp
    · simp only [hq, show ¬ q = 12 by omega, show ¬ q = 13 by omega, show ¬ q = 14 by omega, show ¬ q = 15 by omega, false_and, if_false]
  · simp only [hb, and_false, if_false]
theorem erase_at {α : Type} {l : List α} {a k : Nat} (ha : a < l.length) (hk : k < l.length - 1) : (l.eraseIdx a)[k]? = if a ≤ k then l[k + 1]? else l[k]? := by
  rw [List.getElem?_eraseIdx]
  by_cases h : k < a
  · simp [h, show ¬ a ≤ k by omega]
  · simp [h, show a ≤ k by omega]
theorem rep_drop {S : SS} {nw : List Ne} {fi : Nat → Int32} {ai : Nat → Nat → Int32} {al : Nat → Nat → Int64} (h : Rep S nw fi ai al) {a wh : Nat} (ha : a < nw.length) (hw : wh < 12) : Rep (uC S (inc (sC S) wh)) (nw.eraseIdx a) (va_up fi 23 (fi 23 - 1)) (shA (up2 ai 24 wh (ai 24 wh + 1)) 18 22 a (nw.length - 1)) (shA al 17 17 a (nw.length - 1)) := by
  obtain ⟨⟨l1, l2, l3⟩, ⟨n1, n2, n3⟩, hP, r1, r2, r3, r4, r5⟩ := h
  have hle : (nw.eraseIdx a).length = nw.length - 1 := by rw [List.length_eraseIdx]; simp [ha]
  refine ⟨⟨?_, l2, ?_⟩, ⟨?_, ?_, ?_⟩, ?_, ?_, ?_, ?_, ?_, ?_⟩
  · exact l1
  · intro k e he
    have := l3 k e he
    simpa [ent, shA_at, up2_at] using this
  · rw [va_up_self, n1, hle]
    obtain ⟨m, hm⟩ : ∃ m, nw.length = m + 1 := ⟨nw.length - 1, by omega⟩
    rw [hm]
    exact nI_pred m
  · rw [hle]; omega
  · intro k e he
    have hk : k < nw.length - 1 := by rw [← hle]; exact (List.getElem?_eq_some_iff.mp he).1
    rw [erase_at ha hk] at he
    by_cases hak : a ≤ k
    · rw [if_pos hak] at he
      have := n3 (k + 1) e he
      simpa [nent, shA_at, up2_at, hak, hk] using this
    · rw [if_neg hak] at he
      have := n3 k e he
      simpa [nent, shA_at, up2_at, hak] using this
  · intro s hs
    have := hP s hs
    simpa [uC_P, pent, shA_at, up2_at] using this
  · exact r1
  · exact r2
  · intro j hj
    rw [uC_N]
    simpa [shA_at, up2_at] using r3 j hj
  · intro j hj
    rw [uC_C, shA_out (Or.inr (by decide)), up2_at]
    unfold inc va_up
    by_cases hj2 : j = wh
    · simp [hj2, r4 wh hw]
    · simp [hj2, r4 j hj]
  · exact r5
theorem findIdx?_ltl {α : Type} {p : α → Bool} {l : List α} {i : Nat} (h : l.findIdx? p = some i) : i < l.length := by
  obtain ⟨h1, -⟩ := List.findIdx?_eq_some_iff_getElem.mp h
  exact h1
section REFF
variable {p : Program} {l : Launch} {e : Env} {s : State} {m : MethodId} {args : Array Value} {below : List Frame} {meth : Method} {c : Code} {R : Room} {G : Gd} {A : Nat → Prop} {Q : State → Prop} {k n : Nat} {mo : Nat} {ad sl : Nat → Nat} {S : SS} {nw : List Ne}
set_option maxRecDepth 4000 in
theorem c_addNew (hst : MSt mo ad sl) (key : Int64) (w : Nat) (f t : Int32) (b1 b2 : Bool) (hl : nw.length < 700) : Ct 0 0 0 yX5_addNew cX5_addNew 8 (none) G A [.ref mo, .long key, .int (nI w), .int f, .int t, .int (bI b1), .int (bI b2)] (MPN G A mo ad sl S nw) (none) (MPN G A mo ad sl S (nw ++ [((key, w, f, t), b1, b2)])) := by
  refine Ct.of 0 rfl rfl (Nat.le_of_ble_eq_true rfl) ?_
  intro p l e s m below meth c hini
  refine k_open fun fi ai al h => ?_
  have l1 := h.2.1.1
  refine k_aload_n (pc := 0) dX5_addNew_0 rfl ?_
  refine mg_54 hst (pc := 1) dX5_addNew_1 ?_
  refine k_aload_n (pc := 4) dX5_addNew_4 rfl ?_
  refine mg_130 hst (pc := 5) dX5_addNew_5 ?_
  refine k_lload_n (pc := 8) dX5_addNew_8 rfl ?_
  refine m_last hst rfl (pc := 9) dX5_addNew_9 l1 hl (by decide) ?_
  refine k_aload_n (pc := 10) dX5_addNew_10 rfl ?_
  refine mg_57 hst (pc := 11) dX5_addNew_11 ?_
  refine k_aload_n (pc := 14) dX5_addNew_14 rfl ?_
  refine mg_130 hst (pc := 15) dX5_addNew_15 ?_
  refine k_iload_n (pc := 18) dX5_addNew_18 rfl ?_
  refine m_iast hst rfl (pc := 19) dX5_addNew_19 l1 hl (by decide) ?_
  refine k_aload_n (pc := 20) dX5_addNew_20 rfl ?_
  refine mg_60 hst (pc := 21) dX5_addNew_21 ?_
  refine k_aload_n (pc := 24) dX5_addNew_24 rfl ?_
  refine mg_130 hst (pc := 25) dX5_addNew_25 ?_
  refine k_iload (pc := 28) dX5_addNew_28 rfl ?_
  refine m_iast hst rfl (pc := 30) dX5_addNew_30 l1 hl (by decide) ?_
  refine k_aload_n (pc := 31) dX5_addNew_31 rfl ?_
  refine mg_63 hst (pc := 32) dX5_addNew_32 ?_
  refine k_aload_n (pc := 35) dX5_addNew_35 rfl ?_
  refine mg_130 hst (pc := 36) dX5_addNew_36 ?_
  refine k_iload (pc := 39) dX5_addNew_39 rfl ?_
  refine m_iast hst rfl (pc := 41) dX5_addNew_41 l1 hl (by decide) ?_
  refine k_aload_n (pc := 42) dX5_addNew_42 rfl ?_
  refine mg_66 hst (pc := 43) dX5_addNew_43 ?_
  refine k_aload_n (pc := 46) dX5_addNew_46 rfl ?_
  refine mg_130 hst (pc := 47) dX5_addNew_47 ?_
  refine k_iload (pc := 50) dX5_addNew_50 rfl ?_
  refine m_zast hst rfl (pc := 52) dX5_addNew_52 l1 hl (by decide) (bI_nar _) ?_
  refine k_aload_n (pc := 53) dX5_addNew_53 rfl ?_
  refine mg_69 hst (pc := 54) dX5_addNew_54 ?_
  refine k_aload_n (pc := 57) dX5_addNew_57 rfl ?_
  refine mg_130 hst (pc := 58) dX5_addNew_58 ?_
  refine k_iload (pc := 61) dX5_addNew_61 rfl ?_
  refine m_zast hst rfl (pc := 63) dX5_addNew_63 l1 hl (by decide) (bI_nar _) ?_
  refine k_aload_n (pc := 64) dX5_addNew_64 rfl ?_
  refine k_dup (pc := 65) dX5_addNew_65 rfl ?_
  refine mg_130 hst (pc := 66) dX5_addNew_66 ?_
  refine k_iconst (v := 1) (pc := 69) dX5_addNew_69 (by decide) ?_
  refine k_iadd (pc := 70) dX5_addNew_70 ?_
  refine mp_130 hst (pc := 71) dX5_addNew_71 rfl rfl ?_
  exact k_vret (pc := 74) dX5_addNew_74 (MPN.of (rep_add h hl key w f t b1 b2)) (Nat.le_refl _) (Nat.le_refl _)
set_option maxRecDepth 4000 in
theorem c_plN (hst : MSt mo ad sl)  : Ct 0 0 0 yX5_placesOfNew cX5_placesOfNew 3 (some .int) G A [.ref mo] (MPN G A mo ad sl S nw) (some (.int (nI (plN nw)))) (MPN G A mo ad sl S nw) := by
  refine Ct.of 2 rfl rfl (Nat.le_of_ble_eq_true rfl) ?_
  intro p l e s m below meth c hini
  refine k_open fun fi ai al h => ?_
  have hlen := h.2.1.2.1
  have loop : ∀ j i : Nat, i + j = nw.length → K p l e s m ([.ref mo] : List Value).toArray below meth c (rmm 0 0 0) yX5_placesOfNew.cls cX5_placesOfNew 3 (some .int) G A (MQ below (Qd (some (.int (nI (plN nw)))) (MPN G A mo ad sl S nw) A) ([.ref mo] : List Value).toArray s 0 0 A) 0 0 (MH G A mo ad sl fi ai al) 4 [some (.ref mo), some (.int (nI (plN (nw.take i)))), some (.int (nI i))] [] := by
    intro j
    induction j with
    | zero =>
      intro i hi
      have hi6 : i = nw.length := by omega
      subst hi6
      refine k_iload_n (pc := 4) dX5_placesOfNew_4 rfl ?_
      refine k_aload_n (pc := 5) dX5_placesOfNew_5 rfl ?_
      refine mg_130 hst (pc := 6) dX5_placesOfNew_6 ?_
      rw [h.2.1.1]
      refine k_icmp_ge (tgt := 29) (pc := 9) dX5_placesOfNew_9 (by decide) (fun _ => ?_) (fun c => absurd (nI_le (Nat.le_refl _) (by omega)) c)
      rw [List.take_length]
      refine k_iload_n (pc := 29) dX5_placesOfNew_29 rfl ?_
      exact k_iret (pc := 30) dX5_placesOfNew_30 rfl (MPN.of h) (Nat.le_refl _) (Nat.le_refl _)
    | succ j ih =>
      intro i hi
      obtain ⟨e0, he0⟩ : ∃ e0, nw[i]? = some e0 := ⟨nw[i], List.getElem?_eq_getElem (by omega)⟩
      have c18 := (nent_k (h.2.1.2.2 i e0 he0)).2.1
      have step := ih (i + 1) (by omega)
      rw [plN_take he0] at step
      refine k_iload_n (pc := 4) dX5_placesOfNew_4 rfl ?_
      refine k_aload_n (pc := 5) dX5_placesOfNew_5 rfl ?_
      refine mg_130 hst (pc := 6) dX5_placesOfNew_6 ?_
      rw [h.2.1.1]
      refine k_icmp_ge (tgt := 29) (pc := 9) dX5_placesOfNew_9 (by decide) (fun c => absurd c (nI_ge (by omega) (by omega))) (fun _ => ?_)
      refine k_iload_n (pc := 12) dX5_placesOfNew_12 rfl ?_
      refine k_iconst (v := 3) (pc := 13) dX5_placesOfNew_13 (by decide) ?_
      refine k_aload_n (pc := 14) dX5_placesOfNew_14 rfl ?_
      refine mg_57 hst (pc := 15) dX5_placesOfNew_15 ?_
      refine k_iload_n (pc := 18) dX5_placesOfNew_18 rfl ?_
      refine m_iald hst rfl (pc := 19) dX5_placesOfNew_19 rfl (by simp only [mln]; omega) (by decide) ?_
      refine k_iadd (pc := 20) dX5_placesOfNew_20 ?_
      refine k_iadd (pc := 21) dX5_placesOfNew_21 ?_
      refine k_istore_n (pc := 22) dX5_placesOfNew_22 (by decide) rfl ?_
      refine k_iinc (pc := 23) dX5_placesOfNew_23 rfl (nI_inc _) (by decide) rfl ?_
      refine k_goto (tgt := 4) (pc := 26) dX5_placesOfNew_26 (by decide) ?_
      rw [c18, show (3 : Int32) = nI 3 from rfl, nI_add, nI_add]
      exact step
  refine k_iconst (v := 0) (pc := 0) dX5_placesOfNew_0 (by decide) ?_
  refine k_istore_n (pc := 1) dX5_placesOfNew_1 (by decide) rfl ?_
  refine k_iconst (v := 0) (pc := 2) dX5_placesOfNew_2 (by decide) ?_
  refine k_istore_n (pc := 3) dX5_placesOfNew_3 (by decide) rfl ?_
  exact loop nw.length 0 (by omega)
theorem w_shift (hst : MSt mo ad sl) {fi : Nat → Int32} {ai : Nat → Nat → Int32} {al : Nat → Nat → Int64} {x1 x2 : Int32} {a N : Nat} (hN : fi 23 = nI N) (hN2 : N < 700) (kk : K p l e s m args below meth c R RX5 cX5_dropOne 5 (none) G A Q k n (MH G A mo ad sl fi (shA ai 18 22 a N) (shA al 17 17 a N)) 231 [some (.ref mo), none, none, none, none] []) (hz : ∀ b, b ≤ N → ∃ z, ai 21 b = bI z) (hz2 : ∀ b, b ≤ N → ∃ z, ai 22 b = bI z) : ∀ j i : Nat, i + j = N → a ≤ i → K p l e s m args below meth c R RX5 cX5_dropOne 5 (none) G A Q k n (MH G A mo ad sl fi (shA ai 18 22 a i) (shA al 17 17 a i)) 120 [some (.ref mo), some (.int x1), some (.int x2), some (.int (nI a)), some (.int (nI i))] [] := by
  intro j
  induction j with
  | zero =>
    intro i hi ha
    have hi6 : i = N := by omega
    subst hi6
    refine k_iload (pc := 120) dX5_dropOne_120 rfl ?_
    refine k_aload_n (pc := 122) dX5_dropOne_122 rfl ?_
    refine mg_130 hst (pc := 123) dX5_dropOne_123 ?_
    rw [hN]
    refine k_icmp_ge (tgt := 231) (pc := 126) dX5_dropOne_126 (by decide) (fun _ => ?_) (fun c => absurd (nI_le (Nat.le_refl _) (by omega)) c)
    exact k_lv (fun i v h => by match i, h with | 0, h => exact h | 1, h => cases h | 2, h => cases h | 3, h => cases h | 4, h => cases h | i + 5, h => cases h) kk
  | succ j ih =>
    intro i hi ha
    have step := ih (i + 1) (by omega) (by omega)
    obtain ⟨z1, hz1⟩ := hz (i + 1) (by omega)
    obtain ⟨z2, hz2⟩ := hz2 (i + 1) (by omega)
    rw [← shA_step5 ha, ← shA_step1 ha] at step
    refine k_iload (pc := 120) dX5_dropOne_120 rfl ?_
    refine k_aload_n (pc := 122) dX5_dropOne_122 rfl ?_
    refine mg_130 hst (pc := 123) dX5_dropOne_123 ?_
    rw [hN]
    refine k_icmp_ge (tgt := 231) (pc := 126) dX5_dropOne_126 (by decide) (fun c => absurd c (nI_ge (by omega) (by omega))) (fun _ => ?_)
    refine k_aload_n (pc := 129) dX5_dropOne_129 rfl ?_
    refine mg_54 hst (pc := 130) dX5_dropOne_130 ?_
    refine k_iload (pc := 133) dX5_dropOne_133 rfl ?_
    refine k_aload_n (pc := 135) dX5_dropOne_135 rfl ?_
    refine mg_54 hst (pc := 136) dX5_dropOne_136 ?_
    refine k_iload (pc := 139) dX5_dropOne_139 rfl ?_
    refine k_iconst (v := 1) (pc := 141) dX5_dropOne_141 (by decide) ?_
    refine k_iadd (pc := 142) dX5_dropOne_142 ?_
    refine m_lald hst rfl (pc := 143) dX5_dropOne_143 (nI_1 i) (by simp only [mln]; omega) (by decide) ?_
    refine m_last hst rfl (pc := 144) dX5_dropOne_144 rfl (by simp only [mln]; omega) (by decide) ?_
    refine k_aload_n (pc := 145) dX5_dropOne_145 rfl ?_
    refine mg_57 hst (pc := 146) dX5_dropOne_146 ?_
    refine k_iload (pc := 149) dX5_dropOne_149 rfl ?_
    refine k_aload_n (pc := 151) dX5_dropOne_151 rfl ?_
    refine mg_57 hst (pc := 152) dX5_dropOne_152 ?_
    refine k_iload (pc := 155) dX5_dropOne_155 rfl ?_
    refine k_iconst (v := 1) (pc := 157) dX5_dropOne_157 (by decide) ?_
    refine k_iadd (pc := 158) dX5_dropOne_158 ?_
    refine m_iald hst rfl (pc := 159) dX5_dropOne_159 (nI_1 i) (by simp only [mln]; omega) (by decide) ?_
    refine m_iast hst rfl (pc := 160) dX5_dropOne_160 rfl (by simp only [mln]; omega) (by decide) ?_
    refine k_aload_n (pc := 161) dX5_dropOne_161 rfl ?_
    refine mg_60 hst (pc := 162) dX5_dropOne_162 ?_
    refine k_iload (pc := 165) dX5_dropOne_165 rfl ?_
    refine k_aload_n (pc := 167) dX5_dropOne_167 rfl ?_
    refine mg_60 hst (pc := 168) dX5_dropOne_168 ?_
    refine k_iload (pc := 171) dX5_dropOne_171 rfl ?_
    refine k_iconst (v := 1) (pc := 173) dX5_dropOne_173 (by decide) ?_
    refine k_iadd (pc := 174) dX5_dropOne_174 ?_
    refine m_iald hst rfl (pc := 175) dX5_dropOne_175 (nI_1 i) (by simp only [mln]; omega) (by decide) ?_
    refine m_iast hst rfl (pc := 176) dX5_dropOne_176 rfl (by simp only [mln]; omega) (by decide) ?_
    refine k_aload_n (pc := 177) dX5_dropOne_177 rfl ?_
    refine mg_63 hst (pc := 178) dX5_dropOne_178 ?_
    refine k_iload (pc := 181) dX5_dropOne_181 rfl ?_
    refine k_aload_n (pc := 183) dX5_dropOne_183 rfl ?_
    refine mg_63 hst (pc := 184) dX5_dropOne_184 ?_
    refine k_iload (pc := 187) dX5_dropOne_187 rfl ?_
    refine k_iconst (v := 1) (pc := 189) dX5_dropOne_189 (by decide) ?_
    refine k_iadd (pc := 190) dX5_dropOne_190 ?_
    refine m_iald hst rfl (pc := 191) dX5_dropOne_191 (nI_1 i) (by simp only [mln]; omega) (by decide) ?_
    refine m_iast hst rfl (pc := 192) dX5_dropOne_192 rfl (by simp only [mln]; omega) (by decide) ?_
    refine k_aload_n (pc := 193) dX5_dropOne_193 rfl ?_
    refine mg_66 hst (pc := 194) dX5_dropOne_194 ?_
    refine k_iload (pc := 197) dX5_dropOne_197 rfl ?_
    refine k_aload_n (pc := 199) dX5_dropOne_199 rfl ?_
    refine mg_66 hst (pc := 200) dX5_dropOne_200 ?_
    refine k_iload (pc := 203) dX5_dropOne_203 rfl ?_
    refine k_iconst (v := 1) (pc := 205) dX5_dropOne_205 (by decide) ?_
    refine k_iadd (pc := 206) dX5_dropOne_206 ?_
    refine m_zald hst rfl (pc := 207) dX5_dropOne_207 (nI_1 i) (by simp only [mln]; omega) (by decide) ?_
    refine m_zast hst rfl (pc := 208) dX5_dropOne_208 rfl (by simp only [mln]; omega) (by decide) (by simp only [up2_at, shA_rd, hz1]; simpa using bI_nar _) ?_
    refine k_aload_n (pc := 209) dX5_dropOne_209 rfl ?_
    refine mg_69 hst (pc := 210) dX5_dropOne_210 ?_
    refine k_iload (pc := 213) dX5_dropOne_213 rfl ?_
    refine k_aload_n (pc := 215) dX5_dropOne_215 rfl ?_
    refine mg_69 hst (pc := 216) dX5_dropOne_216 ?_
    refine k_iload (pc := 219) dX5_dropOne_219 rfl ?_
    refine k_iconst (v := 1) (pc := 221) dX5_dropOne_221 (by decide) ?_
    refine k_iadd (pc := 222) dX5_dropOne_222 ?_
    refine m_zald hst rfl (pc := 223) dX5_dropOne_223 (nI_1 i) (by simp only [mln]; omega) (by decide) ?_
    refine m_zast hst rfl (pc := 224) dX5_dropOne_224 rfl (by simp only [mln]; omega) (by decide) (by simp only [up2_at, shA_rd, hz2]; simpa using bI_nar _) ?_
    refine k_iinc (pc := 225) dX5_dropOne_225 rfl (nI_inc _) (by decide) rfl ?_
    refine k_goto (tgt := 120) (pc := 228) dX5_dropOne_228 (by decide) ?_
    simp only [up2_at, shA_rd, show ¬ (19 : Nat) = 18 by decide, show ¬ (20 : Nat) = 18 by decide, show ¬ (20 : Nat) = 19 by decide, show ¬ (21 : Nat) = 18 by decide, show ¬ (21 : Nat) = 19 by decide, show ¬ (21 : Nat) = 20 by decide, show ¬ (22 : Nat) = 18 by decide, show ¬ (22 : Nat) = 19 by decide, show ¬ (22 : Nat) = 20 by decide, show ¬ (22 : Nat) = 21 by decide, false_and, if_false]
    exact step
end REFF
end
section
theorem oI_some_lt {k : Nat} (h : k < 2 ^ 31) : ¬ oI (some k) < 0 := nI_pos h
theorem rep_wp {S : SS} {nw : List Ne} {fi : Nat → Int32} {ai ai' : Nat → Nat → Int32} {al al' : Nat → Nat → Int64} {s0 : Nat} (h : Rep S nw fi ai al) (hs : s0 < 64) (h8 : nw.length ≤ 8)
    (hk : ∀ k (e : Ne), nw[k]? = some e → pent ai' al' (8 * s0 + k) = penc (e.1, false)) (ho : ∀ p, (p < 8 * s0 ∨ 8 * s0 + 8 ≤ p) → pent ai' al' p = pent ai al p) (hq : ∀ q, q < 12 ∨ 15 < q → ai' q = ai q) (hq2 : ∀ q, q ≠ 11 → al' q = al q) :
    Rep (uP S (va_up (sP S) s0 (nw.map (fun e => (e.1, false))))) nw fi (up2 ai' 16 s0 (fi 23)) al' := by
  obtain ⟨⟨l1, l2, l3⟩, ⟨n1, n2, n3⟩, hP, r1, r2, r3, r4, r5⟩ := h
  refine ⟨⟨l1, l2, ?_⟩, ⟨n1, n2, ?_⟩, ?_, r1, r2, ?_, ?_, r5⟩
  · intro k e he
    have := l3 k e he
    simpa [ent, up2_at, hq 1 (by decide), hq 2 (by decide), hq 3 (by decide), hq 4 (by decide), hq 5 (by decide), hq 6 (by decide), hq2 0 (by decide)] using this
  · intro k e he
    have := n3 k e he
    simpa [nent, up2_at, hq 18 (by decide), hq 19 (by decide), hq 20 (by decide), hq 21 (by decide), hq 22 (by decide), hq2 17 (by decide)] using this
  · intro s hs2
    rw [uP_P]
    by_cases hss : s = s0
    · subst hss
      rw [va_up_self]
      refine ⟨by simp [up2_at, n1], by simpa using h8, fun k e he => ?_⟩
      simp only [List.getElem?_map, Option.map_eq_some_iff] at he
      obtain ⟨e0, he0, rfl⟩ := he
      have := hk k e0 he0
      simpa [pent, up2_at] using this
    · rw [va_up_ne _ _ hss]
      obtain ⟨p1, p2, p3⟩ := hP s hs2
      refine ⟨by simp [up2_at, hss, hq 16 (by decide), p1], p2, fun k e he => ?_⟩
      have hk8 : k < 8 := Nat.lt_of_lt_of_le (List.getElem?_eq_some_iff.mp he).1 p2
      have h1 := ho (8 * s + k) (by omega)
      have h2 := p3 k e he
      rw [← h1] at h2
      simpa [pent, up2_at] using h2
  · intro j hj
    simp only [up2_at, hq 8 (by decide), show ¬ (8 : Nat) = 16 by decide, false_and, if_false]
    exact r3 j hj
  · intro j hj
    simp only [up2_at, hq 24 (by decide), show ¬ (24 : Nat) = 16 by decide, false_and, if_false]
    exact r4 j hj
/-- writePage in its midst -/
def WpI (nw : List Ne) (s0 : Nat) (ai ai' : Nat → Nat → Int32) (al al' : Nat → Nat → Int64) (i : Nat) : Prop := (∀ k (e : Ne), k < i → nw[k]? = some e → pent ai' al' (8 * s0 + k) = penc (e.1, false)) ∧ (∀ p, (p < 8 * s0 ∨ 8 * s0 + 8 ≤ p) → pent ai' al' p = pent ai al p) ∧ (∀ q, q < 12 ∨ 15 < q → ai' q = ai q) ∧ (∀ q, q ≠ 11 → al' q = al q)
theorem wp_step {nw : List Ne} {s0 : Nat} {ai ai' : Nat → Nat → Int32} {al al' : Nat → Nat → Int64} {i : Nat} {e : Ne} (h : WpI nw s0 ai ai' al al' i) (hi : i < 8) (he : nw[i]? = some e) (hn : nent ai al i = nenc e) {x0 : Int64} {x1 x2 x3 : Int32} (h0 : x0 = al' 17 i) (h1 : x1 = ai' 18 i) (h2 : x2 = ai' 19 i) (h3 : x3 = ai' 20 i) : WpI nw s0 ai (up2 (up2 (up2 (up2 ai' 12 (8 * s0 + i) x1) 13 (8 * s0 + i) x2) 14 (8 * s0 + i) x3) 15 (8 * s0 + i) 0) al (up2 al' 11 (8 * s0 + i) x0) (i + 1) := by
  obtain ⟨a1, a2, a3, a4⟩ := h
  obtain ⟨c0, c1, c2, c3, -⟩ := nent_k hn
  rw [a4 17 (by decide), c0] at h0
  rw [a3 18 (by decide), c1] at h1
  rw [a3 19 (by decide), c2] at h2
  rw [a3 20 (by decide), c3] at h3
  refine ⟨fun k e' hk hk2 => ?_, fun p hp => ?_, fun q hq => ?_, fun q hq => ?_⟩
  · by_cases hki : k = i
    · subst hki
      cases he.symm.trans hk2
      simp [pent, penc, up2_at, bI, h0, h1, h2, h3]
    · have := a1 k e' (by omega) hk2
      simpa [pent, up2_at, show ¬ k = i from hki] using this
  · have := a2 p hp
    have hne : ¬ p = 8 * s0 + i := by omega
    simpa [pent, up2_at, hne] using this
  · rw [← a3 q hq]
    funext b
    simp [up2_at, show ¬ q = 12 by omega, show ¬ q = 13 by omega, show ¬ q = 14 by omega, show ¬ q = 15 by omega]
  · rw [← a4 q hq]
    funext b
    simp [up2_at, hq]
section REFG
variable {p : Program} {l : Launch} {e : Env} {s : State} {m : MethodId} {args : Array Value} {below : List Frame} {meth : Method} {c : Code} {R : Room} {G : Gd} {A : Nat → Prop} {Q : State → Prop} {k n : Nat} {mo : Nat} {ad sl : Nat → Nat} {S : SS} {nw : List Ne}
set_option maxRecDepth 4000 in
theorem c_dropOne (hst : MSt mo ad sl) (hne : 0 < nw.length) : Ct 0 0 0 yX5_dropOne cX5_dropOne 5 (none) G A [.ref mo] (MPN G A mo ad sl S nw) (none) (MPN G A mo ad sl (uC S (dropS nw (sC S)).2) (dropS nw (sC S)).1) := by
  refine Ct.of 4 rfl rfl (Nat.le_of_ble_eq_true rfl) ?_
  intro p l e s m below meth c hini
  refine k_open fun fi ai al h => ?_
  have n1 := h.2.1.1
  have n2 := h.2.1.2.1
  have n3 := h.2.1.2.2
  have tail : ∀ (x1 x2 w32 : Int32) (a wh : Nat), a < nw.length → wh < 12 → w32 = nI wh → dropS nw (sC S) = (nw.eraseIdx a, inc (sC S) wh) → K p l e s m ([.ref mo] : List Value).toArray below meth c (rmm 0 0 0) yX5_dropOne.cls cX5_dropOne 5 (none) G A (MQ below (Qd (none) (MPN G A mo ad sl (uC S (dropS nw (sC S)).2) (dropS nw (sC S)).1) A) ([.ref mo] : List Value).toArray s 0 0 A) 0 0 (MH G A mo ad sl fi ai al) 102 [some (.ref mo), some (.int x1), some (.int x2), some (.int (nI a)), none] [.int w32, .ref (ad 24)] := by
    intro x1 x2 w32 a wh ha hw hw2 hd
    have hR := rep_drop h ha hw
    rw [hd]
    refine k_dup2 (pc := 102) dX5_dropOne_102 rfl rfl ?_
    refine m_iald hst rfl (pc := 103) dX5_dropOne_103 hw2 (by simpa [mln] using hw) (by decide) ?_
    refine k_iconst (v := 1) (pc := 104) dX5_dropOne_104 (by decide) ?_
    refine k_iadd (pc := 105) dX5_dropOne_105 ?_
    refine m_iast hst rfl (pc := 106) dX5_dropOne_106 hw2 (by simpa [mln] using hw) (by decide) ?_
    refine k_aload_n (pc := 107) dX5_dropOne_107 rfl ?_
    refine k_dup (pc := 108) dX5_dropOne_108 rfl ?_
    refine mg_130 hst (pc := 109) dX5_dropOne_109 ?_
    refine k_iconst (v := 1) (pc := 112) dX5_dropOne_112 (by decide) ?_
    refine k_isub (pc := 113) dX5_dropOne_113 ?_
    refine mp_130 hst (pc := 114) dX5_dropOne_114 rfl rfl ?_
    refine k_iload_n (pc := 117) dX5_dropOne_117 rfl ?_
    refine k_istore (pc := 118) dX5_dropOne_118 (by decide) rfl ?_
    have hsh := w_shift (p := p) (l := l) (e := e) (s := s) (m := m) (args := ([.ref mo] : List Value).toArray) (below := below) (meth := meth) (c := c) (R := rmm 0 0 0) (G := G) (A := A) (Q := MQ below (Qd none (MPN G A mo ad sl (uC S (inc (sC S) wh)) (nw.eraseIdx a)) A) ([.ref mo] : List Value).toArray s 0 0 A) (k := 0) (n := 0) hst (fi := va_up fi 23 (fi 23 - 1)) (ai := up2 ai 24 wh (ai 24 wh + 1)) (al := al) (x1 := x1) (x2 := x2) (a := a) (N := nw.length - 1) (by
      rw [va_up_self, n1]
      obtain ⟨m, hm⟩ : ∃ m, nw.length = m + 1 := ⟨nw.length - 1, by omega⟩
      rw [hm]
      exact nI_pred m) (by omega) (by
      exact k_vret (pc := 231) dX5_dropOne_231 (MPN.of hR) (Nat.le_refl _) (Nat.le_refl _)
      ) (fun b hb => by
        have := (nent_k (n3 b nw[b] (List.getElem?_eq_getElem (by omega)))).2.2.2.2.1
        exact ⟨_, by simpa [up2_at] using this⟩) (fun b hb => by
        have := (nent_k (n3 b nw[b] (List.getElem?_eq_getElem (by omega)))).2.2.2.2.2
        exact ⟨_, by simpa [up2_at] using this⟩) (nw.length - 1 - a) a (by omega) (Nat.le_refl _)
    rw [shA_0, shA_0] at hsh
    exact hsh
  have fin : K p l e s m ([.ref mo] : List Value).toArray below meth c (rmm 0 0 0) yX5_dropOne.cls cX5_dropOne 5 (none) G A (MQ below (Qd (none) (MPN G A mo ad sl (uC S (dropS nw (sC S)).2) (dropS nw (sC S)).1) A) ([.ref mo] : List Value).toArray s 0 0 A) 0 0 (MH G A mo ad sl fi ai al) 60 [some (.ref mo), some (.int (oI (nw.findIdx? (fun e => e.2.2 && !e.2.1)))), some (.int (oI (nw.findIdx? (fun e => e.2.2)))), none, none] [] := by
    cases h1 : nw.findIdx? (fun e => e.2.2 && !e.2.1) with
    | some a =>
      have ha := findIdx?_ltl h1
      have hd : dropS nw (sC S) = (nw.eraseIdx a, inc (sC S) 6) := by simp only [dropS, h1]
      refine k_iload_n (pc := 60) dX5_dropOne_60 rfl ?_
      refine k_if_lt (tgt := 68) (pc := 61) dX5_dropOne_61 (by decide) (fun c => absurd c ((oI_some_lt (k := a) (by omega)))) (fun _ => ?_)
      refine k_iload_n (pc := 64) dX5_dropOne_64 rfl ?_
      refine k_goto (tgt := 77) (pc := 65) dX5_dropOne_65 (by decide) ?_
      refine k_istore_n (pc := 77) dX5_dropOne_77 (by decide) rfl ?_
      refine k_aload_n (pc := 78) dX5_dropOne_78 rfl ?_
      refine mg_72 hst (pc := 79) dX5_dropOne_79 ?_
      refine k_iload_n (pc := 82) dX5_dropOne_82 rfl ?_
      refine k_if_lt (tgt := 91) (pc := 83) dX5_dropOne_83 (by decide) (fun c => absurd c ((oI_some_lt (k := a) (by omega)))) (fun _ => ?_)
      refine k_bipush (v := 6) (pc := 86) dX5_dropOne_86 (by decide) ?_
      refine k_goto (tgt := 102) (pc := 88) dX5_dropOne_88 (by decide) ?_
      exact tail _ _ _ a 6 ha (by decide) rfl hd
    | none =>
      cases h2 : nw.findIdx? (fun e => e.2.2) with
      | some a =>
        have ha := findIdx?_ltl h2
        have hd : dropS nw (sC S) = (nw.eraseIdx a, inc (sC S) 7) := by simp only [dropS, h1, h2]
        refine k_iload_n (pc := 60) dX5_dropOne_60 rfl ?_
        refine k_if_lt (tgt := 68) (pc := 61) dX5_dropOne_61 (by decide) (fun _ => ?_) (fun c => absurd ((show oI none < 0 by decide)) c)
        refine k_iload_n (pc := 68) dX5_dropOne_68 rfl ?_
        refine k_if_lt (tgt := 76) (pc := 69) dX5_dropOne_69 (by decide) (fun c => absurd c ((oI_some_lt (k := a) (by omega)))) (fun _ => ?_)
        refine k_iload_n (pc := 72) dX5_dropOne_72 rfl ?_
        refine k_goto (tgt := 77) (pc := 73) dX5_dropOne_73 (by decide) ?_
        refine k_istore_n (pc := 77) dX5_dropOne_77 (by decide) rfl ?_
        refine k_aload_n (pc := 78) dX5_dropOne_78 rfl ?_
        refine mg_72 hst (pc := 79) dX5_dropOne_79 ?_
        refine k_iload_n (pc := 82) dX5_dropOne_82 rfl ?_
        refine k_if_lt (tgt := 91) (pc := 83) dX5_dropOne_83 (by decide) (fun _ => ?_) (fun c => absurd ((show oI none < 0 by decide)) c)
        refine k_iload_n (pc := 91) dX5_dropOne_91 rfl ?_
        refine k_if_lt (tgt := 100) (pc := 92) dX5_dropOne_92 (by decide) (fun c => absurd c ((oI_some_lt (k := a) (by omega)))) (fun _ => ?_)
        refine k_bipush (v := 7) (pc := 95) dX5_dropOne_95 (by decide) ?_
        refine k_goto (tgt := 102) (pc := 97) dX5_dropOne_97 (by decide) ?_
        exact tail _ _ _ a 7 ha (by decide) rfl hd
      | none =>
        have hd : dropS nw (sC S) = (nw.eraseIdx 0, inc (sC S) 8) := by simp only [dropS, h1, h2]
        refine k_iload_n (pc := 60) dX5_dropOne_60 rfl ?_
        refine k_if_lt (tgt := 68) (pc := 61) dX5_dropOne_61 (by decide) (fun _ => ?_) (fun c => absurd ((show oI none < 0 by decide)) c)
        refine k_iload_n (pc := 68) dX5_dropOne_68 rfl ?_
        refine k_if_lt (tgt := 76) (pc := 69) dX5_dropOne_69 (by decide) (fun _ => ?_) (fun c => absurd ((show oI none < 0 by decide)) c)
        refine k_iconst (v := 0) (pc := 76) dX5_dropOne_76 (by decide) ?_
        refine k_istore_n (pc := 77) dX5_dropOne_77 (by decide) rfl ?_
        refine k_aload_n (pc := 78) dX5_dropOne_78 rfl ?_
        refine mg_72 hst (pc := 79) dX5_dropOne_79 ?_
        refine k_iload_n (pc := 82) dX5_dropOne_82 rfl ?_
        refine k_if_lt (tgt := 91) (pc := 83) dX5_dropOne_83 (by decide) (fun _ => ?_) (fun c => absurd ((show oI none < 0 by decide)) c)
        refine k_iload_n (pc := 91) dX5_dropOne_91 rfl ?_
        refine k_if_lt (tgt := 100) (pc := 92) dX5_dropOne_92 (by decide) (fun _ => ?_) (fun c => absurd ((show oI none < 0 by decide)) c)
        refine k_bipush (v := 8) (pc := 100) dX5_dropOne_100 (by decide) ?_
        exact tail _ _ _ 0 8 hne (by decide) rfl hd
  have loop : ∀ i : Nat, i ≤ nw.length → K p l e s m ([.ref mo] : List Value).toArray below meth c (rmm 0 0 0) yX5_dropOne.cls cX5_dropOne 5 (none) G A (MQ below (Qd (none) (MPN G A mo ad sl (uC S (dropS nw (sC S)).2) (dropS nw (sC S)).1) A) ([.ref mo] : List Value).toArray s 0 0 A) 0 0 (MH G A mo ad sl fi ai al) 11 [some (.ref mo), some (.int (oI (fromIx (fun e => e.2.2 && !e.2.1) nw i))), some (.int (oI (fromIx (fun e => e.2.2) nw i))), some (.int (pd i)), none] [] := by
    intro i
    induction i with
    | zero =>
      intro _
      refine k_iload_n (pc := 11) dX5_dropOne_11 rfl ?_
      refine k_if_lt (tgt := 60) (pc := 12) dX5_dropOne_12 (by decide) (fun _ => ?_) (fun c => absurd ((show pd 0 < 0 by decide)) c)
      rw [fromIx_0, fromIx_0]
      exact k_lv (fun i v h => by match i, h with | 0, h => exact h | 1, h => exact h | 2, h => exact h | 3, h => cases h | 4, h => cases h | i + 5, h => cases h) fin
    | succ i ih =>
      intro hi
      have step := ih (by omega)
      obtain ⟨e0, he0⟩ : ∃ e0, nw[i]? = some e0 := ⟨nw[i], List.getElem?_eq_getElem (by omega)⟩
      obtain ⟨-, -, -, -, c21, c22⟩ := nent_k (n3 i e0 he0)
      rw [fromIx_step he0, fromIx_step he0] at step
      refine k_iload_n (pc := 11) dX5_dropOne_11 rfl ?_
      refine k_if_lt (tgt := 60) (pc := 12) dX5_dropOne_12 (by decide) (fun c => absurd c ((show ¬ pd (i + 1) < 0 from nI_pos (by omega)))) (fun _ => ?_)
      refine k_aload_n (pc := 15) dX5_dropOne_15 rfl ?_
      refine mg_69 hst (pc := 16) dX5_dropOne_16 ?_
      refine k_iload_n (pc := 19) dX5_dropOne_19 rfl ?_
      refine m_zald hst rfl (pc := 20) dX5_dropOne_20 (show pd (i + 1) = nI i from rfl) (by simp only [mln]; omega) (by decide) ?_
      rw [c22]
      refine k_if_eq (tgt := 37) (pc := 21) dX5_dropOne_21 (by decide) (fun h1 => ?_) (fun h1 => ?_)
      · have hb := bI_f h1
        simp only [hb, Bool.false_and] at step
        refine k_iload_n (pc := 37) dX5_dropOne_37 rfl ?_
        refine k_istore_n (pc := 38) dX5_dropOne_38 (by decide) rfl ?_
        refine k_aload_n (pc := 39) dX5_dropOne_39 rfl ?_
        refine mg_69 hst (pc := 40) dX5_dropOne_40 ?_
        refine k_iload_n (pc := 43) dX5_dropOne_43 rfl ?_
        refine m_zald hst rfl (pc := 44) dX5_dropOne_44 (show pd (i + 1) = nI i from rfl) (by simp only [mln]; omega) (by decide) ?_
        rw [c22]
        refine k_if_eq (tgt := 52) (pc := 45) dX5_dropOne_45 (by decide) (fun _ => ?_) (fun c => absurd (h1) c)
        refine k_iload_n (pc := 52) dX5_dropOne_52 rfl ?_
        refine k_istore_n (pc := 53) dX5_dropOne_53 (by decide) rfl ?_
        refine k_iinc (pc := 54) dX5_dropOne_54 rfl (pd_dec i) (by decide) rfl ?_
        refine k_goto (tgt := 11) (pc := 57) dX5_dropOne_57 (by decide) ?_
        exact step
      · have hb := bI_t h1
        simp only [hb, Bool.true_and] at step
        refine k_aload_n (pc := 24) dX5_dropOne_24 rfl ?_
        refine mg_66 hst (pc := 25) dX5_dropOne_25 ?_
        refine k_iload_n (pc := 28) dX5_dropOne_28 rfl ?_
        refine m_zald hst rfl (pc := 29) dX5_dropOne_29 (show pd (i + 1) = nI i from rfl) (by simp only [mln]; omega) (by decide) ?_
        rw [c21]
        refine k_if_ne (tgt := 37) (pc := 30) dX5_dropOne_30 (by decide) (fun h2 => ?_) (fun h2 => ?_)
        · have hb2 := bI_t h2
          simp only [hb2, Bool.not_true] at step
          refine k_iload_n (pc := 37) dX5_dropOne_37 rfl ?_
          refine k_istore_n (pc := 38) dX5_dropOne_38 (by decide) rfl ?_
          refine k_aload_n (pc := 39) dX5_dropOne_39 rfl ?_
          refine mg_69 hst (pc := 40) dX5_dropOne_40 ?_
          refine k_iload_n (pc := 43) dX5_dropOne_43 rfl ?_
          refine m_zald hst rfl (pc := 44) dX5_dropOne_44 (show pd (i + 1) = nI i from rfl) (by simp only [mln]; omega) (by decide) ?_
          rw [c22]
          refine k_if_eq (tgt := 52) (pc := 45) dX5_dropOne_45 (by decide) (fun c => absurd c (h1)) (fun _ => ?_)
          refine k_iload_n (pc := 48) dX5_dropOne_48 rfl ?_
          refine k_goto (tgt := 53) (pc := 49) dX5_dropOne_49 (by decide) ?_
          refine k_istore_n (pc := 53) dX5_dropOne_53 (by decide) rfl ?_
          refine k_iinc (pc := 54) dX5_dropOne_54 rfl (pd_dec i) (by decide) rfl ?_
          refine k_goto (tgt := 11) (pc := 57) dX5_dropOne_57 (by decide) ?_
          exact step
        · have hb2 := bI_f h2
          simp only [hb2, Bool.not_false] at step
          refine k_iload_n (pc := 33) dX5_dropOne_33 rfl ?_
          refine k_goto (tgt := 38) (pc := 34) dX5_dropOne_34 (by decide) ?_
          refine k_istore_n (pc := 38) dX5_dropOne_38 (by decide) rfl ?_
          refine k_aload_n (pc := 39) dX5_dropOne_39 rfl ?_
          refine mg_69 hst (pc := 40) dX5_dropOne_40 ?_
          refine k_iload_n (pc := 43) dX5_dropOne_43 rfl ?_
          refine m_zald hst rfl (pc := 44) dX5_dropOne_44 (show pd (i + 1) = nI i from rfl) (by simp only [mln]; omega) (by decide) ?_
          rw [c22]
          refine k_if_eq (tgt := 52) (pc := 45) dX5_dropOne_45 (by decide) (fun c => absurd c (h1)) (fun _ => ?_)
          refine k_iload_n (pc := 48) dX5_dropOne_48 rfl ?_
          refine k_goto (tgt := 53) (pc := 49) dX5_dropOne_49 (by decide) ?_
          refine k_istore_n (pc := 53) dX5_dropOne_53 (by decide) rfl ?_
          refine k_iinc (pc := 54) dX5_dropOne_54 rfl (pd_dec i) (by decide) rfl ?_
          refine k_goto (tgt := 11) (pc := 57) dX5_dropOne_57 (by decide) ?_
          exact step
  have l0 := loop nw.length (Nat.le_refl _)
  rw [fromIx_end, fromIx_end, ← pd_sub] at l0
  refine k_iconst (v := -1) (pc := 0) dX5_dropOne_0 (by decide) ?_
  refine k_istore_n (pc := 1) dX5_dropOne_1 (by decide) rfl ?_
  refine k_iconst (v := -1) (pc := 2) dX5_dropOne_2 (by decide) ?_
  refine k_istore_n (pc := 3) dX5_dropOne_3 (by decide) rfl ?_
  refine k_aload_n (pc := 4) dX5_dropOne_4 rfl ?_
  refine mg_130 hst (pc := 5) dX5_dropOne_5 ?_
  refine k_iconst (v := 1) (pc := 8) dX5_dropOne_8 (by decide) ?_
  refine k_isub (pc := 9) dX5_dropOne_9 ?_
  refine k_istore_n (pc := 10) dX5_dropOne_10 (by decide) rfl ?_
  rw [n1]
  exact l0
set_option maxRecDepth 4000 in
theorem c_writePage (hst : MSt mo ad sl) (s0 : Nat) (hs : s0 < 64) (h8 : nw.length ≤ 8) : Ct 0 0 0 yX5_writePage cX5_writePage 4 (none) G A [.ref mo, .int (nI s0)] (MPN G A mo ad sl S nw) (none) (MPN G A mo ad sl (uP S (va_up (sP S) s0 (nw.map (fun e => (e.1, false))))) nw) := by
  refine Ct.of 2 rfl rfl (Nat.le_of_ble_eq_true rfl) ?_
  intro p l e s m below meth c hini
  refine k_open fun fi ai al h => ?_
  have n1 := h.2.1.1
  have n3 := h.2.1.2.2
  have loop : ∀ j i : Nat, i + j = nw.length → ∀ (z : Option Value) ai' al', WpI nw s0 ai ai' al al' i → K p l e s m ([.ref mo, .int (nI s0)] : List Value).toArray below meth c (rmm 0 0 0) yX5_writePage.cls cX5_writePage 4 (none) G A (MQ below (Qd (none) (MPN G A mo ad sl (uP S (va_up (sP S) s0 (nw.map (fun e => (e.1, false))))) nw) A) ([.ref mo, .int (nI s0)] : List Value).toArray s 0 0 A) 0 0 (MH G A mo ad sl fi ai' al') 2 [some (.ref mo), some (.int (nI s0)), some (.int (nI i)), none] [] := by
    intro j
    induction j with
    | zero =>
      intro i hi z ai' al' hf
      have hi6 : i = nw.length := by omega
      subst hi6
      refine k_iload_n (pc := 2) dX5_writePage_2 rfl ?_
      refine k_aload_n (pc := 3) dX5_writePage_3 rfl ?_
      refine mg_130 hst (pc := 4) dX5_writePage_4 ?_
      rw [n1]
      refine k_icmp_ge (tgt := 78) (pc := 7) dX5_writePage_7 (by decide) (fun _ => ?_) (fun c => absurd (nI_le (Nat.le_refl _) (by omega)) c)
      refine k_aload_n (pc := 78) dX5_writePage_78 rfl ?_
      refine mg_51 hst (pc := 79) dX5_writePage_79 ?_
      refine k_iload_n (pc := 82) dX5_writePage_82 rfl ?_
      refine k_aload_n (pc := 83) dX5_writePage_83 rfl ?_
      refine mg_130 hst (pc := 84) dX5_writePage_84 ?_
      refine m_iast hst rfl (pc := 87) dX5_writePage_87 rfl hs (by decide) ?_
      exact k_vret (pc := 88) dX5_writePage_88 (MPN.of (rep_wp h hs h8 (fun k e he => hf.1 k e (List.getElem?_eq_some_iff.mp he).1 he) hf.2.1 hf.2.2.1 hf.2.2.2)) (Nat.le_refl _) (Nat.le_refl _)
    | succ j ih =>
      intro i hi z ai' al' hf
      obtain ⟨e0, he0⟩ : ∃ e0, nw[i]? = some e0 := ⟨nw[i], List.getElem?_eq_getElem (by omega)⟩
      have step := ih (i + 1) (by omega) none _ _ (wp_step hf (by omega) he0 (n3 i e0 he0) rfl rfl rfl rfl)
      refine k_iload_n (pc := 2) dX5_writePage_2 rfl ?_
      refine k_aload_n (pc := 3) dX5_writePage_3 rfl ?_
      refine mg_130 hst (pc := 4) dX5_writePage_4 ?_
      rw [n1]
      refine k_icmp_ge (tgt := 78) (pc := 7) dX5_writePage_7 (by decide) (fun c => absurd c (nI_ge (by omega) (by omega))) (fun _ => ?_)
      refine k_bipush (v := 8) (pc := 10) dX5_writePage_10 (by decide) ?_
      refine k_iload_n (pc := 12) dX5_writePage_12 rfl ?_
      refine k_imul (pc := 13) dX5_writePage_13 ?_
      refine k_iload_n (pc := 14) dX5_writePage_14 rfl ?_
      refine k_iadd (pc := 15) dX5_writePage_15 ?_
      refine k_istore_n (pc := 16) dX5_writePage_16 (by decide) rfl ?_
      refine k_aload_n (pc := 17) dX5_writePage_17 rfl ?_
      refine mg_36 hst (pc := 18) dX5_writePage_18 ?_
      refine k_iload_n (pc := 21) dX5_writePage_21 rfl ?_
      refine k_aload_n (pc := 22) dX5_writePage_22 rfl ?_
      refine mg_54 hst (pc := 23) dX5_writePage_23 ?_
      refine k_iload_n (pc := 26) dX5_writePage_26 rfl ?_
      refine m_lald hst rfl (pc := 27) dX5_writePage_27 rfl (by simp only [mln]; omega) (by decide) ?_
      refine m_last hst rfl (pc := 28) dX5_writePage_28 (nI_8 s0 i) (by simp only [mln]; omega) (by decide) ?_
      refine k_aload_n (pc := 29) dX5_writePage_29 rfl ?_
      refine mg_39 hst (pc := 30) dX5_writePage_30 ?_
      refine k_iload_n (pc := 33) dX5_writePage_33 rfl ?_
      refine k_aload_n (pc := 34) dX5_writePage_34 rfl ?_
      refine mg_57 hst (pc := 35) dX5_writePage_35 ?_
      refine k_iload_n (pc := 38) dX5_writePage_38 rfl ?_
      refine m_iald hst rfl (pc := 39) dX5_writePage_39 rfl (by simp only [mln]; omega) (by decide) ?_
      refine m_iast hst rfl (pc := 40) dX5_writePage_40 (nI_8 s0 i) (by simp only [mln]; omega) (by decide) ?_
      refine k_aload_n (pc := 41) dX5_writePage_41 rfl ?_
      refine mg_42 hst (pc := 42) dX5_writePage_42 ?_
      refine k_iload_n (pc := 45) dX5_writePage_45 rfl ?_
      refine k_aload_n (pc := 46) dX5_writePage_46 rfl ?_
      refine mg_60 hst (pc := 47) dX5_writePage_47 ?_
      refine k_iload_n (pc := 50) dX5_writePage_50 rfl ?_
      refine m_iald hst rfl (pc := 51) dX5_writePage_51 rfl (by simp only [mln]; omega) (by decide) ?_
      refine m_iast hst rfl (pc := 52) dX5_writePage_52 (nI_8 s0 i) (by simp only [mln]; omega) (by decide) ?_
      refine k_aload_n (pc := 53) dX5_writePage_53 rfl ?_
      refine mg_45 hst (pc := 54) dX5_writePage_54 ?_
      refine k_iload_n (pc := 57) dX5_writePage_57 rfl ?_
      refine k_aload_n (pc := 58) dX5_writePage_58 rfl ?_
      refine mg_63 hst (pc := 59) dX5_writePage_59 ?_
      refine k_iload_n (pc := 62) dX5_writePage_62 rfl ?_
      refine m_iald hst rfl (pc := 63) dX5_writePage_63 rfl (by simp only [mln]; omega) (by decide) ?_
      refine m_iast hst rfl (pc := 64) dX5_writePage_64 (nI_8 s0 i) (by simp only [mln]; omega) (by decide) ?_
      refine k_aload_n (pc := 65) dX5_writePage_65 rfl ?_
      refine mg_48 hst (pc := 66) dX5_writePage_66 ?_
      refine k_iload_n (pc := 69) dX5_writePage_69 rfl ?_
      refine k_iconst (v := 0) (pc := 70) dX5_writePage_70 (by decide) ?_
      refine m_zast hst rfl (pc := 71) dX5_writePage_71 (nI_8 s0 i) (by simp only [mln]; omega) (by decide) rfl ?_
      refine k_iinc (pc := 72) dX5_writePage_72 rfl (nI_inc _) (by decide) rfl ?_
      refine k_goto (tgt := 2) (pc := 75) dX5_writePage_75 (by decide) ?_
      refine k_lv (lv2 := [some (.ref mo), some (.int (nI s0)), some (.int (nI (i + 1))), none]) (fun i v h => by match i, h with | 0, h => exact h | 1, h => exact h | 2, h => exact h | 3, h => cases h | i + 4, h => cases h) ?_
      simp only [up2_at, show ¬ (19 : Nat) = 12 by decide, show ¬ (20 : Nat) = 12 by decide, show ¬ (20 : Nat) = 13 by decide, false_and, if_false]
      exact step
  refine k_iconst (v := 0) (pc := 0) dX5_writePage_0 (by decide) ?_
  refine k_istore_n (pc := 1) dX5_writePage_1 (by decide) rfl ?_
  exact loop nw.length 0 (by omega) none ai al ⟨fun k e hk _ => absurd hk (by omega), fun _ _ => rfl, fun _ _ => rfl, fun _ _ => rfl⟩
end REFG
end
section
theorem rep_inc {S : SS} {nw : List Ne} {fi : Nat → Int32} {ai : Nat → Nat → Int32} {al : Nat → Nat → Int64} (h : Rep S nw fi ai al) {j : Nat} (hj : j < 12) : Rep (uC S (inc (sC S) j)) nw fi (up2 ai 24 j (ai 24 j + 1)) al := by
  obtain ⟨⟨l1, l2, l3⟩, ⟨n1, n2, n3⟩, hP, r1, r2, r3, r4, r5⟩ := h
  refine ⟨⟨l1, l2, ?_⟩, ⟨n1, n2, ?_⟩, ?_, r1, r2, ?_, ?_, r5⟩
  · intro k e he
    simpa [ent, up2_at] using l3 k e he
  · intro k e he
    simpa [nent, up2_at] using n3 k e he
  · intro s hs
    rw [uC_P]
    simpa [pent, up2_at] using hP s hs
  · intro i hi
    rw [uC_N]
    simpa [up2_at] using r3 i hi
  · intro i hi
    rw [uC_C, up2_at]
    unfold inc va_up
    by_cases hij : i = j
    · simp [hij, r4 j hj]
    · simp [hij, r4 i hi]
theorem nI_dec {n : Nat} (h : 0 < n) : nI n - 1 = nI (n - 1) := by
  obtain ⟨m, rfl⟩ : ∃ m, n = m + 1 := ⟨n - 1, by omega⟩
  exact nI_pred m
theorem rep_take {S : SS} {nw : List Ne} {fi : Nat → Int32} {ai : Nat → Nat → Int32} {al : Nat → Nat → Int64} (h : Rep S nw fi ai al) {s0 i wh : Nat} (hs : s0 < 64) (hi : i < (sP S s0).length) (hw : wh < 12) : Rep (uC (uP S (va_up (sP S) s0 ((sP S s0).eraseIdx i))) (inc (sC S) wh)) nw fi (up2 (shA (up2 ai 16 s0 (ai 16 s0 - 1)) 12 15 (8 * s0 + i) (8 * s0 + ((sP S s0).length - 1))) 24 wh (ai 24 wh + 1)) (shA al 11 11 (8 * s0 + i) (8 * s0 + ((sP S s0).length - 1))) := by
  obtain ⟨⟨l1, l2, l3⟩, ⟨n1, n2, n3⟩, hP, r1, r2, r3, r4, r5⟩ := h
  have hle : ((sP S s0).eraseIdx i).length = (sP S s0).length - 1 := by rw [List.length_eraseIdx]; simp [hi]
  obtain ⟨p1, p2, p3⟩ := hP s0 hs
  refine ⟨⟨l1, l2, ?_⟩, ⟨n1, n2, ?_⟩, ?_, r1, r2, ?_, ?_, r5⟩
  · intro k e he
    have := l3 k e he
    simpa [ent, up2_at, shA_at] using this
  · intro k e he
    simpa [nent, up2_at, shA_at] using n3 k e he
  · intro s hs2
    rw [uC_P, uP_P]
    by_cases hss : s = s0
    · subst hss
      rw [va_up_self]
      refine ⟨?_, by omega, fun k e he => ?_⟩
      · simp only [up2_at, shA_at, show ¬ (16 : Nat) = 24 by decide, false_and, if_false, show ¬ (16 : Nat) ≤ 15 by decide, and_false, true_and, if_true, p1, hle]
        exact nI_dec (by omega)
      · have hk : k < (sP S s).length - 1 := by rw [← hle]; exact (List.getElem?_eq_some_iff.mp he).1
        rw [erase_at hi hk] at he
        by_cases hak : i ≤ k
        · rw [if_pos hak] at he
          have := p3 (k + 1) e he
          have h1 : 8 * s + i ≤ 8 * s + k ∧ 8 * s + k < 8 * s + ((sP S s).length - 1) := by omega
          simpa [pent, up2_at, shA_at, h1, Nat.add_assoc] using this
        · rw [if_neg hak] at he
          have := p3 k e he
          have h1 : ¬ (8 * s + i ≤ 8 * s + k) := by omega
          simpa [pent, up2_at, shA_at, hak] using this
    · rw [va_up_ne _ _ hss]
      obtain ⟨q1, q2, q3⟩ := hP s hs2
      refine ⟨by simp [up2_at, shA_at, hss, q1], q2, fun k e he => ?_⟩
      have hk8 : k < 8 := Nat.lt_of_lt_of_le (List.getElem?_eq_some_iff.mp he).1 q2
      have := q3 k e he
      have h1 : ¬ (8 * s0 + i ≤ 8 * s + k ∧ 8 * s + k < 8 * s0 + ((sP S s0).length - 1)) := by omega
      simpa [pent, up2_at, shA_at, h1] using this
  · intro j hj
    rw [uC_N, uP_N]
    simpa [up2_at, shA_at] using r3 j hj
  · intro j hj
    rw [uC_C, up2_at]
    unfold inc va_up
    by_cases hij : j = wh
    · simp [hij, r4 wh hw]
    · simp [hij, shA_at, up2_at, r4 j hj]
theorem ixS_lt {p : List Pe} {key : Int64} {i : Nat} (h : ixS p key = some i) : i < p.length := findIdx?_ltl h
section REFH
variable {p : Program} {l : Launch} {e : Env} {s : State} {m : MethodId} {args : Array Value} {below : List Frame} {meth : Method} {c : Code} {R : Room} {G : Gd} {A : Nat → Prop} {Q : State → Prop} {k n : Nat} {mo : Nat} {ad sl : Nat → Nat} {S : SS} {nw : List Ne}
set_option maxRecDepth 4000 in
theorem c_takeOut (hst : MSt mo ad sl) (key : Int64) (wh : Nat) (hw : wh < 12) : Ct 4 0 0 yX5_takeOut cX5_takeOut 7 (some .boolean) G A [.ref mo, .long key, .int (nI wh)] (MPN G A mo ad sl S nw) (some (.int (bI (takeS S key wh).2))) (MPN G A mo ad sl (takeS S key wh).1 nw) := by
  refine Ct.of 3 rfl rfl (Nat.le_of_ble_eq_true rfl) ?_
  intro p l e s m below meth c hini
  refine k_aload_n (pc := 0) dX5_takeOut_0 rfl ?_
  refine k_lload_n (pc := 1) dX5_takeOut_1 rfl ?_
  refine k_callM sv_X5_150 hst (n_mayHave hst key) (pc := 2) dX5_takeOut_2 rfl rfl (Nat.le_of_ble_eq_true rfl) (by decide) (by decide) (Nat.le_refl _) (Nat.le_refl _) ?_
  by_cases hm : mayS (sP S (setN key)) key = true
  · simp only [hm]
    refine k_if_ne (tgt := 10) (pc := 5) dX5_takeOut_5 (by decide) (fun _ => ?_) (fun c => absurd c ((show ¬ bI true = 0 by decide)))
    refine k_open fun fi0 ai0 al0 h0 => ?_
    refine k_aload_n (pc := 10) dX5_takeOut_10 rfl ?_
    refine mg_72 hst (pc := 11) dX5_takeOut_11 ?_
    refine k_bipush (v := 11) (pc := 14) dX5_takeOut_14 (by decide) ?_
    refine k_dup2 (pc := 16) dX5_takeOut_16 rfl rfl ?_
    refine m_iald hst rfl (pc := 17) dX5_takeOut_17 (show (11 : Int32) = nI 11 from rfl) (by decide) (by decide) ?_
    refine k_iconst (v := 1) (pc := 18) dX5_takeOut_18 (by decide) ?_
    refine k_iadd (pc := 19) dX5_takeOut_19 ?_
    refine m_iast hst rfl (pc := 20) dX5_takeOut_20 (show (11 : Int32) = nI 11 from rfl) (by decide) (by decide) ?_
    refine k_close (rep_inc h0 (j := 11) (by decide)) ?_
    refine k_aload_n (pc := 21) dX5_takeOut_21 rfl ?_
    refine k_lload_n (pc := 22) dX5_takeOut_22 rfl ?_
    refine k_callM sv_X5_154 hst (n_inPage hst key) (pc := 23) dX5_takeOut_23 rfl rfl (Nat.le_of_ble_eq_true rfl) (by decide) (by decide) (Nat.le_refl _) (Nat.le_refl _) ?_
    rw [uC_P]
    cases hx : ixS (sP S (setN key)) key with
    | none =>
      have ht : takeS S key wh = (uC S (inc (sC S) 11), false) := by simp only [takeS, hm, hx, if_true]
      rw [ht]
      refine k_istore (pc := 26) dX5_takeOut_26 (by decide) rfl ?_
      refine k_iload (pc := 28) dX5_takeOut_28 rfl ?_
      refine k_if_ge (tgt := 35) (pc := 30) dX5_takeOut_30 (by decide) (fun c => absurd c ((show ¬ (0 : Int32) ≤ -1 by decide))) (fun _ => ?_)
      refine k_iconst (v := 0) (pc := 33) dX5_takeOut_33 (by decide) ?_
      exact k_zret (pc := 34) dX5_takeOut_34 rfl (bI_nar _) (fun _ h => h) (Nat.le_refl _) (Nat.le_refl _)
    | some i =>
      have hi := ixS_lt hx
      have hs := setN_lt key
      have ht : takeS S key wh = (uC (uP S (va_up (sP S) (setN key) ((sP S (setN key)).eraseIdx i))) (inc (inc (sC S) 11) wh), true) := by simp only [takeS, hm, hx, if_true]
      rw [ht]
      refine k_open fun fi ai al h => ?_
      obtain ⟨p1, p2, p3⟩ := h.2.2.1 (setN key) hs
      rw [uC_P] at p1 p2 p3
      have hR := rep_take h (s0 := setN key) (i := i) (wh := wh) hs (by rw [uC_P]; exact hi) hw
      rw [uC_P] at hR
      have hdiv : nI (8 * setN key + i) / 8 = nI (setN key) := by
        rw [show (8 : Int32) = nI 8 from rfl, pk_div (by omega) (by decide) (by decide)]
        congr 1
        omega
      have fin : K p l e s m ([.ref mo, .long key, .int (nI wh)] : List Value).toArray below meth c (rmm 4 0 0) yX5_takeOut.cls cX5_takeOut 7 (some .boolean) G A (MQ below (Qd (some (.int (bI (takeS S key wh).2))) (MPN G A mo ad sl (takeS S key wh).1 nw) A) ([.ref mo, .long key, .int (nI wh)] : List Value).toArray s 0 0 A) 0 0 (MH G A mo ad sl fi (shA (up2 ai 16 (setN key) (ai 16 (setN key) - 1)) 12 15 (8 * setN key + i) (8 * setN key + ((sP S (setN key)).length - 1))) (shA al 11 11 (8 * setN key + i) (8 * setN key + ((sP S (setN key)).length - 1)))) 161 [some (.ref mo), some (.long key), none, some (.int (nI wh)), none, none, none] [] := by
        rw [ht]
        refine k_aload_n (pc := 161) dX5_takeOut_161 rfl ?_
        refine mg_72 hst (pc := 162) dX5_takeOut_162 ?_
        refine k_iload_n (pc := 165) dX5_takeOut_165 rfl ?_
        refine k_dup2 (pc := 166) dX5_takeOut_166 rfl rfl ?_
        refine m_iald hst rfl (pc := 167) dX5_takeOut_167 rfl (by simpa [mln] using hw) (by decide) ?_
        refine k_iconst (v := 1) (pc := 168) dX5_takeOut_168 (by decide) ?_
        refine k_iadd (pc := 169) dX5_takeOut_169 ?_
        refine m_iast hst rfl (pc := 170) dX5_takeOut_170 rfl (by simpa [mln] using hw) (by decide) ?_
        refine k_iconst (v := 1) (pc := 171) dX5_takeOut_171 (by decide) ?_
        exact k_zret (pc := 172) dX5_takeOut_172 rfl (bI_nar _) (MPN.of (by rw [shA_out (Or.inr (by decide)), up2_at, if_neg (by omega)]; exact hR)) (Nat.le_refl _) (Nat.le_refl _)
      have loop : ∀ j q : Nat, q + j = 8 * setN key + ((sP S (setN key)).length - 1) → 8 * setN key + i ≤ q → K p l e s m ([.ref mo, .long key, .int (nI wh)] : List Value).toArray below meth c (rmm 4 0 0) yX5_takeOut.cls cX5_takeOut 7 (some .boolean) G A (MQ below (Qd (some (.int (bI (takeS S key wh).2))) (MPN G A mo ad sl (takeS S key wh).1 nw) A) ([.ref mo, .long key, .int (nI wh)] : List Value).toArray s 0 0 A) 0 0 (MH G A mo ad sl fi (shA (up2 ai 16 (setN key) (ai 16 (setN key) - 1)) 12 15 (8 * setN key + i) q) (shA al 11 11 (8 * setN key + i) q)) 57 [some (.ref mo), some (.long key), none, some (.int (nI wh)), some (.int (nI (8 * setN key + i))), some (.int (nI (setN key))), some (.int (nI q))] [] := by
        have rd : ∀ q, shA (up2 ai 16 (setN key) (ai 16 (setN key) - 1)) 12 15 (8 * setN key + i) q 16 (setN key) = nI ((sP S (setN key)).length - 1) := by
          intro q
          rw [shA_out (Or.inr (by decide)), up2_at, if_pos ⟨rfl, rfl⟩, p1]
          exact nI_dec (by omega)
        intro j
        induction j with
        | zero =>
          intro q hq ha
          have hi6 : q = 8 * setN key + ((sP S (setN key)).length - 1) := by omega
          subst hi6
          refine k_iload (pc := 57) dX5_takeOut_57 rfl ?_
          refine k_bipush (v := 8) (pc := 59) dX5_takeOut_59 (by decide) ?_
          refine k_iload (pc := 61) dX5_takeOut_61 rfl ?_
          refine k_imul (pc := 63) dX5_takeOut_63 ?_
          refine k_aload_n (pc := 64) dX5_takeOut_64 rfl ?_
          refine mg_51 hst (pc := 65) dX5_takeOut_65 ?_
          refine k_iload (pc := 68) dX5_takeOut_68 rfl ?_
          refine m_iald hst rfl (pc := 70) dX5_takeOut_70 rfl hs (by decide) ?_
          refine k_iadd (pc := 71) dX5_takeOut_71 ?_
          rw [rd, nI_8]
          refine k_icmp_ge (tgt := 161) (pc := 72) dX5_takeOut_72 (by decide) (fun _ => ?_) (fun c => absurd (nI_le (Nat.le_refl _) (by omega)) c)
          exact k_lv (fun i v h => by match i, h with | 0, h => exact h | 1, h => exact h | 2, h => cases h | 3, h => exact h | 4, h => cases h | 5, h => cases h | 6, h => cases h | i + 7, h => cases h) fin
        | succ j ih =>
          intro q hq ha
          have step := ih (q + 1) (by omega) (by omega)
          have hz : ∃ z, up2 ai 16 (setN key) (ai 16 (setN key) - 1) 15 (q + 1) = bI z := by
            obtain ⟨k, hk⟩ : ∃ k, q + 1 = 8 * setN key + k := ⟨q + 1 - 8 * setN key, by omega⟩
            have := (pent_k (p3 k (sP S (setN key))[k] (List.getElem?_eq_getElem (by omega)))).2.2.2.2
            exact ⟨_, by rw [hk]; simpa [up2_at] using this⟩
          obtain ⟨z, hz⟩ := hz
          rw [← shA_step4 ha, ← shA_step1 ha] at step
          refine k_iload (pc := 57) dX5_takeOut_57 rfl ?_
          refine k_bipush (v := 8) (pc := 59) dX5_takeOut_59 (by decide) ?_
          refine k_iload (pc := 61) dX5_takeOut_61 rfl ?_
          refine k_imul (pc := 63) dX5_takeOut_63 ?_
          refine k_aload_n (pc := 64) dX5_takeOut_64 rfl ?_
          refine mg_51 hst (pc := 65) dX5_takeOut_65 ?_
          refine k_iload (pc := 68) dX5_takeOut_68 rfl ?_
          refine m_iald hst rfl (pc := 70) dX5_takeOut_70 rfl hs (by decide) ?_
          refine k_iadd (pc := 71) dX5_takeOut_71 ?_
          rw [rd, nI_8]
          refine k_icmp_ge (tgt := 161) (pc := 72) dX5_takeOut_72 (by decide) (fun c => absurd c (nI_ge (by omega) (by omega))) (fun _ => ?_)
          refine k_aload_n (pc := 75) dX5_takeOut_75 rfl ?_
          refine mg_36 hst (pc := 76) dX5_takeOut_76 ?_
          refine k_iload (pc := 79) dX5_takeOut_79 rfl ?_
          refine k_aload_n (pc := 81) dX5_takeOut_81 rfl ?_
          refine mg_36 hst (pc := 82) dX5_takeOut_82 ?_
          refine k_iload (pc := 85) dX5_takeOut_85 rfl ?_
          refine k_iconst (v := 1) (pc := 87) dX5_takeOut_87 (by decide) ?_
          refine k_iadd (pc := 88) dX5_takeOut_88 ?_
          refine m_lald hst rfl (pc := 89) dX5_takeOut_89 (nI_1 q) (by simp only [mln]; omega) (by decide) ?_
          refine m_last hst rfl (pc := 90) dX5_takeOut_90 rfl (by simp only [mln]; omega) (by decide) ?_
          refine k_aload_n (pc := 91) dX5_takeOut_91 rfl ?_
          refine mg_39 hst (pc := 92) dX5_takeOut_92 ?_
          refine k_iload (pc := 95) dX5_takeOut_95 rfl ?_
          refine k_aload_n (pc := 97) dX5_takeOut_97 rfl ?_
          refine mg_39 hst (pc := 98) dX5_takeOut_98 ?_
          refine k_iload (pc := 101) dX5_takeOut_101 rfl ?_
          refine k_iconst (v := 1) (pc := 103) dX5_takeOut_103 (by decide) ?_
          refine k_iadd (pc := 104) dX5_takeOut_104 ?_
          refine m_iald hst rfl (pc := 105) dX5_takeOut_105 (nI_1 q) (by simp only [mln]; omega) (by decide) ?_
          refine m_iast hst rfl (pc := 106) dX5_takeOut_106 rfl (by simp only [mln]; omega) (by decide) ?_
          refine k_aload_n (pc := 107) dX5_takeOut_107 rfl ?_
          refine mg_42 hst (pc := 108) dX5_takeOut_108 ?_
          refine k_iload (pc := 111) dX5_takeOut_111 rfl ?_
          refine k_aload_n (pc := 113) dX5_takeOut_113 rfl ?_
          refine mg_42 hst (pc := 114) dX5_takeOut_114 ?_
          refine k_iload (pc := 117) dX5_takeOut_117 rfl ?_
          refine k_iconst (v := 1) (pc := 119) dX5_takeOut_119 (by decide) ?_
          refine k_iadd (pc := 120) dX5_takeOut_120 ?_
          refine m_iald hst rfl (pc := 121) dX5_takeOut_121 (nI_1 q) (by simp only [mln]; omega) (by decide) ?_
          refine m_iast hst rfl (pc := 122) dX5_takeOut_122 rfl (by simp only [mln]; omega) (by decide) ?_
          refine k_aload_n (pc := 123) dX5_takeOut_123 rfl ?_
          refine mg_45 hst (pc := 124) dX5_takeOut_124 ?_
          refine k_iload (pc := 127) dX5_takeOut_127 rfl ?_
          refine k_aload_n (pc := 129) dX5_takeOut_129 rfl ?_
          refine mg_45 hst (pc := 130) dX5_takeOut_130 ?_
          refine k_iload (pc := 133) dX5_takeOut_133 rfl ?_
          refine k_iconst (v := 1) (pc := 135) dX5_takeOut_135 (by decide) ?_
          refine k_iadd (pc := 136) dX5_takeOut_136 ?_
          refine m_iald hst rfl (pc := 137) dX5_takeOut_137 (nI_1 q) (by simp only [mln]; omega) (by decide) ?_
          refine m_iast hst rfl (pc := 138) dX5_takeOut_138 rfl (by simp only [mln]; omega) (by decide) ?_
          refine k_aload_n (pc := 139) dX5_takeOut_139 rfl ?_
          refine mg_48 hst (pc := 140) dX5_takeOut_140 ?_
          refine k_iload (pc := 143) dX5_takeOut_143 rfl ?_
          refine k_aload_n (pc := 145) dX5_takeOut_145 rfl ?_
          refine mg_48 hst (pc := 146) dX5_takeOut_146 ?_
          refine k_iload (pc := 149) dX5_takeOut_149 rfl ?_
          refine k_iconst (v := 1) (pc := 151) dX5_takeOut_151 (by decide) ?_
          refine k_iadd (pc := 152) dX5_takeOut_152 ?_
          refine m_zald hst rfl (pc := 153) dX5_takeOut_153 (nI_1 q) (by simp only [mln]; omega) (by decide) ?_
          refine m_zast hst rfl (pc := 154) dX5_takeOut_154 rfl (by simp only [mln]; omega) (by decide) (by rw [up2_at, if_neg (by omega), up2_at, if_neg (by omega), up2_at, if_neg (by omega), shA_rd, hz]; exact bI_nar _) ?_
          refine k_iinc (pc := 155) dX5_takeOut_155 rfl (nI_inc _) (by decide) rfl ?_
          refine k_goto (tgt := 57) (pc := 158) dX5_takeOut_158 (by decide) ?_
          have e13 : ∀ x, up2 (shA (up2 ai 16 (setN key) (ai 16 (setN key) - 1)) 12 15 (8 * setN key + i) q) 12 q x 13 (q + 1) = up2 ai 16 (setN key) (ai 16 (setN key) - 1) 13 (q + 1) := fun x => by rw [up2_at, if_neg (by omega), shA_rd]
          have e14 : ∀ x y, up2 (up2 (shA (up2 ai 16 (setN key) (ai 16 (setN key) - 1)) 12 15 (8 * setN key + i) q) 12 q x) 13 q y 14 (q + 1) = up2 ai 16 (setN key) (ai 16 (setN key) - 1) 14 (q + 1) := fun x y => by rw [up2_at, if_neg (by omega), up2_at, if_neg (by omega), shA_rd]
          have e15 : ∀ x y z, up2 (up2 (up2 (shA (up2 ai 16 (setN key) (ai 16 (setN key) - 1)) 12 15 (8 * setN key + i) q) 12 q x) 13 q y) 14 q z 15 (q + 1) = up2 ai 16 (setN key) (ai 16 (setN key) - 1) 15 (q + 1) := fun x y z => by rw [up2_at, if_neg (by omega), up2_at, if_neg (by omega), up2_at, if_neg (by omega), shA_rd]
          rw [shA_rd, shA_rd, e13, e14, e15]
          exact step
      have l0 := loop ((sP S (setN key)).length - 1 - i) (8 * setN key + i) (by omega) (Nat.le_refl _)
      rw [shA_0, shA_0, ht] at l0
      refine k_istore (pc := 26) dX5_takeOut_26 (by decide) rfl ?_
      refine k_iload (pc := 28) dX5_takeOut_28 rfl ?_
      refine k_if_ge (tgt := 35) (pc := 30) dX5_takeOut_30 (by decide) (fun _ => ?_) (fun c => absurd (nI_pos' (n := 8 * setN key + i) (by omega)) c)
      refine k_iload (pc := 35) dX5_takeOut_35 rfl ?_
      refine k_bipush (v := 8) (pc := 37) dX5_takeOut_37 (by decide) ?_
      refine k_idiv (pc := 39) dX5_takeOut_39 (by decide) ?_
      rw [show oI (Option.map (fun i => 8 * setN key + i) (some i)) = nI (8 * setN key + i) from rfl, hdiv]
      refine k_istore (pc := 40) dX5_takeOut_40 (by decide) rfl ?_
      refine k_aload_n (pc := 42) dX5_takeOut_42 rfl ?_
      refine mg_51 hst (pc := 43) dX5_takeOut_43 ?_
      refine k_iload (pc := 46) dX5_takeOut_46 rfl ?_
      refine k_dup2 (pc := 48) dX5_takeOut_48 rfl rfl ?_
      refine m_iald hst rfl (pc := 49) dX5_takeOut_49 rfl hs (by decide) ?_
      refine k_iconst (v := 1) (pc := 50) dX5_takeOut_50 (by decide) ?_
      refine k_isub (pc := 51) dX5_takeOut_51 ?_
      refine m_iast hst rfl (pc := 52) dX5_takeOut_52 rfl hs (by decide) ?_
      refine k_iload (pc := 53) dX5_takeOut_53 rfl ?_
      refine k_istore (pc := 55) dX5_takeOut_55 (by decide) rfl ?_
      exact l0
  · have hmf : mayS (sP S (setN key)) key = false := by simpa using hm
    have ht : takeS S key wh = (S, false) := by unfold takeS; rw [if_neg hm]
    rw [ht, hmf]
    refine k_if_ne (tgt := 10) (pc := 5) dX5_takeOut_5 (by decide) (fun c => absurd ((show bI false = 0 by decide)) c) (fun _ => ?_)
    refine k_iconst (v := 0) (pc := 8) dX5_takeOut_8 (by decide) ?_
    exact k_zret (pc := 9) dX5_takeOut_9 rfl (bI_nar _) (fun _ h => h) (Nat.le_refl _) (Nat.le_refl _)
end REFH
end
section
theorem rep_kill {S : SS} {nw : List Ne} {fi : Nat → Int32} {ai : Nat → Nat → Int32} {al : Nat → Nat → Int64} (h : Rep S nw fi ai al) (j : Nat) : Rep (uL S (killAt (sL S) j)) nw fi (up2 ai 4 j 0) al := by
  obtain ⟨⟨l1, l2, l3⟩, ⟨n1, n2, n3⟩, hP, r1, r2, r3, r4, r5⟩ := h
  refine ⟨⟨?_, ?_, ?_⟩, ⟨n1, n2, ?_⟩, ?_, r1, r2, ?_, ?_, r5⟩
  · rw [uL_L]; simpa [killAt] using l1
  · rw [uL_L]; simpa [killAt] using l2
  · intro k e he
    rw [uL_L] at he
    unfold killAt at he
    rw [List.getElem?_modify] at he
    by_cases hkj : j = k
    · subst hkj
      simp only [if_true, Option.map_eq_map, Option.map_eq_some_iff] at he
      obtain ⟨e0, he0, rfl⟩ := he
      obtain ⟨c0, c1, c2, c3, c4, c5, c6⟩ := ent_k (l3 j e0 he0)
      exact ent_mk c0 (by simpa [up2_at, kill1] using c1) (by simpa [up2_at, kill1] using c2) (by simpa [up2_at, kill1] using c3) (by rw [up2_at, if_pos ⟨rfl, rfl⟩]; rfl) (by simpa [up2_at, kill1] using c5) (by simpa [up2_at, kill1] using c6)
    · simp only [hkj, if_false] at he
      have := l3 k e (by simpa using he)
      simpa [ent, up2_at, Ne.symm hkj, show ¬ k = j from fun z => hkj z.symm] using this
  · intro k e he
    simpa [nent, up2_at] using n3 k e he
  · intro s hs
    rw [uL_P]
    simpa [pent, up2_at] using hP s hs
  · intro i hi
    rw [uL_N]
    simpa [up2_at] using r3 i hi
  · intro i hi
    rw [uL_C]
    simpa [up2_at] using r4 i hi
def stdL (S : SS) (s i : Nat) : List Ne := (((sP S s).take i).filter (fun e => (lastIx (sL S) e.1.1 (sL S).length).isNone)).map (fun e => (e.1, e.2, true))
theorem stdL_next {S : SS} {s i : Nat} {e : Pe} (he : (sP S s)[i]? = some e) : stdL S s (i + 1) = stdL S s i ++ (if (lastIx (sL S) e.1.1 (sL S).length).isNone then [(e.1, e.2, true)] else []) := by
  unfold stdL
  rw [List.take_add_one, he, List.filter_append, List.map_append]
  congr 1
  simp only [Option.toList, List.filter_cons, List.filter_nil]
  split <;> rfl
theorem stdL_len (S : SS) (s i : Nat) : (stdL S s i).length ≤ i := by
  unfold stdL
  rw [List.length_map]
  exact Nat.le_trans (List.length_filter_le _ _) (by rw [List.length_take]; omega)
def killIf (s : Nat) (e : En) : En := if inSet s e then kill1 e else e
def mvL (S : SS) (s i : Nat) : List En := ((sL S).take i).map (killIf s) ++ (sL S).drop i
def mvN (S : SS) (s i : Nat) : List En := ((sL S).take i).filter (inSet s)
theorem mvL_at (S : SS) (s i j : Nat) : (mvL S s i)[j]? = if j < i then ((sL S)[j]?).map (killIf s) else (sL S)[j]? := by
  unfold mvL
  rw [List.getElem?_append]
  simp only [List.length_map, List.length_take, List.getElem?_map, List.getElem?_take, List.getElem?_drop]
  by_cases h : j < i
  · by_cases h2 : j < (sL S).length
    · simp [h, h2, show j < min i (sL S).length by omega]
    · have h3 : (sL S)[j]? = none := List.getElem?_eq_none (by omega)
      simp [h, h3, show ¬ j < min i (sL S).length by omega, show (sL S).length ≤ i + (j - min i (sL S).length) by omega]
  · by_cases h4 : i ≤ (sL S).length
    · have : min i (sL S).length = i := by omega
      simp [h, this, show i + (j - i) = j by omega]
    · have h3 : (sL S)[j]? = none := List.getElem?_eq_none (by omega)
      simp [h, h3, show ¬ j < (sL S).length by omega, show (sL S).length ≤ i + (j - min i (sL S).length) by omega]
theorem mvL_len (S : SS) (s i : Nat) : (mvL S s i).length = (sL S).length := by
  unfold mvL
  simp
  omega
theorem mvL_end (S : SS) (s : Nat) : mvL S s (sL S).length = (sL S).map (killIf s) := by simp [mvL]
theorem mvL_skip {S : SS} {s i : Nat} {e : En} (he : (sL S)[i]? = some e) (hn : inSet s e = false) : mvL S s (i + 1) = mvL S s i := by
  apply List.ext_getElem?
  intro j
  rw [mvL_at, mvL_at]
  by_cases hj : j = i
  · subst hj
    simp [he, killIf, hn]
  · by_cases h2 : j < i
    · simp [h2, show j < i + 1 by omega]
    · simp [h2, show ¬ j < i + 1 by omega]
theorem mvL_kill {S : SS} {s i : Nat} {e : En} (he : (sL S)[i]? = some e) (hn : inSet s e = true) : mvL S s (i + 1) = killAt (mvL S s i) i := by
  apply List.ext_getElem?
  intro j
  unfold killAt
  rw [List.getElem?_modify, mvL_at, mvL_at]
  by_cases hj : j = i
  · subst hj
    simp [he, killIf, hn]
  · have hj2 : ¬ i = j := fun z => hj z.symm
    by_cases h2 : j < i
    · simp [h2, hj2, show j < i + 1 by omega]
    · simp [h2, hj2, show ¬ j < i + 1 by omega]
theorem mvN_next {S : SS} {s i : Nat} {e : En} (he : (sL S)[i]? = some e) : mvN S s (i + 1) = mvN S s i ++ (if inSet s e then [e] else []) := by
  unfold mvN
  rw [List.take_add_one, he, List.filter_append]
  simp only [Option.toList, List.filter_cons, List.filter_nil]
theorem mvN_len (S : SS) (s i : Nat) : (mvN S s i).length ≤ i := Nat.le_trans (List.length_filter_le _ _) (by rw [List.length_take]; omega)
def mv2 (S : SS) (s i : Nat) : SS := uC (uL S (mvL S s i)) (addN (inc (sC S) 11) 5 (mvN S s i).length)
def nw2 (S : SS) (s i : Nat) : List Ne := stdL S s (sP S s).length ++ (mvN S s i).map (fun e => (e.1, e.2.2.1, false))
theorem nw2_end (S : SS) (s : Nat) : nw2 S s (sL S).length = newsS S s := by
  unfold nw2 newsS stdL mvN
  rw [List.take_length, List.take_length]
theorem addN_inc (c : Nat → Int32) (n : Nat) : inc (addN c 5 n) 5 = addN c 5 (n + 1) := by
  funext j
  unfold inc addN va_up
  by_cases h : j = 5
  · simp [h, ← nI_1, Int32.add_assoc]
  · simp [h]
theorem addN_0 (c : Nat → Int32) : addN c 5 0 = c := by
  funext j
  unfold addN va_up
  by_cases h : j = 5
  · simp [h, nI]
  · simp [h]
theorem plN_hi : ∀ (l : List Ne), (∀ e ∈ l, 1 ≤ e.1.2.1 ∧ e.1.2.1 ≤ 12) → 4 * l.length ≤ plN l ∧ plN l ≤ 15 * l.length := by
  intro l
  induction l with
  | nil => intro _; simp [plN]
  | cons a l ih =>
    intro h
    have h1 := ih (fun e he => h e (List.mem_cons_of_mem _ he))
    have h2 := h a List.mem_cons_self
    have e1 : plN (a :: l) = (3 + a.1.2.1) + plN l := by simp [plN, plc]
    rw [e1]
    simp only [List.length_cons]
    omega
theorem dropS_mem {l : List Ne} {c : Nat → Int32} : ∀ e ∈ (dropS l c).1, e ∈ l := by
  intro e he
  unfold dropS at he
  split at he
  · exact List.mem_of_mem_eraseIdx he
  · split at he
    · exact List.mem_of_mem_eraseIdx he
    · exact List.mem_of_mem_eraseIdx he
theorem dropS_len {l : List Ne} {c : Nat → Int32} (h : 0 < l.length) : (dropS l c).1.length = l.length - 1 := by
  unfold dropS
  split
  · next i hi => rw [List.length_eraseIdx, if_pos (findIdx?_ltl hi)]
  · split
    · next i hi => rw [List.length_eraseIdx, if_pos (findIdx?_ltl hi)]
    · rw [List.length_eraseIdx, if_pos h]
section REFI
variable {p : Program} {l : Launch} {e : Env} {s : State} {m : MethodId} {args : Array Value} {below : List Frame} {meth : Method} {c : Code} {R : Room} {G : Gd} {A : Nat → Prop} {Q : State → Prop} {k n : Nat} {mo : Nat} {ad sl : Nat → Nat} {S : SS} {nw : List Ne}
set_option maxRecDepth 4000 in
theorem c_move (hst : MSt mo ad sl) (s0 : Nat) (hs : s0 < 64) (hlen : (sL S).length ≤ 600) (hwd : ∀ e ∈ newsS S s0, 1 ≤ e.1.2.1 ∧ e.1.2.1 ≤ 12) : Ct 2 0 0 yX5_move cX5_move 4 (none) G A [.ref mo, .int (nI s0)] (MPN G A mo ad sl S nw) (none) (MPS G A mo ad sl (moveS S s0)) := by
  refine Ct.of 2 rfl rfl (Nat.le_of_ble_eq_true rfl) ?_
  intro p l e s m below meth c hini
  have h8 : ∀ {fi ai al}, Rep S nw fi ai al → (sP S s0).length ≤ 8 := fun h => (h.2.2.1 s0 hs).2.1
  refine k_open fun fi0 ai0 al0 h0 => ?_
  have h8 := h8 h0
  have loop3 : ∀ (n : Nat) (cc : Nat → Int32) (nw : List Ne), nw.length ≤ n → (∀ e ∈ nw, 1 ≤ e.1.2.1 ∧ e.1.2.1 ≤ 12) → nw.length ≤ 700 → dropAll n nw cc = dropAll (newsS S s0).length (newsS S s0) (addN (inc (sC S) 11) 5 ((sL S).filter (inSet s0)).length) → K p l e s m ([.ref mo, .int (nI s0)] : List Value).toArray below meth c (rmm 2 0 0) yX5_move.cls cX5_move 4 (none) G A (MQ below (Qd (none) (MPS G A mo ad sl (moveS S s0)) A) ([.ref mo, .int (nI s0)] : List Value).toArray s 0 0 A) 0 0 (MPN G A mo ad sl (uC (uL S ((sL S).map (killIf s0))) cc) nw) 180 [some (.ref mo), some (.int (nI s0)), none, none] [] := by
    intro n
    induction n with
    | zero =>
      intro cc nw hn hw h7 hd
      have hnil : nw = [] := List.length_eq_zero_iff.mp (by omega)
      subst hnil
      refine k_aload_n (pc := 180) dX5_move_180 rfl ?_
      refine k_callM sv_X5_140 hst (c_plN hst) (pc := 181) dX5_move_181 rfl rfl (Nat.le_of_ble_eq_true rfl) (by decide) (by decide) (Nat.le_refl _) (Nat.le_refl _) ?_
      refine k_bipush (v := 32) (pc := 184) dX5_move_184 (by decide) ?_
      refine k_icmp_le (tgt := 196) (pc := 186) dX5_move_186 (by decide) (fun _ => ?_) (fun c => absurd (by decide) c)
      refine k_aload_n (pc := 196) dX5_move_196 rfl ?_
      refine k_iload_n (pc := 197) dX5_move_197 rfl ?_
      refine k_callM sv_X5_147 hst (c_writePage hst s0 hs (by simp)) (pc := 198) dX5_move_198 rfl rfl (Nat.le_of_ble_eq_true rfl) (by decide) (by decide) (Nat.le_refl _) (Nat.le_refl _) ?_
      refine k_open fun fi ai al h => ?_
      refine k_aload_n (pc := 201) dX5_move_201 rfl ?_
      refine mg_72 hst (pc := 202) dX5_move_202 ?_
      refine k_iconst (v := 2) (pc := 205) dX5_move_205 (by decide) ?_
      refine k_dup2 (pc := 206) dX5_move_206 rfl rfl ?_
      refine m_iald hst rfl (pc := 207) dX5_move_207 (show (2 : Int32) = nI 2 from rfl) (by decide) (by decide) ?_
      refine k_iconst (v := 1) (pc := 208) dX5_move_208 (by decide) ?_
      refine k_iadd (pc := 209) dX5_move_209 ?_
      refine m_iast hst rfl (pc := 210) dX5_move_210 (show (2 : Int32) = nI 2 from rfl) (by decide) (by decide) ?_
      exact k_vret (pc := 211) dX5_move_211 (fun H hH => by have := MPS.of (G := G) (A := A) (mo := mo) (ad := ad) (sl := sl) (rep_inc h (j := 2) (by decide)) H hH; unfold moveS; rw [← hd]; exact this) (Nat.le_refl _) (Nat.le_refl _)
    | succ n ih =>
      intro cc nw hn hw h7 hd
      obtain ⟨hp1, hp2⟩ := plN_hi nw hw
      refine k_aload_n (pc := 180) dX5_move_180 rfl ?_
      refine k_callM sv_X5_140 hst (c_plN hst) (pc := 181) dX5_move_181 rfl rfl (Nat.le_of_ble_eq_true rfl) (by decide) (by decide) (Nat.le_refl _) (Nat.le_refl _) ?_
      refine k_bipush (v := 32) (pc := 184) dX5_move_184 (by decide) ?_
      by_cases hgt : plN nw > 32
      · refine k_icmp_le (tgt := 196) (pc := 186) dX5_move_186 (by decide) (fun c => absurd c (nI_ge (a := 32) hgt (by omega))) (fun _ => ?_)
        have hpos : 0 < nw.length := by omega
        refine k_aload_n (pc := 189) dX5_move_189 rfl ?_
        refine k_callM sv_X5_144 hst (c_dropOne hst hpos) (pc := 190) dX5_move_190 rfl rfl (Nat.le_of_ble_eq_true rfl) (by decide) (by decide) (Nat.le_refl _) (Nat.le_refl _) ?_
        refine k_goto (tgt := 180) (pc := 193) dX5_move_193 (by decide) ?_
        have hl := dropS_len (c := cc) hpos
        refine ih _ _ (by rw [uC_C, hl]; omega) (fun e he => hw e (dropS_mem e he)) (by rw [uC_C, hl]; omega) ?_
        rw [← hd]
        show _ = dropAll (n + 1) nw cc
        simp only [dropAll, hgt, if_true]
        rfl
      · refine k_icmp_le (tgt := 196) (pc := 186) dX5_move_186 (by decide) (fun _ => ?_) (fun c => absurd (nI_le (b := 32) (by omega) (by decide)) c)
        have hd2 : dropAll (n + 1) nw cc = (nw, cc) := by simp only [dropAll, hgt, if_false]
        rw [hd2] at hd
        refine k_aload_n (pc := 196) dX5_move_196 rfl ?_
        refine k_iload_n (pc := 197) dX5_move_197 rfl ?_
        refine k_callM sv_X5_147 hst (c_writePage hst s0 hs (by omega)) (pc := 198) dX5_move_198 rfl rfl (Nat.le_of_ble_eq_true rfl) (by decide) (by decide) (Nat.le_refl _) (Nat.le_refl _) ?_
        refine k_open fun fi ai al h => ?_
        refine k_aload_n (pc := 201) dX5_move_201 rfl ?_
        refine mg_72 hst (pc := 202) dX5_move_202 ?_
        refine k_iconst (v := 2) (pc := 205) dX5_move_205 (by decide) ?_
        refine k_dup2 (pc := 206) dX5_move_206 rfl rfl ?_
        refine m_iald hst rfl (pc := 207) dX5_move_207 (show (2 : Int32) = nI 2 from rfl) (by decide) (by decide) ?_
        refine k_iconst (v := 1) (pc := 208) dX5_move_208 (by decide) ?_
        refine k_iadd (pc := 209) dX5_move_209 ?_
        refine m_iast hst rfl (pc := 210) dX5_move_210 (show (2 : Int32) = nI 2 from rfl) (by decide) (by decide) ?_
        exact k_vret (pc := 211) dX5_move_211 (fun H hH => by have := MPS.of (G := G) (A := A) (mo := mo) (ad := ad) (sl := sl) (rep_inc h (j := 2) (by decide)) H hH; unfold moveS; rw [← hd]; exact this) (Nat.le_refl _) (Nat.le_refl _)
  have fin2 : K p l e s m ([.ref mo, .int (nI s0)] : List Value).toArray below meth c (rmm 2 0 0) yX5_move.cls cX5_move 4 (none) G A (MQ below (Qd (none) (MPS G A mo ad sl (moveS S s0)) A) ([.ref mo, .int (nI s0)] : List Value).toArray s 0 0 A) 0 0 (MPN G A mo ad sl (mv2 S s0 (sL S).length) (nw2 S s0 (sL S).length)) 180 [some (.ref mo), some (.int (nI s0)), none, none] [] := by
    unfold mv2
    rw [nw2_end, mvL_end]
    have e1 : mvN S s0 (sL S).length = (sL S).filter (inSet s0) := by unfold mvN; rw [List.take_length]
    rw [e1]
    refine loop3 (newsS S s0).length _ _ (Nat.le_refl _) hwd ?_ rfl
    rw [← nw2_end]
    unfold nw2
    have := stdL_len S s0 (sP S s0).length
    have := mvN_len S s0 (sL S).length
    simp
    omega
  have loop2 : ∀ j i : Nat, i + j = (sL S).length → K p l e s m ([.ref mo, .int (nI s0)] : List Value).toArray below meth c (rmm 2 0 0) yX5_move.cls cX5_move 4 (none) G A (MQ below (Qd (none) (MPS G A mo ad sl (moveS S s0)) A) ([.ref mo, .int (nI s0)] : List Value).toArray s 0 0 A) 0 0 (MPN G A mo ad sl (mv2 S s0 i) (nw2 S s0 i)) 91 [some (.ref mo), some (.int (nI s0)), some (.int (nI i)), none] [] := by
    intro j
    induction j with
    | zero =>
      intro i hi
      have hi6 : i = (sL S).length := by omega
      subst hi6
      refine k_open fun fi ai al h => ?_
      have hf7 := h.1.1
      rw [show sL (mv2 S s0 (sL S).length) = mvL S s0 (sL S).length from rfl, mvL_len] at hf7
      refine k_iload_n (pc := 91) dX5_move_91 rfl ?_
      refine k_aload_n (pc := 92) dX5_move_92 rfl ?_
      refine mg_96 hst (pc := 93) dX5_move_93 ?_
      rw [hf7]
      refine k_icmp_ge (tgt := 180) (pc := 96) dX5_move_96 (by decide) (fun _ => ?_) (fun c => absurd (nI_le (Nat.le_refl _) (by omega)) c)
      refine k_close h ?_
      exact k_lv (fun i v h => by match i, h with | 0, h => exact h | 1, h => exact h | 2, h => cases h | 3, h => cases h | i + 4, h => cases h) fin2
    | succ j ih =>
      intro i hi
      have step := ih (i + 1) (by omega)
      obtain ⟨e0, he0⟩ : ∃ e0, (sL S)[i]? = some e0 := ⟨(sL S)[i], List.getElem?_eq_getElem (by omega)⟩
      have hnx := mvN_next (s := s0) he0
      have hat : (sL (mv2 S s0 i))[i]? = some e0 := by
        show (mvL S s0 i)[i]? = _
        rw [mvL_at, if_neg (by omega), he0]
      have hskip : inSet s0 e0 = false → K p l e s m ([.ref mo, .int (nI s0)] : List Value).toArray below meth c (rmm 2 0 0) yX5_move.cls cX5_move 4 (none) G A (MQ below (Qd (none) (MPS G A mo ad sl (moveS S s0)) A) ([.ref mo, .int (nI s0)] : List Value).toArray s 0 0 A) 0 0 (MPN G A mo ad sl (mv2 S s0 i) (nw2 S s0 i)) 174 [some (.ref mo), some (.int (nI s0)), some (.int (nI i)), none] [] := by
        intro hf
        refine k_iinc (pc := 174) dX5_move_174 rfl (nI_inc _) (by decide) rfl ?_
        refine k_goto (tgt := 91) (pc := 177) dX5_move_177 (by decide) ?_
        have e1 : mv2 S s0 (i + 1) = mv2 S s0 i := by unfold mv2; rw [mvL_skip he0 hf, hnx, hf]; simp
        have e2 : nw2 S s0 (i + 1) = nw2 S s0 i := by unfold nw2; rw [hnx, hf]; simp
        rw [e1, e2] at step
        exact step
      refine k_open fun fi ai al h => ?_
      have hf7 := h.1.1
      rw [show sL (mv2 S s0 i) = mvL S s0 i from rfl, mvL_len] at hf7
      obtain ⟨c0, -, -, -, c4, -⟩ := ent_k (h.1.2.2 i e0 hat)
      refine k_iload_n (pc := 91) dX5_move_91 rfl ?_
      refine k_aload_n (pc := 92) dX5_move_92 rfl ?_
      refine mg_96 hst (pc := 93) dX5_move_93 ?_
      rw [hf7]
      refine k_icmp_ge (tgt := 180) (pc := 96) dX5_move_96 (by decide) (fun c => absurd c (nI_ge (by omega) (by omega))) (fun _ => ?_)
      refine k_aload_n (pc := 99) dX5_move_99 rfl ?_
      refine mg_23 hst (pc := 100) dX5_move_100 ?_
      refine k_iload_n (pc := 103) dX5_move_103 rfl ?_
      refine m_zald hst rfl (pc := 104) dX5_move_104 rfl (by simp only [mln]; omega) (by decide) ?_
      rw [c4]
      refine k_if_eq (tgt := 174) (pc := 105) dX5_move_105 (by decide) (fun h1 => ?_) (fun h1 => ?_)
      · exact k_close h (hskip (by simp [inSet, bI_f h1]))
      · refine k_aload_n (pc := 108) dX5_move_108 rfl ?_
        refine k_aload_n (pc := 109) dX5_move_109 rfl ?_
        refine mg_7 hst (pc := 110) dX5_move_110 ?_
        refine k_iload_n (pc := 113) dX5_move_113 rfl ?_
        refine m_lald hst rfl (pc := 114) dX5_move_114 rfl (by simp only [mln]; omega) (by decide) ?_
        rw [c0]
        refine k_close h ?_
        refine k_callM sv_X5_88 hst (n_setOf hst e0.1.1) (pc := 115) dX5_move_115 rfl rfl (Nat.le_of_ble_eq_true rfl) (by decide) (by decide) (Nat.le_refl _) (Nat.le_refl _) ?_
        refine k_iload_n (pc := 118) dX5_move_118 rfl ?_
        refine k_icmp_ne (tgt := 174) (pc := 119) dX5_move_119 (by decide) (fun h2 => ?_) (fun h2 => ?_)
        · refine hskip ?_
          have : ¬ setN e0.1.1 = s0 := fun z => h2 (by rw [z])
          simp [inSet, this]
        · have hse : setN e0.1.1 = s0 := (nI_eq (by have := setN_lt e0.1.1; omega) (by omega)).mp h2
          have hin : inSet s0 e0 = true := by simp [inSet, bI_t h1, hse]
          refine k_open fun fi1 ai1 al1 hr1 => ?_
          obtain ⟨d0, d1, d2, d3, d4, d5, d6⟩ := ent_k (hr1.1.2.2 i e0 hat)
          refine k_aload_n (pc := 122) dX5_move_122 rfl ?_
          refine k_aload_n (pc := 123) dX5_move_123 rfl ?_
          refine mg_7 hst (pc := 124) dX5_move_124 ?_
          refine k_iload_n (pc := 127) dX5_move_127 rfl ?_
          refine m_lald hst rfl (pc := 128) dX5_move_128 rfl (by simp only [mln]; omega) (by decide) ?_
          refine k_aload_n (pc := 129) dX5_move_129 rfl ?_
          refine mg_13 hst (pc := 130) dX5_move_130 ?_
          refine k_iload_n (pc := 133) dX5_move_133 rfl ?_
          refine m_iald hst rfl (pc := 134) dX5_move_134 rfl (by simp only [mln]; omega) (by decide) ?_
          refine k_aload_n (pc := 135) dX5_move_135 rfl ?_
          refine mg_17 hst (pc := 136) dX5_move_136 ?_
          refine k_iload_n (pc := 139) dX5_move_139 rfl ?_
          refine m_iald hst rfl (pc := 140) dX5_move_140 rfl (by simp only [mln]; omega) (by decide) ?_
          refine k_aload_n (pc := 141) dX5_move_141 rfl ?_
          refine mg_20 hst (pc := 142) dX5_move_142 ?_
          refine k_iload_n (pc := 145) dX5_move_145 rfl ?_
          refine m_iald hst rfl (pc := 146) dX5_move_146 rfl (by simp only [mln]; omega) (by decide) ?_
          refine k_aload_n (pc := 147) dX5_move_147 rfl ?_
          refine mg_27 hst (pc := 148) dX5_move_148 ?_
          refine k_iload_n (pc := 151) dX5_move_151 rfl ?_
          refine m_zald hst rfl (pc := 152) dX5_move_152 rfl (by simp only [mln]; omega) (by decide) ?_
          refine k_iconst (v := 0) (pc := 153) dX5_move_153 (by decide) ?_
          rw [d0, d1, d2, d3, d5]
          refine k_close hr1 ?_
          refine k_callM sv_X5_136 hst (c_addNew hst e0.1.1 e0.1.2.1 e0.1.2.2.1 e0.1.2.2.2 e0.2.2.1 false (by unfold nw2; have := stdL_len S s0 (sP S s0).length; have := mvN_len S s0 i; simp; omega)) (pc := 154) dX5_move_154 rfl rfl (Nat.le_of_ble_eq_true rfl) (by decide) (by decide) (Nat.le_refl _) (Nat.le_refl _) ?_
          refine k_open fun fi2 ai2 al2 hr2 => ?_
          refine k_aload_n (pc := 157) dX5_move_157 rfl ?_
          refine mg_23 hst (pc := 158) dX5_move_158 ?_
          refine k_iload_n (pc := 161) dX5_move_161 rfl ?_
          refine k_iconst (v := 0) (pc := 162) dX5_move_162 (by decide) ?_
          refine m_zast hst rfl (pc := 163) dX5_move_163 rfl (by simp only [mln]; omega) (by decide) rfl ?_
          refine k_aload_n (pc := 164) dX5_move_164 rfl ?_
          refine mg_72 hst (pc := 165) dX5_move_165 ?_
          refine k_iconst (v := 5) (pc := 168) dX5_move_168 (by decide) ?_
          refine k_dup2 (pc := 169) dX5_move_169 rfl rfl ?_
          refine m_iald hst rfl (pc := 170) dX5_move_170 (show (5 : Int32) = nI 5 from rfl) (by decide) (by decide) ?_
          refine k_iconst (v := 1) (pc := 171) dX5_move_171 (by decide) ?_
          refine k_iadd (pc := 172) dX5_move_172 ?_
          refine m_iast hst rfl (pc := 173) dX5_move_173 (show (5 : Int32) = nI 5 from rfl) (by decide) (by decide) ?_
          refine k_iinc (pc := 174) dX5_move_174 rfl (nI_inc _) (by decide) rfl ?_
          refine k_goto (tgt := 91) (pc := 177) dX5_move_177 (by decide) ?_
          have hR := rep_inc (rep_kill hr2 i) (j := 5) (by decide)
          have e1 : mv2 S s0 (i + 1) = uC (uL (mv2 S s0 i) (killAt (sL (mv2 S s0 i)) i)) (inc (sC (uL (mv2 S s0 i) (killAt (sL (mv2 S s0 i)) i))) 5) := by
            unfold mv2
            rw [mvL_kill he0 hin, hnx, hin]
            simp only [uL_C, uC_C, uC_L, uL_L, addN_inc, if_true, List.length_append, List.length_singleton]
            rfl
          have e2 : nw2 S s0 (i + 1) = nw2 S s0 i ++ [((e0.1.1, e0.1.2.1, e0.1.2.2.1, e0.1.2.2.2), e0.2.2.1, false)] := by
            unfold nw2
            rw [hnx, hin]
            simp
          rw [e1, e2] at step
          exact k_close hR step
  have loop1 : ∀ j i : Nat, i + j = (sP S s0).length → K p l e s m ([.ref mo, .int (nI s0)] : List Value).toArray below meth c (rmm 2 0 0) yX5_move.cls cX5_move 4 (none) G A (MQ below (Qd (none) (MPS G A mo ad sl (moveS S s0)) A) ([.ref mo, .int (nI s0)] : List Value).toArray s 0 0 A) 0 0 (MPN G A mo ad sl (uC S (inc (sC S) 11)) (stdL S s0 i)) 18 [some (.ref mo), some (.int (nI s0)), some (.int (nI i)), none] [] := by
    intro j
    induction j with
    | zero =>
      intro i hi
      have hi6 : i = (sP S s0).length := by omega
      subst hi6
      have l2 := loop2 (sL S).length 0 (by omega)
      have e1 : mv2 S s0 0 = uC S (inc (sC S) 11) := by unfold mv2 mvL mvN; simp [addN_0]; rfl
      have e2 : nw2 S s0 0 = stdL S s0 (sP S s0).length := by unfold nw2 mvN; simp
      rw [e1, e2] at l2
      refine k_open fun fi ai al h => ?_
      obtain ⟨p1, p2, p3⟩ := h.2.2.1 s0 hs
      rw [uC_P] at p1
      refine k_iload_n (pc := 18) dX5_move_18 rfl ?_
      refine k_aload_n (pc := 19) dX5_move_19 rfl ?_
      refine mg_51 hst (pc := 20) dX5_move_20 ?_
      refine k_iload_n (pc := 23) dX5_move_23 rfl ?_
      refine m_iald hst rfl (pc := 24) dX5_move_24 rfl hs (by decide) ?_
      rw [p1]
      refine k_icmp_ge (tgt := 89) (pc := 25) dX5_move_25 (by decide) (fun _ => ?_) (fun c => absurd (nI_le (Nat.le_refl _) (by omega)) c)
      refine k_iconst (v := 0) (pc := 89) dX5_move_89 (by decide) ?_
      refine k_istore_n (pc := 90) dX5_move_90 (by decide) rfl ?_
      exact k_close h l2
    | succ j ih =>
      intro i hi
      have step := ih (i + 1) (by omega)
      obtain ⟨e0, he0⟩ : ∃ e0, (sP S s0)[i]? = some e0 := ⟨(sP S s0)[i], List.getElem?_eq_getElem (by omega)⟩
      rw [stdL_next he0] at step
      refine k_open fun fi ai al h => ?_
      obtain ⟨p1, p2, p3⟩ := h.2.2.1 s0 hs
      rw [uC_P] at p1 p3
      obtain ⟨c0, -⟩ := pent_k (p3 i e0 he0)
      refine k_iload_n (pc := 18) dX5_move_18 rfl ?_
      refine k_aload_n (pc := 19) dX5_move_19 rfl ?_
      refine mg_51 hst (pc := 20) dX5_move_20 ?_
      refine k_iload_n (pc := 23) dX5_move_23 rfl ?_
      refine m_iald hst rfl (pc := 24) dX5_move_24 rfl hs (by decide) ?_
      rw [p1]
      refine k_icmp_ge (tgt := 89) (pc := 25) dX5_move_25 (by decide) (fun c => absurd c (nI_ge (by omega) (by omega))) (fun _ => ?_)
      refine k_bipush (v := 8) (pc := 28) dX5_move_28 (by decide) ?_
      refine k_iload_n (pc := 30) dX5_move_30 rfl ?_
      refine k_imul (pc := 31) dX5_move_31 ?_
      refine k_iload_n (pc := 32) dX5_move_32 rfl ?_
      refine k_iadd (pc := 33) dX5_move_33 ?_
      rw [nI_8]
      refine k_istore_n (pc := 34) dX5_move_34 (by decide) rfl ?_
      refine k_aload_n (pc := 35) dX5_move_35 rfl ?_
      refine k_aload_n (pc := 36) dX5_move_36 rfl ?_
      refine mg_36 hst (pc := 37) dX5_move_37 ?_
      refine k_iload_n (pc := 40) dX5_move_40 rfl ?_
      refine m_lald hst rfl (pc := 41) dX5_move_41 rfl (by simp only [mln]; omega) (by decide) ?_
      rw [c0]
      refine k_close h ?_
      refine k_callM sv_X5_133 hst (n_inLog hst e0.1.1) (pc := 42) dX5_move_42 rfl rfl (Nat.le_of_ble_eq_true rfl) (by decide) (by decide) (Nat.le_refl _) (Nat.le_refl _) ?_
      rw [show sL (uC S (inc (sC S) 11)) = sL S from rfl]
      cases hx : lastIx (sL S) e0.1.1 (sL S).length with
      | some q =>
        rw [hx] at step
        have hq : q < 2 ^ 31 := by
          have : ∀ n q, lastIx (sL S) e0.1.1 n = some q → q < n := by
            intro n
            induction n with
            | zero => intro q hq; cases hq
            | succ n ih2 =>
              intro q hq
              simp only [lastIx] at hq
              split at hq
              · split at hq
                · cases hq; omega
                · have := ih2 q hq; omega
              · have := ih2 q hq; omega
          have := this _ _ hx
          omega
        refine k_if_ge (tgt := 83) (pc := 45) dX5_move_45 (by decide) (fun _ => ?_) (fun c => absurd (nI_pos' hq) c)
        refine k_iinc (pc := 83) dX5_move_83 rfl (nI_inc _) (by decide) rfl ?_
        refine k_goto (tgt := 18) (pc := 86) dX5_move_86 (by decide) ?_
        refine k_lv (lv2 := [some (.ref mo), some (.int (nI s0)), some (.int (nI (i + 1))), none]) (fun i v h => by match i, h with | 0, h => exact h | 1, h => exact h | 2, h => exact h | 3, h => cases h | i + 4, h => cases h) ?_
        simp only [Option.isNone_some, if_false, List.append_nil, Bool.false_eq_true] at step
        exact step
      | none =>
        rw [hx] at step
        refine k_if_ge (tgt := 83) (pc := 45) dX5_move_45 (by decide) (fun c => absurd c (by decide)) (fun _ => ?_)
        refine k_open fun fi1 ai1 al1 hr1 => ?_
        obtain ⟨p1, p2, p3⟩ := hr1.2.2.1 s0 hs
        rw [uC_P] at p3
        obtain ⟨d0, d1, d2, d3, d4⟩ := pent_k (p3 i e0 he0)
        refine k_aload_n (pc := 48) dX5_move_48 rfl ?_
        refine k_aload_n (pc := 49) dX5_move_49 rfl ?_
        refine mg_36 hst (pc := 50) dX5_move_50 ?_
        refine k_iload_n (pc := 53) dX5_move_53 rfl ?_
        refine m_lald hst rfl (pc := 54) dX5_move_54 rfl (by simp only [mln]; omega) (by decide) ?_
        refine k_aload_n (pc := 55) dX5_move_55 rfl ?_
        refine mg_39 hst (pc := 56) dX5_move_56 ?_
        refine k_iload_n (pc := 59) dX5_move_59 rfl ?_
        refine m_iald hst rfl (pc := 60) dX5_move_60 rfl (by simp only [mln]; omega) (by decide) ?_
        refine k_aload_n (pc := 61) dX5_move_61 rfl ?_
        refine mg_42 hst (pc := 62) dX5_move_62 ?_
        refine k_iload_n (pc := 65) dX5_move_65 rfl ?_
        refine m_iald hst rfl (pc := 66) dX5_move_66 rfl (by simp only [mln]; omega) (by decide) ?_
        refine k_aload_n (pc := 67) dX5_move_67 rfl ?_
        refine mg_45 hst (pc := 68) dX5_move_68 ?_
        refine k_iload_n (pc := 71) dX5_move_71 rfl ?_
        refine m_iald hst rfl (pc := 72) dX5_move_72 rfl (by simp only [mln]; omega) (by decide) ?_
        refine k_aload_n (pc := 73) dX5_move_73 rfl ?_
        refine mg_48 hst (pc := 74) dX5_move_74 ?_
        refine k_iload_n (pc := 77) dX5_move_77 rfl ?_
        refine m_zald hst rfl (pc := 78) dX5_move_78 rfl (by simp only [mln]; omega) (by decide) ?_
        refine k_iconst (v := 1) (pc := 79) dX5_move_79 (by decide) ?_
        rw [d0, d1, d2, d3, d4]
        refine k_close hr1 ?_
        refine k_callM sv_X5_136 hst (c_addNew hst e0.1.1 e0.1.2.1 e0.1.2.2.1 e0.1.2.2.2 e0.2 true (by have := stdL_len S s0 i; omega)) (pc := 80) dX5_move_80 rfl rfl (Nat.le_of_ble_eq_true rfl) (by decide) (by decide) (Nat.le_refl _) (Nat.le_refl _) ?_
        refine k_iinc (pc := 83) dX5_move_83 rfl (nI_inc _) (by decide) rfl ?_
        refine k_goto (tgt := 18) (pc := 86) dX5_move_86 (by decide) ?_
        refine k_lv (lv2 := [some (.ref mo), some (.int (nI s0)), some (.int (nI (i + 1))), none]) (fun i v h => by match i, h with | 0, h => exact h | 1, h => exact h | 2, h => exact h | 3, h => cases h | i + 4, h => cases h) ?_
        exact step
  refine k_aload_n (pc := 0) dX5_move_0 rfl ?_
  refine k_iconst (v := 0) (pc := 1) dX5_move_1 (by decide) ?_
  refine mp_130 hst (pc := 2) dX5_move_2 rfl rfl ?_
  refine k_aload_n (pc := 5) dX5_move_5 rfl ?_
  refine mg_72 hst (pc := 6) dX5_move_6 ?_
  refine k_bipush (v := 11) (pc := 9) dX5_move_9 (by decide) ?_
  refine k_dup2 (pc := 11) dX5_move_11 rfl rfl ?_
  refine m_iald hst rfl (pc := 12) dX5_move_12 (show (11 : Int32) = nI 11 from rfl) (by decide) (by decide) ?_
  refine k_iconst (v := 1) (pc := 13) dX5_move_13 (by decide) ?_
  refine k_iadd (pc := 14) dX5_move_14 ?_
  refine m_iast hst rfl (pc := 15) dX5_move_15 (show (11 : Int32) = nI 11 from rfl) (by decide) (by decide) ?_
  refine k_iconst (v := 0) (pc := 16) dX5_move_16 (by decide) ?_
  refine k_istore_n (pc := 17) dX5_move_17 (by decide) rfl ?_
  have l0 := loop1 (sP S s0).length 0 (by omega)
  refine k_close (S := uC S (inc (sC S) 11)) (nw := stdL S s0 0) ?_ l0
  have hr := rep_inc h0 (j := 11) (by decide)
  obtain ⟨g1, -, g3, g4⟩ := hr
  exact ⟨g1, ⟨rfl, by simp [stdL], fun k e he => by simp [stdL] at he⟩, g3, g4⟩
end REFI
end
section
/-- what handle needs of the state, at the entry e -/
def HOk (S : SS) (k : Nat) : Prop := Lb S ∧ sH S < 8 ∧ sO S ≤ 32 ∧ (sL S).length ≤ 600 ∧ ∀ e, (sL S)[k]? = some e → e.1.2.1 ≤ 12 ∧ (sO S + plc e.1 > 32 → sN S (sH S) ≤ 2) ∧ ∀ x ∈ newsS S (setN e.1.1), 1 ≤ x.1.2.1 ∧ x.1.2.1 ≤ 12
theorem lb_kill {S : SS} (h : Lb S) (k : Nat) : ∀ e ∈ killAt (sL S) k, e.2.2.2 < 40 ∧ (e.2.2.2 / 4 = 8 → e.2.2.2 = 32) := by
  intro e he
  obtain ⟨j, hj⟩ := List.getElem?_of_mem he
  unfold killAt at hj
  rw [List.getElem?_modify] at hj
  by_cases hkj : k = j
  · simp only [hkj, if_true, Option.map_eq_map, Option.map_eq_some_iff] at hj
    obtain ⟨e0, he0, rfl⟩ := hj
    exact h e0 (List.mem_of_getElem? he0)
  · simp only [hkj, if_false] at hj
    exact h e (List.mem_of_getElem? (by simpa using hj))
theorem mvN_cnt {S : SS} {s i : Nat} {e : En} (he : (sL S)[i]? = some e) : nI (mvN S s i).length + (if inSet s e then 1 else 0) = nI (mvN S s (i + 1)).length := by
  rw [mvN_next he]
  by_cases h : inSet s e
  · simp [h, nI_1]
  · simp [h]
section REFJ
variable {p : Program} {l : Launch} {e : Env} {s : State} {m : MethodId} {args : Array Value} {below : List Frame} {meth : Method} {c : Code} {R : Room} {G : Gd} {A : Nat → Prop} {Q : State → Prop} {k n : Nat} {mo : Nat} {ad sl : Nat → Nat} {S : SS} {nw : List Ne}
set_option maxRecDepth 4000 in
theorem c_handle (hst : MSt mo ad sl) (k0 : Nat) (e0 : En) (he : (sL S)[k0]? = some e0) (hok : HOk S k0) : Ct 5 0 0 yX5_handle cX5_handle 5 (none) G A [.ref mo, .int (nI k0)] (MPN G A mo ad sl S nw) (none) (MPS G A mo ad sl (handleS S k0)) := by
  refine Ct.of 3 rfl rfl (Nat.le_of_ble_eq_true rfl) ?_
  intro p l e s m below meth c hini
  obtain ⟨hb, hH, hO, hlen, hrest⟩ := hok
  obtain ⟨hw, hN, hnews⟩ := hrest e0 he
  have hk0 : k0 < (sL S).length := (List.getElem?_eq_some_iff.mp he).1
  have hs := setN_lt e0.1.1
  have tail : K p l e s m ([.ref mo, .int (nI k0)] : List Value).toArray below meth c (rmm 5 0 0) yX5_handle.cls cX5_handle 5 (none) G A (MQ below (Qd (none) (MPS G A mo ad sl (handleS S k0)) A) ([.ref mo, .int (nI k0)] : List Value).toArray s 0 0 A) 0 0 (MPN G A mo ad sl S nw) 64 [some (.ref mo), some (.int (nI k0)), some (.int (nI (setN e0.1.1))), some (.int (nI (mvN S (setN e0.1.1) (sL S).length).length)), none] [] := by
    have e1 : mvN S (setN e0.1.1) (sL S).length = (sL S).filter (inSet (setN e0.1.1)) := by unfold mvN; rw [List.take_length]
    have hl2 : ((sL S).filter (inSet (setN e0.1.1))).length ≤ (sL S).length := List.length_filter_le _ _
    rw [e1]
    by_cases hmany : ((sL S).filter (inSet (setN e0.1.1))).length > 1
    · have hh : handleS S k0 = moveS S (setN e0.1.1) := by unfold handleS; rw [he]; exact if_pos hmany
      rw [hh]
      refine k_iload_n (pc := 64) dX5_handle_64 rfl ?_
      refine k_iconst (v := 1) (pc := 65) dX5_handle_65 (by decide) ?_
      refine k_icmp_le (tgt := 75) (pc := 66) dX5_handle_66 (by decide) (fun c => absurd c (nI_ge (a := 1) hmany (by omega))) (fun _ => ?_)
      refine k_aload_n (pc := 69) dX5_handle_69 rfl ?_
      refine k_iload_n (pc := 70) dX5_handle_70 rfl ?_
      refine k_callM sv_X5_119 hst (c_move hst (setN e0.1.1) hs hlen hnews) (pc := 71) dX5_handle_71 rfl rfl (Nat.le_of_ble_eq_true rfl) (by decide) (by decide) (Nat.le_refl _) (Nat.le_refl _) ?_
      exact k_vret (pc := 74) dX5_handle_74 (fun _ h => h) (Nat.le_refl _) (Nat.le_refl _)
    · refine k_iload_n (pc := 64) dX5_handle_64 rfl ?_
      refine k_iconst (v := 1) (pc := 65) dX5_handle_65 (by decide) ?_
      refine k_icmp_le (tgt := 75) (pc := 66) dX5_handle_66 (by decide) (fun _ => ?_) (fun c => absurd (nI_le (b := 1) (by omega) (by decide)) c)
      refine k_open fun fi ai al h => ?_
      obtain ⟨c0, c1, c2, c3, c4, c5, c6⟩ := ent_k (h.1.2.2 k0 e0 he)
      refine k_aload_n (pc := 75) dX5_handle_75 rfl ?_
      refine mg_23 hst (pc := 76) dX5_handle_76 ?_
      refine k_iload_n (pc := 79) dX5_handle_79 rfl ?_
      refine k_iconst (v := 0) (pc := 80) dX5_handle_80 (by decide) ?_
      refine m_zast hst rfl (pc := 81) dX5_handle_81 rfl (by simp only [mln]; omega) (by decide) rfl ?_
      refine k_aload_n (pc := 82) dX5_handle_82 rfl ?_
      refine mg_27 hst (pc := 83) dX5_handle_83 ?_
      refine k_iload_n (pc := 86) dX5_handle_86 rfl ?_
      refine m_zald hst rfl (pc := 87) dX5_handle_87 rfl (by simp only [mln]; omega) (by decide) ?_
      rw [up2_at, if_neg (by omega), c5]
      have hkill := rep_kill h k0
      have q0 : al 0 k0 = e0.1.1 := c0
      have q1 : ∀ x y, up2 (up2 ai 4 k0 0) 24 x y 1 k0 = nI e0.1.2.1 := fun x y => by rw [up2_at, if_neg (by omega), up2_at, if_neg (by omega), c1]
      have q2 : ∀ x y, up2 (up2 ai 4 k0 0) 24 x y 2 k0 = e0.1.2.2.1 := fun x y => by rw [up2_at, if_neg (by omega), up2_at, if_neg (by omega), c2]
      have q3 : ∀ x y, up2 (up2 ai 4 k0 0) 24 x y 3 k0 = e0.1.2.2.2 := fun x y => by rw [up2_at, if_neg (by omega), up2_at, if_neg (by omega), c3]
      cases hmk : e0.2.2.1 with
      | true =>
        have hh : handleS S k0 = anewS (uC (uL S (killAt (sL S) k0)) (inc (sC S) 10)) e0.1 := by unfold handleS; rw [he]; exact (if_neg hmany).trans (if_pos hmk)
        rw [hh]
        refine k_if_eq (tgt := 133) (pc := 88) dX5_handle_88 (by decide) (fun c => absurd c ((show ¬ bI true = 0 by decide))) (fun _ => ?_)
        refine k_aload_n (pc := 91) dX5_handle_91 rfl ?_
        refine mg_72 hst (pc := 92) dX5_handle_92 ?_
        refine k_bipush (v := 10) (pc := 95) dX5_handle_95 (by decide) ?_
        refine k_dup2 (pc := 97) dX5_handle_97 rfl rfl ?_
        refine m_iald hst rfl (pc := 98) dX5_handle_98 (show (10 : Int32) = nI 10 from rfl) (by decide) (by decide) ?_
        refine k_iconst (v := 1) (pc := 99) dX5_handle_99 (by decide) ?_
        refine k_iadd (pc := 100) dX5_handle_100 ?_
        refine m_iast hst rfl (pc := 101) dX5_handle_101 (show (10 : Int32) = nI 10 from rfl) (by decide) (by decide) ?_
        refine k_aload_n (pc := 102) dX5_handle_102 rfl ?_
        refine k_aload_n (pc := 103) dX5_handle_103 rfl ?_
        refine mg_7 hst (pc := 104) dX5_handle_104 ?_
        refine k_iload_n (pc := 107) dX5_handle_107 rfl ?_
        refine m_lald hst rfl (pc := 108) dX5_handle_108 rfl (by simp only [mln]; omega) (by decide) ?_
        refine k_aload_n (pc := 109) dX5_handle_109 rfl ?_
        refine mg_13 hst (pc := 110) dX5_handle_110 ?_
        refine k_iload_n (pc := 113) dX5_handle_113 rfl ?_
        refine m_iald hst rfl (pc := 114) dX5_handle_114 rfl (by simp only [mln]; omega) (by decide) ?_
        refine k_aload_n (pc := 115) dX5_handle_115 rfl ?_
        refine mg_17 hst (pc := 116) dX5_handle_116 ?_
        refine k_iload_n (pc := 119) dX5_handle_119 rfl ?_
        refine m_iald hst rfl (pc := 120) dX5_handle_120 rfl (by simp only [mln]; omega) (by decide) ?_
        refine k_aload_n (pc := 121) dX5_handle_121 rfl ?_
        refine mg_20 hst (pc := 122) dX5_handle_122 ?_
        refine k_iload_n (pc := 125) dX5_handle_125 rfl ?_
        refine m_iald hst rfl (pc := 126) dX5_handle_126 rfl (by simp only [mln]; omega) (by decide) ?_
        rw [q0, q1, q2, q3]
        refine k_close (rep_inc hkill (j := 10) (by decide)) ?_
        refine k_callM sv_X5_122 hst (c_app0 hst e0.1.1 e0.1.2.1 e0.1.2.2.1 e0.1.2.2.2 hw hO hH hN (lb_kill hb k0) (by rw [uC_L, uL_L]; simp [killAt]; omega)) (pc := 127) dX5_handle_127 rfl rfl (Nat.le_of_ble_eq_true rfl) (by decide) (by decide) (Nat.le_refl _) (Nat.le_refl _) ?_
        refine k_goto (tgt := 157) (pc := 130) dX5_handle_130 (by decide) ?_
        exact k_vret (pc := 157) dX5_handle_157 (fun _ h => ⟨_, h⟩) (Nat.le_refl _) (Nat.le_refl _)
      | false =>
        have hh : handleS S k0 = (takeS (uC (uL S (killAt (sL S) k0)) (inc (sC S) 9)) e0.1.1 3).1 := by unfold handleS; rw [he]; exact (if_neg hmany).trans (if_neg (by rw [hmk]; decide))
        rw [hh]
        refine k_if_eq (tgt := 133) (pc := 88) dX5_handle_88 (by decide) (fun _ => ?_) (fun c => absurd ((show bI false = 0 by decide)) c)
        refine k_aload_n (pc := 133) dX5_handle_133 rfl ?_
        refine mg_72 hst (pc := 134) dX5_handle_134 ?_
        refine k_bipush (v := 9) (pc := 137) dX5_handle_137 (by decide) ?_
        refine k_dup2 (pc := 139) dX5_handle_139 rfl rfl ?_
        refine m_iald hst rfl (pc := 140) dX5_handle_140 (show (9 : Int32) = nI 9 from rfl) (by decide) (by decide) ?_
        refine k_iconst (v := 1) (pc := 141) dX5_handle_141 (by decide) ?_
        refine k_iadd (pc := 142) dX5_handle_142 ?_
        refine m_iast hst rfl (pc := 143) dX5_handle_143 (show (9 : Int32) = nI 9 from rfl) (by decide) (by decide) ?_
        refine k_aload_n (pc := 144) dX5_handle_144 rfl ?_
        refine k_aload_n (pc := 145) dX5_handle_145 rfl ?_
        refine mg_7 hst (pc := 146) dX5_handle_146 ?_
        refine k_iload_n (pc := 149) dX5_handle_149 rfl ?_
        refine m_lald hst rfl (pc := 150) dX5_handle_150 rfl (by simp only [mln]; omega) (by decide) ?_
        refine k_iconst (v := 3) (pc := 151) dX5_handle_151 (by decide) ?_
        rw [q0]
        refine k_close (rep_inc hkill (j := 9) (by decide)) ?_
        refine k_callM sv_X5_126 hst (c_takeOut hst e0.1.1 3 (by decide)) (pc := 152) dX5_handle_152 rfl rfl (Nat.le_of_ble_eq_true rfl) (by decide) (by decide) (Nat.le_refl _) (Nat.le_refl _) ?_
        refine k_istore (pc := 155) dX5_handle_155 (by decide) rfl ?_
        exact k_vret (pc := 157) dX5_handle_157 (fun _ h => ⟨_, h⟩) (Nat.le_refl _) (Nat.le_refl _)
  have loop : ∀ j i : Nat, i + j = (sL S).length → K p l e s m ([.ref mo, .int (nI k0)] : List Value).toArray below meth c (rmm 5 0 0) yX5_handle.cls cX5_handle 5 (none) G A (MQ below (Qd (none) (MPS G A mo ad sl (handleS S k0)) A) ([.ref mo, .int (nI k0)] : List Value).toArray s 0 0 A) 0 0 (MPN G A mo ad sl S nw) 16 [some (.ref mo), some (.int (nI k0)), some (.int (nI (setN e0.1.1))), some (.int (nI (mvN S (setN e0.1.1) i).length)), some (.int (nI i))] [] := by
    intro j
    induction j with
    | zero =>
      intro i hi
      have hi6 : i = (sL S).length := by omega
      subst hi6
      refine k_open fun fi ai al h => ?_
      refine k_iload (pc := 16) dX5_handle_16 rfl ?_
      refine k_aload_n (pc := 18) dX5_handle_18 rfl ?_
      refine mg_96 hst (pc := 19) dX5_handle_19 ?_
      rw [h.1.1]
      refine k_icmp_ge (tgt := 64) (pc := 22) dX5_handle_22 (by decide) (fun _ => ?_) (fun c => absurd (nI_le (Nat.le_refl _) (by omega)) c)
      refine k_close h ?_
      exact k_lv (fun i v h => by match i, h with | 0, h => exact h | 1, h => exact h | 2, h => exact h | 3, h => exact h | 4, h => cases h | i + 5, h => cases h) tail
    | succ j ih =>
      intro i hi
      have step := ih (i + 1) (by omega)
      obtain ⟨e1, he1⟩ : ∃ e1, (sL S)[i]? = some e1 := ⟨(sL S)[i], List.getElem?_eq_getElem (by omega)⟩
      rw [← mvN_cnt he1] at step
      refine k_open fun fi ai al h => ?_
      obtain ⟨c0, -, -, -, c4, -⟩ := ent_k (h.1.2.2 i e1 he1)
      refine k_iload (pc := 16) dX5_handle_16 rfl ?_
      refine k_aload_n (pc := 18) dX5_handle_18 rfl ?_
      refine mg_96 hst (pc := 19) dX5_handle_19 ?_
      rw [h.1.1]
      refine k_icmp_ge (tgt := 64) (pc := 22) dX5_handle_22 (by decide) (fun c => absurd c (nI_ge (by omega) (by omega))) (fun _ => ?_)
      refine k_iload_n (pc := 25) dX5_handle_25 rfl ?_
      refine k_aload_n (pc := 26) dX5_handle_26 rfl ?_
      refine mg_23 hst (pc := 27) dX5_handle_27 ?_
      refine k_iload (pc := 30) dX5_handle_30 rfl ?_
      refine m_zald hst rfl (pc := 32) dX5_handle_32 rfl (by simp only [mln]; omega) (by decide) ?_
      rw [c4]
      refine k_if_eq (tgt := 55) (pc := 33) dX5_handle_33 (by decide) (fun h1 => ?_) (fun h1 => ?_)
      · have hin : inSet (setN e0.1.1) e1 = false := by simp [inSet, bI_f h1]
        rw [hin] at step
        refine k_iconst (v := 0) (pc := 55) dX5_handle_55 (by decide) ?_
        refine k_iadd (pc := 56) dX5_handle_56 ?_
        refine k_istore_n (pc := 57) dX5_handle_57 (by decide) rfl ?_
        refine k_iinc (pc := 58) dX5_handle_58 rfl (nI_inc _) (by decide) rfl ?_
        refine k_goto (tgt := 16) (pc := 61) dX5_handle_61 (by decide) ?_
        exact k_close h step
      · refine k_aload_n (pc := 36) dX5_handle_36 rfl ?_
        refine k_aload_n (pc := 37) dX5_handle_37 rfl ?_
        refine mg_7 hst (pc := 38) dX5_handle_38 ?_
        refine k_iload (pc := 41) dX5_handle_41 rfl ?_
        refine m_lald hst rfl (pc := 43) dX5_handle_43 rfl (by simp only [mln]; omega) (by decide) ?_
        rw [c0]
        refine k_close h ?_
        refine k_callM sv_X5_88 hst (n_setOf hst e1.1.1) (pc := 44) dX5_handle_44 rfl rfl (Nat.le_of_ble_eq_true rfl) (by decide) (by decide) (Nat.le_refl _) (Nat.le_refl _) ?_
        refine k_iload_n (pc := 47) dX5_handle_47 rfl ?_
        refine k_icmp_ne (tgt := 55) (pc := 48) dX5_handle_48 (by decide) (fun h2 => ?_) (fun h2 => ?_)
        · have hin : inSet (setN e0.1.1) e1 = false := by
            have : ¬ setN e1.1.1 = setN e0.1.1 := fun z => h2 (by rw [z])
            simp [inSet, this]
          rw [hin] at step
          refine k_iconst (v := 0) (pc := 55) dX5_handle_55 (by decide) ?_
          refine k_iadd (pc := 56) dX5_handle_56 ?_
          refine k_istore_n (pc := 57) dX5_handle_57 (by decide) rfl ?_
          refine k_iinc (pc := 58) dX5_handle_58 rfl (nI_inc _) (by decide) rfl ?_
          refine k_goto (tgt := 16) (pc := 61) dX5_handle_61 (by decide) ?_
          exact step
        · have hse : setN e1.1.1 = setN e0.1.1 := (nI_eq (by have := setN_lt e1.1.1; omega) (by omega)).mp h2
          have hin : inSet (setN e0.1.1) e1 = true := by simp [inSet, bI_t h1, hse]
          rw [hin] at step
          refine k_iconst (v := 1) (pc := 51) dX5_handle_51 (by decide) ?_
          refine k_goto (tgt := 56) (pc := 52) dX5_handle_52 (by decide) ?_
          refine k_iadd (pc := 56) dX5_handle_56 ?_
          refine k_istore_n (pc := 57) dX5_handle_57 (by decide) rfl ?_
          refine k_iinc (pc := 58) dX5_handle_58 rfl (nI_inc _) (by decide) rfl ?_
          refine k_goto (tgt := 16) (pc := 61) dX5_handle_61 (by decide) ?_
          exact step
  refine k_open fun fi ai al h => ?_
  obtain ⟨c0, -⟩ := ent_k (h.1.2.2 k0 e0 he)
  refine k_aload_n (pc := 0) dX5_handle_0 rfl ?_
  refine k_aload_n (pc := 1) dX5_handle_1 rfl ?_
  refine mg_7 hst (pc := 2) dX5_handle_2 ?_
  refine k_iload_n (pc := 5) dX5_handle_5 rfl ?_
  refine m_lald hst rfl (pc := 6) dX5_handle_6 rfl (by simp only [mln]; omega) (by decide) ?_
  rw [c0]
  refine k_close h ?_
  refine k_callM sv_X5_88 hst (n_setOf hst e0.1.1) (pc := 7) dX5_handle_7 rfl rfl (Nat.le_of_ble_eq_true rfl) (by decide) (by decide) (Nat.le_refl _) (Nat.le_refl _) ?_
  refine k_istore_n (pc := 10) dX5_handle_10 (by decide) rfl ?_
  refine k_iconst (v := 0) (pc := 11) dX5_handle_11 (by decide) ?_
  refine k_istore_n (pc := 12) dX5_handle_12 (by decide) rfl ?_
  refine k_iconst (v := 0) (pc := 13) dX5_handle_13 (by decide) ?_
  refine k_istore (pc := 14) dX5_handle_14 (by decide) rfl ?_
  exact loop (sL S).length 0 (by omega)
end REFJ
end
section
def OkL : Nat → Nat → SS → Prop
  | 0, _, _ => True
  | n + 1, k, S => (∃ e, (sL S)[k]? = some e ∧ e.2.2.2 < 40 ∧ (isOut e = true ∧ e.2.1 = true → HOk S k)) ∧ OkL n (k + 1) (stepS S k)
def OkE (S : SS) (h : Nat) : Prop := Lb S ∧ Lb (outS S h) ∧ OkL (sL (forget (outS S h))).length 0 (forget (outS S h)) ∧ Lb (loopS (sL (forget (outS S h))).length 0 (forget (outS S h)))
def OkW (S : SS) : Prop := Lb S ∧ sH S < 8 ∧ sN S (sH S) ≤ 3 ∧ (∀ j, sN S j ≤ 4) ∧ (sN (wr0 S) (sH S) = 4 → sN (turnS (wr0 S)) (sH (turnS (wr0 S))) > 0 → OkE (turnS (wr0 S)) (sH (turnS (wr0 S))))
def OkA : Nat → SS → Da → Prop
  | 0, _, _ => False
  | n + 1, S, d => sO S ≤ 32 ∧ (if sO S + plc d > 32 then OkW S ∧ OkA n (writeS S) d else (sL S).length < 700)
theorem rep_out {S : SS} {nw : List Ne} {fi : Nat → Int32} {ai : Nat → Nat → Int32} {al : Nat → Nat → Int64} (h : Rep S nw fi ai al) {h0 : Nat} (hh : h0 < 8) (hb : Lb S) : Rep (outS S h0) nw fi (up2 (va_up ai 6 (rel (ai 6) (nI h0) 9 (sL S).length)) 8 h0 0) al := by
  obtain ⟨⟨l1, l2, l3⟩, ⟨n1, n2, n3⟩, hP, r1, r2, r3, r4, r5⟩ := h
  refine ⟨⟨?_, ?_, ?_⟩, ⟨n1, n2, ?_⟩, ?_, r1, r2, ?_, ?_, r5⟩
  · rw [outS_L, List.length_map]; exact l1
  · rw [outS_L, List.length_map]; exact l2
  · intro k e he
    simp only [outS_L, List.getElem?_map, Option.map_eq_some_iff] at he
    obtain ⟨e0, he0, rfl⟩ := he
    have hk : k < (sL S).length := (List.getElem?_eq_some_iff.mp he0).1
    obtain ⟨c0, c1, c2, c3, c4, c5, c6⟩ := ent_k (l3 k e0 he0)
    obtain ⟨b1, b2⟩ := hb e0 (List.mem_of_getElem? he0)
    have key : (if e0.2.2.2 / 4 = h0 then (e0.1, e0.2.1, e0.2.2.1, 36 + e0.2.2.2 % 4) else e0) = (e0.1, e0.2.1, e0.2.2.1, if e0.2.2.2 / 4 = h0 then 36 + e0.2.2.2 % 4 else e0.2.2.2) := by
      split <;> rfl
    rw [key]
    refine ent_mk c0 ?_ ?_ ?_ ?_ ?_ ?_
    · simpa [up2_at, va_up] using c1
    · simpa [up2_at, va_up] using c2
    · simpa [up2_at, va_up] using c3
    · simpa [up2_at, va_up] using c4
    · simpa [up2_at, va_up] using c5
    · have hrel : (up2 (va_up ai 6 (rel (ai 6) (nI h0) 9 (sL S).length)) 8 h0 0) 6 k = rel (ai 6) (nI h0) 9 (sL S).length k := by simp [up2_at, va_up]
      rw [hrel]
      unfold rel
      rw [c6]
      by_cases h32 : e0.2.2.2 / 4 = h0
      · have e1 : (36 + e0.2.2.2 % 4) / 4 = 9 := by omega
        rw [if_pos ⟨hk, by rw [h32]⟩]
        show _ = nI ((if e0.2.2.2 / 4 = h0 then 36 + e0.2.2.2 % 4 else e0.2.2.2) / 4)
        rw [if_pos h32, e1]
        rfl
      · have e1 : ¬ nI (e0.2.2.2 / 4) = nI h0 := fun q => h32 ((nI_eq (by omega) (by omega)).mp q)
        rw [if_neg (fun q => e1 q.2)]
        show _ = nI ((if e0.2.2.2 / 4 = h0 then 36 + e0.2.2.2 % 4 else e0.2.2.2) / 4)
        rw [if_neg h32]
  · intro k e he
    simpa [nent, up2_at, va_up] using n3 k e he
  · intro s hs
    rw [outS_P]
    simpa [pent, up2_at, va_up] using hP s hs
  · intro j hj
    simp only [up2_at, va_up, outS_N]
    by_cases hj2 : j = h0
    · simp [hj2, nI]
    · simp [hj2, r3 j hj]
  · intro j hj
    simpa [up2_at, va_up, outS_C] using r4 j hj
theorem rep_turn {S : SS} {nw : List Ne} {fi : Nat → Int32} {ai : Nat → Nat → Int32} {al : Nat → Nat → Int64} (h : Rep S nw fi ai al) : Rep (turnS S) nw (va_up fi 9 (nI ((sH S + 1) % 8))) (up2 ai 24 0 (ai 24 0 + 1)) al := by
  obtain ⟨⟨l1, l2, l3⟩, ⟨n1, n2, n3⟩, hP, r1, r2, r3, r4, r5⟩ := h
  refine ⟨⟨l1, l2, ?_⟩, ⟨n1, n2, ?_⟩, ?_, rfl, r2, ?_, ?_, r5⟩
  · intro k e he
    simpa [ent, up2_at] using l3 k e he
  · intro k e he
    simpa [nent, up2_at] using n3 k e he
  · intro s hs
    rw [turnS_P]
    simpa [pent, up2_at] using hP s hs
  · intro i hi
    rw [turnS_N]
    simpa [up2_at] using r3 i hi
  · intro i hi
    rw [turnS_C, up2_at]
    unfold inc va_up
    by_cases hij : i = 0
    · simp [hij, r4 0 (by decide)]
    · simp [hij, r4 i hi]
section REFK
variable {p : Program} {l : Launch} {e : Env} {s : State} {m : MethodId} {args : Array Value} {below : List Frame} {meth : Method} {c : Code} {R : Room} {G : Gd} {A : Nat → Prop} {Q : State → Prop} {k n : Nat} {mo : Nat} {ad sl : Nat → Nat} {S : SS} {nw : List Ne}
set_option maxRecDepth 4000 in
theorem c_empty (hst : MSt mo ad sl) (h0 : Nat) (hh : h0 < 8) (hok : OkE S h0) : Ct 6 0 0 yX5_empty cX5_empty 4 (none) G A [.ref mo, .int (nI h0)] (MPN G A mo ad sl S nw) (none) (MPS G A mo ad sl (emptyS S h0)) := by
  refine Ct.of 2 rfl rfl (Nat.le_of_ble_eq_true rfl) ?_
  intro p l e s m below meth c hini
  obtain ⟨hb, hb2, hL, hb3⟩ := hok
  refine k_open fun fi ai al h => ?_
  have hlen := h.1.2.1
  have loop2 : ∀ (n k : Nat) (S' : SS), k + n = (sL (forget (outS S h0))).length → OkL n k S' → loopS n k S' = loopS (sL (forget (outS S h0))).length 0 (forget (outS S h0)) → K p l e s m ([.ref mo, .int (nI h0)] : List Value).toArray below meth c (rmm 6 0 0) yX5_empty.cls cX5_empty 4 (none) G A (MQ below (Qd (none) (MPS G A mo ad sl (emptyS S h0)) A) ([.ref mo, .int (nI h0)] : List Value).toArray s 0 0 A) 0 0 (MPS G A mo ad sl S') 52 [some (.ref mo), some (.int (nI h0)), some (.int (nI (sL (forget (outS S h0))).length)), some (.int (nI k))] [] := by
    have hl2 : (sL (forget (outS S h0))).length ≤ 700 := by
      rw [forget_L]
      refine Nat.le_trans (List.length_filter_le _ _) ?_
      rw [outS_L, List.length_map]
      exact hlen
    intro n
    induction n with
    | zero =>
      intro k S' hk _ hfin
      have hk2 : k = (sL (forget (outS S h0))).length := by omega
      have hS' : S' = loopS (sL (forget (outS S h0))).length 0 (forget (outS S h0)) := hfin
      subst hk2
      refine k_openS fun nw' => ?_
      refine k_iload_n (pc := 52) dX5_empty_52 rfl ?_
      refine k_iload_n (pc := 53) dX5_empty_53 rfl ?_
      refine k_icmp_ge (tgt := 88) (pc := 54) dX5_empty_54 (by decide) (fun _ => ?_) (fun c => absurd (nI_le (Nat.le_refl _) (by omega)) c)
      refine k_aload_n (pc := 88) dX5_empty_88 rfl ?_
      refine k_callM sv_X5_113 hst (c_forget hst (by rw [hS']; exact hb3)) (pc := 89) dX5_empty_89 rfl rfl (Nat.le_of_ble_eq_true rfl) (by decide) (by decide) (Nat.le_refl _) (Nat.le_refl _) ?_
      exact k_vret (pc := 92) dX5_empty_92 (fun H hH => by unfold emptyS; rw [← hS']; exact ⟨_, hH⟩) (Nat.le_refl _) (Nat.le_refl _)
    | succ n ih =>
      intro k S' hk hok hfin
      obtain ⟨⟨e0, he0, hp40, hhok⟩, hok2⟩ := hok
      have next : K p l e s m ([.ref mo, .int (nI h0)] : List Value).toArray below meth c (rmm 6 0 0) yX5_empty.cls cX5_empty 4 (none) G A (MQ below (Qd (none) (MPS G A mo ad sl (emptyS S h0)) A) ([.ref mo, .int (nI h0)] : List Value).toArray s 0 0 A) 0 0 (MPS G A mo ad sl (stepS S' k)) 82 [some (.ref mo), some (.int (nI h0)), some (.int (nI (sL (forget (outS S h0))).length)), some (.int (nI k))] [] := by
        refine k_iinc (pc := 82) dX5_empty_82 rfl (nI_inc _) (by decide) rfl ?_
        refine k_goto (tgt := 52) (pc := 85) dX5_empty_85 (by decide) ?_
        exact ih (k + 1) (stepS S' k) (by omega) hok2 hfin
      refine k_openS fun nw' => ?_
      refine k_iload_n (pc := 52) dX5_empty_52 rfl ?_
      refine k_iload_n (pc := 53) dX5_empty_53 rfl ?_
      refine k_icmp_ge (tgt := 88) (pc := 54) dX5_empty_54 (by decide) (fun c => absurd c (nI_ge (by omega) (by omega))) (fun _ => ?_)
      refine k_open fun fi2 ai2 al2 hr => ?_
      obtain ⟨c0, c1, c2, c3, c4, c5, c6⟩ := ent_k (hr.1.2.2 k e0 he0)
      refine k_aload_n (pc := 57) dX5_empty_57 rfl ?_
      refine mg_30 hst (pc := 58) dX5_empty_58 ?_
      refine k_iload_n (pc := 61) dX5_empty_61 rfl ?_
      refine m_iald hst rfl (pc := 62) dX5_empty_62 rfl (by simp only [mln]; omega) (by decide) ?_
      refine k_bipush (v := 9) (pc := 63) dX5_empty_63 (by decide) ?_
      rw [c6]
      refine k_icmp_ne (tgt := 82) (pc := 65) dX5_empty_65 (by decide) (fun h1 => ?_) (fun h1 => ?_)
      · have hst2 : stepS S' k = S' := by
          have : ¬ e0.2.2.2 / 4 = 9 := fun q => h1 (by rw [q]; rfl)
          unfold stepS
          rw [he0]
          exact if_neg (fun z => this (by simpa [isOut] using z.1))
        rw [hst2] at next
        exact k_I (MPS.of hr) next
      · have hout : e0.2.2.2 / 4 = 9 := (nI_eq (by omega) (by decide)).mp (h1.trans (show (9 : Int32) = nI 9 from rfl))
        have hiso : isOut e0 = true := by simp [isOut, hout]
        refine k_aload_n (pc := 68) dX5_empty_68 rfl ?_
        refine mg_23 hst (pc := 69) dX5_empty_69 ?_
        refine k_iload_n (pc := 72) dX5_empty_72 rfl ?_
        refine m_zald hst rfl (pc := 73) dX5_empty_73 rfl (by simp only [mln]; omega) (by decide) ?_
        rw [c4]
        refine k_if_eq (tgt := 82) (pc := 74) dX5_empty_74 (by decide) (fun h2 => ?_) (fun h2 => ?_)
        · have hst2 : stepS S' k = S' := by
            unfold stepS
            rw [he0]
            exact if_neg (fun z => by rw [bI_f h2] at z; exact absurd z.2 (by decide))
          rw [hst2] at next
          exact k_I (MPS.of hr) next
        · have hst2 : stepS S' k = handleS S' k := by
            unfold stepS
            rw [he0]
            exact if_pos ⟨hiso, bI_t h2⟩
          rw [hst2] at next
          refine k_close hr ?_
          refine k_aload_n (pc := 77) dX5_empty_77 rfl ?_
          refine k_iload_n (pc := 78) dX5_empty_78 rfl ?_
          refine k_callM sv_X5_116 hst (c_handle hst k e0 he0 (hhok ⟨hiso, bI_t h2⟩)) (pc := 79) dX5_empty_79 rfl rfl (Nat.le_of_ble_eq_true rfl) (by decide) (by decide) (Nat.le_refl _) (Nat.le_refl _) ?_
          exact next
  have mid : K p l e s m ([.ref mo, .int (nI h0)] : List Value).toArray below meth c (rmm 6 0 0) yX5_empty.cls cX5_empty 4 (none) G A (MQ below (Qd (none) (MPS G A mo ad sl (emptyS S h0)) A) ([.ref mo, .int (nI h0)] : List Value).toArray s 0 0 A) 0 0 (MH G A mo ad sl fi (va_up ai 6 (rel (ai 6) (nI h0) 9 (sL S).length)) al) 34 [some (.ref mo), some (.int (nI h0)), none, none] [] := by
    refine k_aload_n (pc := 34) dX5_empty_34 rfl ?_
    refine mg_33 hst (pc := 35) dX5_empty_35 ?_
    refine k_iload_n (pc := 38) dX5_empty_38 rfl ?_
    refine k_iconst (v := 0) (pc := 39) dX5_empty_39 (by decide) ?_
    refine m_iast hst rfl (pc := 40) dX5_empty_40 rfl hh (by decide) ?_
    refine k_close (rep_out h hh hb) ?_
    refine k_aload_n (pc := 41) dX5_empty_41 rfl ?_
    refine k_callM sv_X5_113 hst (c_forget hst hb2) (pc := 42) dX5_empty_42 rfl rfl (Nat.le_of_ble_eq_true rfl) (by decide) (by decide) (Nat.le_refl _) (Nat.le_refl _) ?_
    refine k_open fun fi2 ai2 al2 hr => ?_
    refine k_aload_n (pc := 45) dX5_empty_45 rfl ?_
    refine mg_96 hst (pc := 46) dX5_empty_46 ?_
    rw [hr.1.1]
    refine k_istore_n (pc := 49) dX5_empty_49 (by decide) rfl ?_
    refine k_iconst (v := 0) (pc := 50) dX5_empty_50 (by decide) ?_
    refine k_istore_n (pc := 51) dX5_empty_51 (by decide) rfl ?_
    exact k_I (MPS.of hr) (loop2 _ 0 _ (by omega) hL rfl)
  have loop : ∀ j i : Nat, i + j = (sL S).length → K p l e s m ([.ref mo, .int (nI h0)] : List Value).toArray below meth c (rmm 6 0 0) yX5_empty.cls cX5_empty 4 (none) G A (MQ below (Qd (none) (MPS G A mo ad sl (emptyS S h0)) A) ([.ref mo, .int (nI h0)] : List Value).toArray s 0 0 A) 0 0 (MH G A mo ad sl fi (va_up ai 6 (rel (ai 6) (nI h0) 9 i)) al) 2 [some (.ref mo), some (.int (nI h0)), some (.int (nI i)), none] [] := by
    intro j
    induction j with
    | zero =>
      intro i hi
      have hi6 : i = (sL S).length := by omega
      subst hi6
      refine k_iload_n (pc := 2) dX5_empty_2 rfl ?_
      refine k_aload_n (pc := 3) dX5_empty_3 rfl ?_
      refine mg_96 hst (pc := 4) dX5_empty_4 ?_
      rw [h.1.1]
      refine k_icmp_ge (tgt := 34) (pc := 7) dX5_empty_7 (by decide) (fun _ => ?_) (fun c => absurd (nI_le (Nat.le_refl _) (by omega)) c)
      exact k_lv (fun i v h => by match i, h with | 0, h => exact h | 1, h => exact h | 2, h => cases h | 3, h => cases h | i + 4, h => cases h) mid
    | succ j ih =>
      intro i hi
      have step := ih (i + 1) (by omega)
      refine k_iload_n (pc := 2) dX5_empty_2 rfl ?_
      refine k_aload_n (pc := 3) dX5_empty_3 rfl ?_
      refine mg_96 hst (pc := 4) dX5_empty_4 ?_
      rw [h.1.1]
      refine k_icmp_ge (tgt := 34) (pc := 7) dX5_empty_7 (by decide) (fun c => absurd c (nI_ge (by omega) (by omega))) (fun _ => ?_)
      refine k_aload_n (pc := 10) dX5_empty_10 rfl ?_
      refine mg_30 hst (pc := 11) dX5_empty_11 ?_
      refine k_iload_n (pc := 14) dX5_empty_14 rfl ?_
      refine m_iald hst rfl (pc := 15) dX5_empty_15 rfl (by simp only [mln]; omega) (by decide) ?_
      refine k_iload_n (pc := 16) dX5_empty_16 rfl ?_
      refine k_icmp_ne (tgt := 28) (pc := 17) dX5_empty_17 (by decide) (fun h1 => ?_) (fun h1 => ?_)
      · rw [va_up_self, rel_i] at h1
        rw [← rel_f h1] at step
        refine k_iinc (pc := 28) dX5_empty_28 rfl (nI_inc _) (by decide) rfl ?_
        refine k_goto (tgt := 2) (pc := 31) dX5_empty_31 (by decide) ?_
        exact step
      · rw [va_up_self, rel_i] at h1
        rw [← rel_t h1] at step
        refine k_aload_n (pc := 20) dX5_empty_20 rfl ?_
        refine mg_30 hst (pc := 21) dX5_empty_21 ?_
        refine k_iload_n (pc := 24) dX5_empty_24 rfl ?_
        refine k_bipush (v := 9) (pc := 25) dX5_empty_25 (by decide) ?_
        refine m_iast hst rfl (pc := 27) dX5_empty_27 rfl (by simp only [mln]; omega) (by decide) ?_
        refine k_iinc (pc := 28) dX5_empty_28 rfl (nI_inc _) (by decide) rfl ?_
        refine k_goto (tgt := 2) (pc := 31) dX5_empty_31 (by decide) ?_
        rw [up2_va]
        exact step
  have l0 := loop (sL S).length 0 (by omega)
  rw [rel_0, va_id] at l0
  refine k_iconst (v := 0) (pc := 0) dX5_empty_0 (by decide) ?_
  refine k_istore_n (pc := 1) dX5_empty_1 (by decide) rfl ?_
  exact l0
set_option maxRecDepth 4000 in
theorem c_wop (hst : MSt mo ad sl) (hok : OkW S) : Ct 7 0 0 yX5_writeOpenPage cX5_writeOpenPage 2 (none) G A [.ref mo] (MPN G A mo ad sl S nw) (none) (MPS G A mo ad sl (writeS S)) := by
  refine Ct.of 1 rfl rfl (Nat.le_of_ble_eq_true rfl) ?_
  intro p l e s m below meth c hini
  obtain ⟨hb, hH, hN, hN4, hE⟩ := hok
  refine w_wop hst hH hN hb ?_
  refine k_open fun fi ai al h => ?_
  have r8 := h.2.2.2.2.2.1 (sH S) hH
  have r1 : fi 9 = nI (sH S) := h.2.2.2.1
  rw [wr0_N, va_up_self] at r8
  refine k_aload_n (pc := 65) dX5_writeOpenPage_65 rfl ?_
  refine mg_33 hst (pc := 66) dX5_writeOpenPage_66 ?_
  refine k_aload_n (pc := 69) dX5_writeOpenPage_69 rfl ?_
  refine mg_106 hst (pc := 70) dX5_writeOpenPage_70 ?_
  refine m_iald hst rfl (pc := 73) dX5_writeOpenPage_73 r1 (by simpa [mln] using hH) (by decide) ?_
  refine k_iconst (v := 4) (pc := 74) dX5_writeOpenPage_74 (by decide) ?_
  rw [r8]
  by_cases h4 : sN S (sH S) + 1 = 4
  · have hw4 : sN (wr0 S) (sH S) = 4 := by rw [wr0_N, va_up_self]; exact h4
    rw [h4]
    refine k_icmp_ne (tgt := 121) (pc := 75) dX5_writeOpenPage_75 (by decide) (fun c => absurd rfl c) (fun _ => ?_)
    have hrem : nI (sH S) + 1 - (nI (sH S) + 1) / 8 * 8 = nI ((sH S + 1) % 8) := by
      rw [nI_1, show (8 : Int32) = nI 8 from rfl, pk_rem (by omega) (by decide) (by decide)]
    refine k_aload_n (pc := 78) dX5_writeOpenPage_78 rfl ?_
    refine mg_72 hst (pc := 79) dX5_writeOpenPage_79 ?_
    refine k_iconst (v := 0) (pc := 82) dX5_writeOpenPage_82 (by decide) ?_
    refine k_dup2 (pc := 83) dX5_writeOpenPage_83 rfl rfl ?_
    refine m_iald hst rfl (pc := 84) dX5_writeOpenPage_84 (show (0 : Int32) = nI 0 from rfl) (by decide) (by decide) ?_
    refine k_iconst (v := 1) (pc := 85) dX5_writeOpenPage_85 (by decide) ?_
    refine k_iadd (pc := 86) dX5_writeOpenPage_86 ?_
    refine m_iast hst rfl (pc := 87) dX5_writeOpenPage_87 (show (0 : Int32) = nI 0 from rfl) (by decide) (by decide) ?_
    refine k_aload_n (pc := 88) dX5_writeOpenPage_88 rfl ?_
    refine k_aload_n (pc := 89) dX5_writeOpenPage_89 rfl ?_
    refine mg_106 hst (pc := 90) dX5_writeOpenPage_90 ?_
    refine k_iconst (v := 1) (pc := 93) dX5_writeOpenPage_93 (by decide) ?_
    refine k_iadd (pc := 94) dX5_writeOpenPage_94 ?_
    refine k_bipush (v := 8) (pc := 95) dX5_writeOpenPage_95 (by decide) ?_
    refine k_irem (pc := 97) dX5_writeOpenPage_97 (by decide) ?_
    rw [r1, hrem]
    refine mp_106 hst (pc := 98) dX5_writeOpenPage_98 rfl rfl ?_
    refine k_close (rep_turn (S := wr0 S) h) ?_
    refine k_open fun fi2 ai2 al2 hr => ?_
    have hH2 : sH (turnS (wr0 S)) < 8 := by rw [turnS_H]; omega
    have q8 := hr.2.2.2.2.2.1 _ hH2
    have q1 : fi2 9 = nI (sH (turnS (wr0 S))) := hr.2.2.2.1
    have hnx4 : sN (turnS (wr0 S)) (sH (turnS (wr0 S))) ≤ 4 := by
      rw [turnS_N, wr0_N]
      unfold va_up
      split
      · omega
      · exact hN4 _
    refine k_aload_n (pc := 101) dX5_writeOpenPage_101 rfl ?_
    refine mg_33 hst (pc := 102) dX5_writeOpenPage_102 ?_
    refine k_aload_n (pc := 105) dX5_writeOpenPage_105 rfl ?_
    refine mg_106 hst (pc := 106) dX5_writeOpenPage_106 ?_
    refine m_iald hst rfl (pc := 109) dX5_writeOpenPage_109 q1 (by simpa [mln] using hH2) (by decide) ?_
    rw [q8]
    by_cases hz : sN (turnS (wr0 S)) (sH (turnS (wr0 S))) > 0
    · have hw : writeS S = emptyS (turnS (wr0 S)) (sH (turnS (wr0 S))) := by unfold writeS; rw [if_pos hw4, if_pos hz]
      rw [hw]
      refine k_if_le (tgt := 121) (pc := 110) dX5_writeOpenPage_110 (by decide) (fun c => absurd c (nI_nle hz (by omega))) (fun _ => ?_)
      refine k_aload_n (pc := 113) dX5_writeOpenPage_113 rfl ?_
      refine k_aload_n (pc := 114) dX5_writeOpenPage_114 rfl ?_
      refine mg_106 hst (pc := 115) dX5_writeOpenPage_115 ?_
      rw [q1]
      refine k_close hr ?_
      refine k_callM sv_X5_109 hst (c_empty hst _ hH2 (hE hw4 hz)) (pc := 118) dX5_writeOpenPage_118 rfl rfl (Nat.le_of_ble_eq_true rfl) (by decide) (by decide) (Nat.le_refl _) (Nat.le_refl _) ?_
      exact k_vret (pc := 121) dX5_writeOpenPage_121 (fun _ h => h) (Nat.le_refl _) (Nat.le_refl _)
    · have hw : writeS S = turnS (wr0 S) := by unfold writeS; rw [if_pos hw4, if_neg hz]
      rw [hw]
      refine k_if_le (tgt := 121) (pc := 110) dX5_writeOpenPage_110 (by decide) (fun _ => ?_) (fun c => absurd (by rw [show sN (turnS (wr0 S)) (sH (turnS (wr0 S))) = 0 by omega]; decide) c)
      exact k_vret (pc := 121) dX5_writeOpenPage_121 (MPS.of hr) (Nat.le_refl _) (Nat.le_refl _)
  · have hw4 : ¬ sN (wr0 S) (sH S) = 4 := by rw [wr0_N, va_up_self]; exact h4
    have hw : writeS S = wr0 S := by unfold writeS; rw [if_neg hw4]
    rw [hw]
    refine k_icmp_ne (tgt := 121) (pc := 75) dX5_writeOpenPage_75 (by decide) (fun _ => ?_) (fun c => absurd ((nI_eq (by omega) (by decide)).mp (c.trans (show (4 : Int32) = nI 4 from rfl))) h4)
    exact k_vret (pc := 121) dX5_writeOpenPage_121 (MPS.of h) (Nat.le_refl _) (Nat.le_refl _)
set_option maxRecDepth 4000 in
theorem c_app (hst : MSt mo ad sl) (key : Int64) (w : Nat) (f t : Int32) (hw : w ≤ 12) (fuel : Nat) (hok : OkA fuel S (key, w, f, t)) : Ct 8 0 0 yX5_append cX5_append 6 (none) G A [.ref mo, .long key, .int (nI w), .int f, .int t] (MPS G A mo ad sl S) (none) (MPS G A mo ad sl (appS fuel S (key, w, f, t))) := by
  refine Ct.of 0 rfl rfl (Nat.le_of_ble_eq_true rfl) ?_
  intro p l e s m below meth c hini
  have loop : ∀ (n : Nat) (S' : SS), OkA n S' (key, w, f, t) → appS n S' (key, w, f, t) = appS fuel S (key, w, f, t) → K p l e s m ([.ref mo, .long key, .int (nI w), .int f, .int t] : List Value).toArray below meth c (rmm 8 0 0) yX5_append.cls cX5_append 6 (none) G A (MQ below (Qd (none) (MPS G A mo ad sl (appS fuel S (key, w, f, t))) A) ([.ref mo, .long key, .int (nI w), .int f, .int t] : List Value).toArray s 0 0 A) 0 0 (MPS G A mo ad sl S') 0 [some (.ref mo), some (.long key), none, some (.int (nI w)), some (.int f), some (.int t)] [] := by
    intro n
    induction n with
    | zero => intro S' h; exact absurd h id
    | succ n ih =>
      intro S' hok hfin
      obtain ⟨hO, hrest⟩ := hok
      refine k_openS fun nw' => ?_
      refine k_open fun fi ai al h => ?_
      refine k_aload_n (pc := 0) dX5_append_0 rfl ?_
      refine mg_100 hst (pc := 1) dX5_append_1 ?_
      refine k_iconst (v := 3) (pc := 4) dX5_append_4 (by decide) ?_
      refine k_iadd (pc := 5) dX5_append_5 ?_
      refine k_iload_n (pc := 6) dX5_append_6 rfl ?_
      refine k_iadd (pc := 7) dX5_append_7 ?_
      refine k_bipush (v := 32) (pc := 8) dX5_append_8 (by decide) ?_
      rw [show fi 10 = nI (sO S') from h.2.2.2.2.1, nI_3w]
      by_cases hf : sO S' + plc (key, w, f, t) > 32
      · have hpl : 32 < sO S' + (3 + w) := hf
        rw [if_pos hf] at hrest
        refine k_icmp_le (tgt := 20) (pc := 10) dX5_append_10 (by decide) (fun c => absurd c (nI_ge hpl (by omega))) (fun _ => ?_)
        refine k_close h ?_
        refine k_aload_n (pc := 13) dX5_append_13 rfl ?_
        refine k_callM sv_X5_103 hst (c_wop hst hrest.1) (pc := 14) dX5_append_14 rfl rfl (Nat.le_of_ble_eq_true rfl) (by decide) (by decide) (Nat.le_refl _) (Nat.le_refl _) ?_
        refine k_goto (tgt := 0) (pc := 17) dX5_append_17 (by decide) ?_
        refine ih (writeS S') hrest.2 ?_
        rw [← hfin]
        simp only [appS, hf, if_true]
      · have hpl : sO S' + (3 + w) ≤ 32 := by
          have h1 : ¬ sO S' + (3 + w) > 32 := hf
          omega
        rw [if_neg hf] at hrest
        refine k_icmp_le (tgt := 20) (pc := 10) dX5_append_10 (by decide) (fun _ => ?_) (fun c => absurd (nI_le hpl (by decide)) c)
        refine k_close h (w_push hst hrest ?_)
        exact k_vret (pc := 115) dX5_append_115 (fun H hH => by rw [← hfin]; simp only [appS, hf, if_false]; exact ⟨_, hH⟩) (Nat.le_refl _) (Nat.le_refl _)
  exact loop fuel S hok rfl
end REFK
end
section
/-! the calls, on the specification -/
def uX (S : SS) (b : Bool) : SS := (sL S, sH S, sN S, sO S, sP S, sC S, b, sG S)
def uG (S : SS) (g : Int32 × Int32 × Int32) : SS := (sL S, sH S, sN S, sO S, sP S, sC S, sX S, g)
def killKey (S : SS) (key : Int64) : SS := match lastIx (sL S) key (sL S).length with
  | some k => uL S (killAt (sL S) k)
  | none => S
def mark1 (e : En) : En := (e.1, e.2.1, true, e.2.2.2)
def markP (e : Pe) : Pe := (e.1, true)
def badN (n : Int32) : Bool := decide (n < 1) || decide (12 < n)
def putS (S : SS) (key : Int64) (n f t : Int32) : Int32 × SS :=
  if sX S = true then (-2, S) else if badN n = true then (-1, S) else (1, appS 1000 (killKey S key) (key, n.toNatClampNeg, f, t))
def pageGet (S : SS) (key : Int64) : Int32 × SS :=
  if mayS (sP S (setN key)) key = true then
    match ixS (sP S (setN key)) key with
    | none => (0, uC S (inc (sC S) 11))
    | some i => match (sP S (setN key))[i]? with
      | none => (0, S)
      | some e => (nI e.1.2.1, uG (uP (uC S (inc (sC S) 11)) (va_up (sP S) (setN key) ((sP S (setN key)).modify i markP))) (nI e.1.2.1, e.1.2.2.1, e.1.2.2.2))
  else (0, S)
def getS (S : SS) (key : Int64) : Int32 × SS :=
  if sX S = true then (-2, S) else
  match lastIx (sL S) key (sL S).length with
  | some k => match (sL S)[k]? with
    | none => (0, S)
    | some e => (nI e.1.2.1, uG (uL S ((sL S).modify k mark1)) (nI e.1.2.1, e.1.2.2.1, e.1.2.2.2))
  | none => pageGet S key
def gotS (S : SS) (i : Int32) : Int32 := if ¬ i < 0 ∧ ¬ (sG S).1 ≤ i then (sG S).2.1 + i * (sG S).2.2 else 0
def removeS (S : SS) (key : Int64) : Int32 × SS :=
  if sX S = true then (-2, S) else
  (bI ((lastIx (sL S) key (sL S).length).isSome || (takeS (killKey S key) key 4).2), (takeS (killKey S key) key 4).1)
def whereS (S : SS) (key : Int64) : Int32 := if sX S = true then -2 else if (lastIx (sL S) key (sL S).length).isSome then 1 else if (ixS (sP S (setN key)) key).isSome then 2 else 0
def markS (S : SS) (key : Int64) : Int32 := if sX S = true then -2 else
  match lastIx (sL S) key (sL S).length with
  | some k => bI ((((sL S)[k]?).map (fun e => e.2.2.1)).getD false)
  | none => match ixS (sP S (setN key)) key with
    | some i => bI ((((sP S (setN key))[i]?).map (fun e => e.2)).getD false)
    | none => 0
def isSet (x : Int32) : Bool := !decide (x < 0) && !decide ((64 : Int32) ≤ x)
def standsS (S : SS) (x : Int32) : Int32 := if sX S = true then -2 else if isSet x = true then nI (sP S x.toNatClampNeg).length else -1
def keyS (S : SS) (x i : Int32) : Int64 := if sX S = true then 0 else if isSet x = true then (if i < 0 then 0 else (((sP S x.toNatClampNeg)[i.toNatClampNeg]?).map (fun e => e.1.1)).getD 0) else 0
def filterS (S : SS) (x : Int32) : Int64 := if sX S = true then 0 else if isSet x = true then filS (sP S x.toNatClampNeg) else 0
def cntS (S : SS) (p : En → Bool) : Nat := ((sL S).filter p).length
def aliveS (S : SS) (x : Int32) : Int32 := if sX S = true then -2 else if x < 0 ∨ (8 : Int32) < x then -1 else nI (cntS S (fun e => e.2.1 && e.2.2.2 / 4 == x.toNatClampNeg))
def livS (S : SS) : Int32 := nI (cntS S (fun e => e.2.1))
def sumP (S : SS) : Nat → Nat
  | 0 => 0
  | s + 1 => sumP S s + (sP S s).length
def countS (S : SS) (x : Int32) : Int32 :=
  if ¬ x < 0 ∧ ¬ (12 : Int32) ≤ x then sC S x.toNatClampNeg
  else if x = 12 then livS S else if x = 13 then nI (sumP S 64) else if x = 14 then nI (sO S) else if x = 15 then nI (sH S) else if x = 16 then nI (sN S (sH S)) else if x = 17 then bI (sX S) else -1
def closeS (S : SS) : Int32 × SS := if sX S = true then (-2, S) else (1, uX S true)
def crashS (S : SS) : SS := ([], 0, fun _ => 0, 0, fun _ => [], sC S, true, sG S)
def openS (S : SS) : Int32 × SS := if sX S = true then (livS S, uX S false) else (-1, S)
/-- what check() looks for -/
def CkS (S : SS) : Prop := (∀ k e, (sL S)[k]? = some e → e.2.1 = true → lastIx (sL S) e.1.1 (sL S).length = some k) ∧ (∀ s, s < 64 → ((sP S s).map (fun e => plc e.1)).sum ≤ 32) ∧ (∀ s k e, s < 64 → (sP S s)[k]? = some e → setN e.1.1 = s ∧ ixS (sP S s) e.1.1 = some k)
theorem lastIx_lt {L : List En} {key : Int64} : ∀ {n q : Nat}, lastIx L key n = some q → q < n := by
  intro n
  induction n with
  | zero => intro q hq; cases hq
  | succ n ih =>
    intro q hq
    simp only [lastIx] at hq
    split at hq
    · split at hq
      · cases hq; omega
      · have := ih hq; omega
    · have := ih hq; omega
theorem lastIx_at {L : List En} {key : Int64} : ∀ {n q : Nat}, lastIx L key n = some q → ∃ e, L[q]? = some e ∧ e.2.1 = true ∧ e.1.1 = key := by
  intro n
  induction n with
  | zero => intro q hq; cases hq
  | succ n ih =>
    intro q hq
    simp only [lastIx] at hq
    split at hq
    · next e he =>
      split at hq
      · next h => cases hq; exact ⟨e, he, h⟩
      · exact ih hq
    · exact ih hq
theorem oI_neg : oI none < 0 := by decide
theorem rep_shut {S : SS} {nw : List Ne} {fi : Nat → Int32} {ai : Nat → Nat → Int32} {al : Nat → Nat → Int64} (h : Rep S nw fi ai al) (b : Bool) : Rep (uX S b) nw (va_up fi 25 (bI b)) ai al := by
  obtain ⟨⟨l1, l2, l3⟩, ⟨n1, n2, n3⟩, hP, r1, r2, r3, r4, r5, r6⟩ := h
  exact ⟨⟨l1, l2, l3⟩, ⟨n1, n2, n3⟩, hP, r1, r2, r3, r4, rfl, r6⟩
theorem rep_got {S : SS} {nw : List Ne} {fi : Nat → Int32} {ai : Nat → Nat → Int32} {al : Nat → Nat → Int64} (h : Rep S nw fi ai al) (a b c : Int32) : Rep (uG S (a, b, c)) nw (va_up (va_up (va_up fi 26 a) 27 b) 28 c) ai al := by
  obtain ⟨⟨l1, l2, l3⟩, ⟨n1, n2, n3⟩, hP, r1, r2, r3, r4, r5, r6⟩ := h
  exact ⟨⟨l1, l2, l3⟩, ⟨n1, n2, n3⟩, hP, r1, r2, r3, r4, r5, rfl, rfl, rfl⟩
theorem rep_mark {S : SS} {nw : List Ne} {fi : Nat → Int32} {ai : Nat → Nat → Int32} {al : Nat → Nat → Int64} (h : Rep S nw fi ai al) (j : Nat) : Rep (uL S ((sL S).modify j mark1)) nw fi (up2 ai 5 j 1) al := by
  obtain ⟨⟨l1, l2, l3⟩, ⟨n1, n2, n3⟩, hP, r1, r2, r3, r4, r5⟩ := h
  refine ⟨⟨?_, ?_, ?_⟩, ⟨n1, n2, ?_⟩, ?_, r1, r2, ?_, ?_, r5⟩
  · rw [uL_L]; simpa using l1
  · rw [uL_L]; simpa using l2
  · intro k e he
    rw [uL_L, List.getElem?_modify] at he
    by_cases hkj : j = k
    · subst hkj
      simp only [if_true, Option.map_eq_map, Option.map_eq_some_iff] at he
      obtain ⟨e0, he0, rfl⟩ := he
      obtain ⟨c0, c1, c2, c3, c4, c5, c6⟩ := ent_k (l3 j e0 he0)
      exact ent_mk c0 (by simpa [up2_at, mark1] using c1) (by simpa [up2_at, mark1] using c2) (by simpa [up2_at, mark1] using c3) (by simpa [up2_at, mark1] using c4) (by rw [up2_at, if_pos ⟨rfl, rfl⟩]; rfl) (by simpa [up2_at, mark1] using c6)
    · simp only [hkj, if_false] at he
      have := l3 k e (by simpa using he)
      simpa [ent, up2_at, show ¬ k = j from fun z => hkj z.symm] using this
  · intro k e he
    simpa [nent, up2_at] using n3 k e he
  · intro s hs
    rw [uL_P]
    simpa [pent, up2_at] using hP s hs
  · intro i hi
    rw [uL_N]
    simpa [up2_at] using r3 i hi
  · intro i hi
    rw [uL_C]
    simpa [up2_at] using r4 i hi
theorem rep_markP {S : SS} {nw : List Ne} {fi : Nat → Int32} {ai : Nat → Nat → Int32} {al : Nat → Nat → Int64} (h : Rep S nw fi ai al) {s0 i : Nat} (hi : i < (sP S s0).length) (hs : s0 < 64) : Rep (uP S (va_up (sP S) s0 ((sP S s0).modify i markP))) nw fi (up2 ai 15 (8 * s0 + i) 1) al := by
  obtain ⟨⟨l1, l2, l3⟩, ⟨n1, n2, n3⟩, hP, r1, r2, r3, r4, r5⟩ := h
  obtain ⟨g1, g2, g3⟩ := hP s0 hs
  refine ⟨⟨l1, l2, ?_⟩, ⟨n1, n2, ?_⟩, ?_, r1, r2, ?_, ?_, r5⟩
  · intro k e he
    simpa [ent, up2_at] using l3 k e he
  · intro k e he
    simpa [nent, up2_at] using n3 k e he
  · intro s hs2
    rw [uP_P]
    by_cases hss : s = s0
    · subst hss
      rw [va_up_self]
      refine ⟨by simpa [up2_at] using g1, by simpa using g2, fun k e he => ?_⟩
      rw [List.getElem?_modify] at he
      by_cases hkj : i = k
      · subst hkj
        simp only [if_true, Option.map_eq_map, Option.map_eq_some_iff] at he
        obtain ⟨e0, he0, rfl⟩ := he
        obtain ⟨c0, c1, c2, c3, c4⟩ := pent_k (g3 i e0 he0)
        simp [pent, penc, up2_at, markP, c0, c1, c2, c3, bI]
      · simp only [hkj, if_false] at he
        have := g3 k e (by simpa using he)
        simpa [pent, up2_at, show ¬ k = i from fun z => hkj z.symm] using this
    · rw [va_up_ne _ _ hss]
      obtain ⟨q1, q2, q3⟩ := hP s hs2
      refine ⟨by simpa [up2_at] using q1, q2, fun k e he => ?_⟩
      have hk8 : k < 8 := Nat.lt_of_lt_of_le (List.getElem?_eq_some_iff.mp he).1 q2
      have := q3 k e he
      have h1 : ¬ 8 * s + k = 8 * s0 + i := by omega
      simpa [pent, up2_at, h1] using this
  · intro j hj
    rw [uP_N]
    simpa [up2_at] using r3 j hj
  · intro j hj
    rw [uP_C]
    simpa [up2_at] using r4 j hj
end
section
theorem rX {S : SS} {nw : List Ne} {fi : Nat → Int32} {ai : Nat → Nat → Int32} {al : Nat → Nat → Int64} (h : Rep S nw fi ai al) : fi 25 = bI (sX S) := h.2.2.2.2.2.2.2.1
theorem bad_ok {n : Int32} (h : badN n = false) : n = nI n.toNatClampNeg ∧ n.toNatClampNeg ≤ 12 ∧ 1 ≤ n.toNatClampNeg := by
  unfold badN at h
  simp only [Bool.or_eq_false_iff, decide_eq_false_iff_not] at h
  obtain ⟨j, hj, e⟩ := nI_of2 (x := n) (M := 12) (n := 12) rfl (fun z => h.1 (Int32.lt_trans z (by decide))) (Int32.not_lt.mp h.2)
  subst e
  rw [nI_clamp (by omega)]
  refine ⟨rfl, hj, ?_⟩
  rcases Nat.eq_zero_or_pos j with hz | hz
  · subst hz
    exact absurd (show nI 0 < 1 by decide) h.1
  · exact hz
theorem isSet_ok {x : Int32} (h : isSet x = true) : x = nI x.toNatClampNeg ∧ x.toNatClampNeg < 64 := by
  unfold isSet at h
  simp only [Bool.and_eq_true, Bool.not_eq_true', decide_eq_false_iff_not] at h
  obtain ⟨j, hj, e⟩ := nI_of h.1
  subst e
  rw [nI_clamp hj]
  refine ⟨rfl, ?_⟩
  rcases Nat.lt_or_ge j 64 with q | q
  · exact q
  · exact absurd (show (64 : Int32) ≤ nI j from nI_le (a := 64) q hj) h.2
section REFM
variable {p : Program} {l : Launch} {e : Env} {s : State} {m : MethodId} {args : Array Value} {below : List Frame} {meth : Method} {c : Code} {R : Room} {G : Gd} {A : Nat → Prop} {Q : State → Prop} {k n : Nat} {mo : Nat} {ad sl : Nat → Nat} {S : SS} {nw : List Ne}
set_option maxRecDepth 4000 in
theorem c_put (hst : MSt mo ad sl) (key : Int64) (n0 f t : Int32) (hok : sX S = false → badN n0 = false → OkA 1000 (killKey S key) (key, n0.toNatClampNeg, f, t)) : Ct 9 0 0 yX5_put cX5_put 7 (some .int) G A [.ref mo, .long key, .int n0, .int f, .int t] (MPS G A mo ad sl S) (some (.int (putS S key n0 f t).1)) (MPS G A mo ad sl (putS S key n0 f t).2) := by
  refine Ct.of 1 rfl rfl (Nat.le_of_ble_eq_true rfl) ?_
  intro p l e s m below meth c hini
  refine k_openS fun nw => ?_
  refine k_open fun fi ai al h => ?_
  refine k_aload_n (pc := 0) dX5_put_0 rfl ?_
  refine mg_157 hst (pc := 1) dX5_put_1 ?_
  rw [rX h]
  cases hx : sX S with
  | true =>
    have hp : putS S key n0 f t = (-2, S) := if_pos hx
    rw [hp]
    refine k_if_eq (tgt := 10) (pc := 4) dX5_put_4 (by decide) (fun c => absurd c ((show ¬ bI true = 0 by decide))) (fun _ => ?_)
    refine k_bipush (v := -2) (pc := 7) dX5_put_7 (by decide) ?_
    exact k_iret (pc := 9) dX5_put_9 rfl (MPS.of h) (Nat.le_refl _) (Nat.le_refl _)
  | false =>
    refine k_if_eq (tgt := 10) (pc := 4) dX5_put_4 (by decide) (fun _ => ?_) (fun c => absurd ((show bI false = 0 by decide)) c)
    refine k_iload_n (pc := 10) dX5_put_10 rfl ?_
    refine k_iconst (v := 1) (pc := 11) dX5_put_11 (by decide) ?_
    cases hbad : badN n0 with
    | true =>
      have hp : putS S key n0 f t = (-1, S) := by unfold putS; rw [if_neg (by rw [hx]; decide), if_pos hbad]
      rw [hp]
      refine k_icmp_lt (tgt := 21) (pc := 12) dX5_put_12 (by decide) (fun h1 => ?_) (fun h1 => ?_)
      · refine k_iconst (v := -1) (pc := 21) dX5_put_21 (by decide) ?_
        exact k_iret (pc := 22) dX5_put_22 rfl (MPS.of h) (Nat.le_refl _) (Nat.le_refl _)
      · refine k_iload_n (pc := 15) dX5_put_15 rfl ?_
        refine k_bipush (v := 12) (pc := 16) dX5_put_16 (by decide) ?_
        refine k_icmp_le (tgt := 23) (pc := 18) dX5_put_18 (by decide) (fun h2 => ?_) (fun h2 => ?_)
        · exfalso
          unfold badN at hbad
          simp only [Bool.or_eq_true, decide_eq_true_eq] at hbad
          rcases hbad with z | z
          · exact h1 z
          · exact absurd h2 (Int32.not_le.mpr z)
        · refine k_iconst (v := -1) (pc := 21) dX5_put_21 (by decide) ?_
          exact k_iret (pc := 22) dX5_put_22 rfl (MPS.of h) (Nat.le_refl _) (Nat.le_refl _)
    | false =>
      have hp : putS S key n0 f t = (1, appS 1000 (killKey S key) (key, n0.toNatClampNeg, f, t)) := by unfold putS; rw [if_neg (by rw [hx]; decide), if_neg (by rw [hbad]; decide)]
      rw [hp]
      obtain ⟨e1, e2, e3⟩ := bad_ok hbad
      have hA := hok hx hbad
      have hb1 : ¬ n0 < 1 ∧ ¬ 12 < n0 := by
        unfold badN at hbad
        simpa using hbad
      refine k_icmp_lt (tgt := 21) (pc := 12) dX5_put_12 (by decide) (fun h1 => ?_) (fun h1 => ?_)
      · exact absurd h1 hb1.1
      · refine k_iload_n (pc := 15) dX5_put_15 rfl ?_
        refine k_bipush (v := 12) (pc := 16) dX5_put_16 (by decide) ?_
        refine k_icmp_le (tgt := 23) (pc := 18) dX5_put_18 (by decide) (fun _ => ?_) (fun c => absurd (Int32.not_lt.mp hb1.2) c)
        refine k_close h ?_
        have tail : ∀ x6 : Int32, K p l e s m ([.ref mo, .long key, .int n0, .int f, .int t] : List Value).toArray below meth c (rmm 9 0 0) yX5_put.cls cX5_put 7 (some .int) G A (MQ below (Qd (some (.int (putS S key n0 f t).1)) (MPS G A mo ad sl (putS S key n0 f t).2) A) ([.ref mo, .long key, .int n0, .int f, .int t] : List Value).toArray s 0 0 A) 0 0 (MPS G A mo ad sl (killKey S key)) 43 [some (.ref mo), some (.long key), none, some (.int n0), some (.int f), some (.int t), some (.int x6)] [] := by
          intro x6
          rw [hp]
          have hC := c_app (G := G) (A := A) hst key n0.toNatClampNeg f t e2 1000 hA
          rw [← e1] at hC
          refine k_aload_n (pc := 43) dX5_put_43 rfl ?_
          refine k_lload_n (pc := 44) dX5_put_44 rfl ?_
          refine k_iload_n (pc := 45) dX5_put_45 rfl ?_
          refine k_iload (pc := 46) dX5_put_46 rfl ?_
          refine k_iload (pc := 48) dX5_put_48 rfl ?_
          refine k_callMS sv_X5_122 hst (hC) (pc := 50) dX5_put_50 rfl rfl (Nat.le_of_ble_eq_true rfl) (by decide) (by decide) (Nat.le_refl _) (Nat.le_refl _) ?_
          refine k_iconst (v := 1) (pc := 53) dX5_put_53 (by decide) ?_
          exact k_iret (pc := 54) dX5_put_54 rfl (fun _ h => h) (Nat.le_refl _) (Nat.le_refl _)
        refine k_aload_n (pc := 23) dX5_put_23 rfl ?_
        refine k_lload_n (pc := 24) dX5_put_24 rfl ?_
        refine k_callM sv_X5_133 hst (n_inLog hst key) (pc := 25) dX5_put_25 rfl rfl (Nat.le_of_ble_eq_true rfl) (by decide) (by decide) (Nat.le_refl _) (Nat.le_refl _) ?_
        refine k_istore (pc := 28) dX5_put_28 (by decide) rfl ?_
        cases hq : lastIx (sL S) key (sL S).length with
        | none =>
          have hk : killKey S key = S := by unfold killKey; rw [hq]
          refine k_iload (pc := 30) dX5_put_30 rfl ?_
          refine k_if_lt (tgt := 43) (pc := 32) dX5_put_32 (by decide) (fun _ => ?_) (fun c => absurd (oI_neg) c)
          have t6 := tail (oI none)
          rw [hp] at t6
          exact k_I (I2 := MPS G A mo ad sl (killKey S key)) (fun H hH => by rw [hk]; exact ⟨_, hH⟩) t6
        | some q =>
          have hk : killKey S key = uL S (killAt (sL S) q) := by unfold killKey; rw [hq]
          have hql := lastIx_lt hq
          refine k_open fun fi2 ai2 al2 h2 => ?_
          have hlen := h2.1.2.1
          refine k_iload (pc := 30) dX5_put_30 rfl ?_
          refine k_if_lt (tgt := 43) (pc := 32) dX5_put_32 (by decide) (fun c => absurd c ((oI_some_lt (k := q) (by omega)))) (fun _ => ?_)
          refine k_aload_n (pc := 35) dX5_put_35 rfl ?_
          refine mg_23 hst (pc := 36) dX5_put_36 ?_
          refine k_iload (pc := 39) dX5_put_39 rfl ?_
          refine k_iconst (v := 0) (pc := 41) dX5_put_41 (by decide) ?_
          refine m_zast hst rfl (pc := 42) dX5_put_42 (show oI (some q) = nI q from rfl) (by simp only [mln]; omega) (by decide) rfl ?_
          have t6 := tail (oI (some q))
          rw [hp] at t6
          exact k_I (fun H hH => by rw [hk]; exact MPS.of (rep_kill h2 q) H hH) t6
end REFM
end
section
section REFN
variable {p : Program} {l : Launch} {e : Env} {s : State} {m : MethodId} {args : Array Value} {below : List Frame} {meth : Method} {c : Code} {R : Room} {G : Gd} {A : Nat → Prop} {Q : State → Prop} {k n : Nat} {mo : Nat} {ad sl : Nat → Nat} {S : SS} {nw : List Ne}
set_option maxRecDepth 4000 in
theorem c_get (hst : MSt mo ad sl) (key : Int64) : Ct 4 0 0 yX5_get cX5_get 5 (some .int) G A [.ref mo, .long key] (MPS G A mo ad sl S) (some (.int (getS S key).1)) (MPS G A mo ad sl (getS S key).2) := by
  refine Ct.of 2 rfl rfl (Nat.le_of_ble_eq_true rfl) ?_
  intro p l e s m below meth c hini
  refine k_openS fun nw => ?_
  refine k_open fun fi ai al h => ?_
  refine k_aload_n (pc := 0) dX5_get_0 rfl ?_
  refine mg_157 hst (pc := 1) dX5_get_1 ?_
  rw [rX h]
  cases hx : sX S with
  | true =>
    have hp : getS S key = (-2, S) := if_pos hx
    rw [hp]
    refine k_if_eq (tgt := 10) (pc := 4) dX5_get_4 (by decide) (fun c => absurd c ((show ¬ bI true = 0 by decide))) (fun _ => ?_)
    refine k_bipush (v := -2) (pc := 7) dX5_get_7 (by decide) ?_
    exact k_iret (pc := 9) dX5_get_9 rfl (MPS.of h) (Nat.le_refl _) (Nat.le_refl _)
  | false =>
    refine k_if_eq (tgt := 10) (pc := 4) dX5_get_4 (by decide) (fun _ => ?_) (fun c => absurd (show bI false = 0 by decide) c)
    refine k_close h ?_
    refine k_aload_n (pc := 10) dX5_get_10 rfl ?_
    refine k_lload_n (pc := 11) dX5_get_11 rfl ?_
    refine k_callM sv_X5_133 hst (n_inLog hst key) (pc := 12) dX5_get_12 rfl rfl (Nat.le_of_ble_eq_true rfl) (by decide) (by decide) (Nat.le_refl _) (Nat.le_refl _) ?_
    refine k_istore_n (pc := 15) dX5_get_15 (by decide) rfl ?_
    refine k_iload_n (pc := 16) dX5_get_16 rfl ?_
    cases hq : lastIx (sL S) key (sL S).length with
    | some q =>
      obtain ⟨e0, he0, -⟩ := lastIx_at hq
      have hp : getS S key = (nI e0.1.2.1, uG (uL S ((sL S).modify q mark1)) (nI e0.1.2.1, e0.1.2.2.1, e0.1.2.2.2)) := by
        unfold getS
        rw [if_neg (by rw [hx]; decide), hq]
        simp only [he0]
      rw [hp]
      have hql := lastIx_lt hq
      refine k_open fun fi2 ai2 al2 h2 => ?_
      have hlen := h2.1.2.1
      obtain ⟨c0, c1, c2, c3, c4, c5, c6⟩ := ent_k (h2.1.2.2 q e0 he0)
      have q1 : up2 ai2 5 q 1 1 q = nI e0.1.2.1 := by rw [up2_at, if_neg (by omega), c1]
      have q2 : up2 ai2 5 q 1 2 q = e0.1.2.2.1 := by rw [up2_at, if_neg (by omega), c2]
      have q3 : up2 ai2 5 q 1 3 q = e0.1.2.2.2 := by rw [up2_at, if_neg (by omega), c3]
      refine k_if_lt (tgt := 62) (pc := 17) dX5_get_17 (by decide) (fun c => absurd c ((oI_some_lt (k := q) (by omega)))) (fun _ => ?_)
      refine k_aload_n (pc := 20) dX5_get_20 rfl ?_
      refine mg_27 hst (pc := 21) dX5_get_21 ?_
      refine k_iload_n (pc := 24) dX5_get_24 rfl ?_
      refine k_iconst (v := 1) (pc := 25) dX5_get_25 (by decide) ?_
      refine m_zast hst rfl (pc := 26) dX5_get_26 (show oI (some q) = nI q from rfl) (by simp only [mln]; omega) (by decide) rfl ?_
      refine k_aload_n (pc := 27) dX5_get_27 rfl ?_
      refine k_aload_n (pc := 28) dX5_get_28 rfl ?_
      refine mg_13 hst (pc := 29) dX5_get_29 ?_
      refine k_iload_n (pc := 32) dX5_get_32 rfl ?_
      refine m_iald hst rfl (pc := 33) dX5_get_33 (show oI (some q) = nI q from rfl) (by simp only [mln]; omega) (by decide) ?_
      rw [q1]
      refine mp_161 hst (pc := 34) dX5_get_34 rfl rfl ?_
      refine k_aload_n (pc := 37) dX5_get_37 rfl ?_
      refine k_aload_n (pc := 38) dX5_get_38 rfl ?_
      refine mg_17 hst (pc := 39) dX5_get_39 ?_
      refine k_iload_n (pc := 42) dX5_get_42 rfl ?_
      refine m_iald hst rfl (pc := 43) dX5_get_43 (show oI (some q) = nI q from rfl) (by simp only [mln]; omega) (by decide) ?_
      rw [q2]
      refine mp_164 hst (pc := 44) dX5_get_44 rfl rfl ?_
      refine k_aload_n (pc := 47) dX5_get_47 rfl ?_
      refine k_aload_n (pc := 48) dX5_get_48 rfl ?_
      refine mg_20 hst (pc := 49) dX5_get_49 ?_
      refine k_iload_n (pc := 52) dX5_get_52 rfl ?_
      refine m_iald hst rfl (pc := 53) dX5_get_53 (show oI (some q) = nI q from rfl) (by simp only [mln]; omega) (by decide) ?_
      rw [q3]
      refine mp_167 hst (pc := 54) dX5_get_54 rfl rfl ?_
      refine k_aload_n (pc := 57) dX5_get_57 rfl ?_
      refine mg_161 hst (pc := 58) dX5_get_58 ?_
      exact k_iret (pc := 61) dX5_get_61 rfl (MPS.of (rep_got (rep_mark h2 q) _ _ _)) (Nat.le_refl _) (Nat.le_refl _)
    | none =>
      have hp : getS S key = pageGet S key := by
        unfold getS
        rw [if_neg (by rw [hx]; decide), hq]
      rw [hp]
      refine k_if_lt (tgt := 62) (pc := 17) dX5_get_17 (by decide) (fun _ => ?_) (fun c => absurd (oI_neg) c)
      refine k_aload_n (pc := 62) dX5_get_62 rfl ?_
      refine k_lload_n (pc := 63) dX5_get_63 rfl ?_
      refine k_callM sv_X5_150 hst (n_mayHave hst key) (pc := 64) dX5_get_64 rfl rfl (Nat.le_of_ble_eq_true rfl) (by decide) (by decide) (Nat.le_refl _) (Nat.le_refl _) ?_
      cases hm : mayS (sP S (setN key)) key with
      | false =>
        have hp2 : pageGet S key = (0, S) := by unfold pageGet; rw [if_neg (by rw [hm]; decide)]
        rw [hp2]
        refine k_if_ne (tgt := 72) (pc := 67) dX5_get_67 (by decide) (fun c => absurd ((show bI false = 0 by decide)) c) (fun _ => ?_)
        refine k_iconst (v := 0) (pc := 70) dX5_get_70 (by decide) ?_
        exact k_iret (pc := 71) dX5_get_71 rfl (fun _ h => ⟨_, h⟩) (Nat.le_refl _) (Nat.le_refl _)
      | true =>
        refine k_open fun fi2 ai2 al2 h2 => ?_
        refine k_if_ne (tgt := 72) (pc := 67) dX5_get_67 (by decide) (fun _ => ?_) (fun c => absurd c ((show ¬ bI true = 0 by decide)))
        refine k_aload_n (pc := 72) dX5_get_72 rfl ?_
        refine mg_72 hst (pc := 73) dX5_get_73 ?_
        refine k_bipush (v := 11) (pc := 76) dX5_get_76 (by decide) ?_
        refine k_dup2 (pc := 78) dX5_get_78 rfl rfl ?_
        refine m_iald hst rfl (pc := 79) dX5_get_79 (show (11 : Int32) = nI 11 from rfl) (by decide) (by decide) ?_
        refine k_iconst (v := 1) (pc := 80) dX5_get_80 (by decide) ?_
        refine k_iadd (pc := 81) dX5_get_81 ?_
        refine m_iast hst rfl (pc := 82) dX5_get_82 (show (11 : Int32) = nI 11 from rfl) (by decide) (by decide) ?_
        refine k_close (rep_inc h2 (j := 11) (by decide)) ?_
        refine k_aload_n (pc := 83) dX5_get_83 rfl ?_
        refine k_lload_n (pc := 84) dX5_get_84 rfl ?_
        refine k_callM sv_X5_154 hst (n_inPage hst key) (pc := 85) dX5_get_85 rfl rfl (Nat.le_of_ble_eq_true rfl) (by decide) (by decide) (Nat.le_refl _) (Nat.le_refl _) ?_
        refine k_istore (pc := 88) dX5_get_88 (by decide) rfl ?_
        refine k_iload (pc := 90) dX5_get_90 rfl ?_
        rw [uC_P]
        cases hi : ixS (sP S (setN key)) key with
        | none =>
          have hp2 : pageGet S key = (0, uC S (inc (sC S) 11)) := by unfold pageGet; rw [if_pos hm, hi]
          rw [hp2]
          refine k_if_ge (tgt := 97) (pc := 92) dX5_get_92 (by decide) (fun c => absurd c ((show ¬ (0 : Int32) ≤ -1 by decide))) (fun _ => ?_)
          refine k_iconst (v := 0) (pc := 95) dX5_get_95 (by decide) ?_
          exact k_iret (pc := 96) dX5_get_96 rfl (fun _ h => ⟨_, h⟩) (Nat.le_refl _) (Nat.le_refl _)
        | some i =>
          have hil := ixS_lt hi
          have hs := setN_lt key
          obtain ⟨e0, he0⟩ : ∃ e0, (sP S (setN key))[i]? = some e0 := ⟨_, List.getElem?_eq_getElem hil⟩
          have hp2 : pageGet S key = (nI e0.1.2.1, uG (uP (uC S (inc (sC S) 11)) (va_up (sP S) (setN key) ((sP S (setN key)).modify i markP))) (nI e0.1.2.1, e0.1.2.2.1, e0.1.2.2.2)) := by
            unfold pageGet
            rw [if_pos hm, hi]
            simp only [he0]
          rw [hp2]
          refine k_open fun fi3 ai3 al3 h3 => ?_
          obtain ⟨g1, g2, g3⟩ := h3.2.2.1 (setN key) hs
          rw [uC_P] at g2 g3
          obtain ⟨c0, c1, c2, c3, c4⟩ := pent_k (g3 i e0 he0)
          have q1 : up2 ai3 15 (8 * setN key + i) 1 12 (8 * setN key + i) = nI e0.1.2.1 := by rw [up2_at, if_neg (by omega), c1]
          have q2 : up2 ai3 15 (8 * setN key + i) 1 13 (8 * setN key + i) = e0.1.2.2.1 := by rw [up2_at, if_neg (by omega), c2]
          have q3 : up2 ai3 15 (8 * setN key + i) 1 14 (8 * setN key + i) = e0.1.2.2.2 := by rw [up2_at, if_neg (by omega), c3]
          refine k_if_ge (tgt := 97) (pc := 92) dX5_get_92 (by decide) (fun _ => ?_) (fun c => absurd ((show (0 : Int32) ≤ oI (some (8 * setN key + i)) from nI_pos' (by omega))) c)
          refine k_aload_n (pc := 97) dX5_get_97 rfl ?_
          refine mg_48 hst (pc := 98) dX5_get_98 ?_
          refine k_iload (pc := 101) dX5_get_101 rfl ?_
          refine k_iconst (v := 1) (pc := 103) dX5_get_103 (by decide) ?_
          refine m_zast hst rfl (pc := 104) dX5_get_104 (show oI (some (8 * setN key + i)) = nI (8 * setN key + i) from rfl) (by simp only [mln]; omega) (by decide) rfl ?_
          refine k_aload_n (pc := 105) dX5_get_105 rfl ?_
          refine k_aload_n (pc := 106) dX5_get_106 rfl ?_
          refine mg_39 hst (pc := 107) dX5_get_107 ?_
          refine k_iload (pc := 110) dX5_get_110 rfl ?_
          refine m_iald hst rfl (pc := 112) dX5_get_112 (show oI (some (8 * setN key + i)) = nI (8 * setN key + i) from rfl) (by simp only [mln]; omega) (by decide) ?_
          rw [q1]
          refine mp_161 hst (pc := 113) dX5_get_113 rfl rfl ?_
          refine k_aload_n (pc := 116) dX5_get_116 rfl ?_
          refine k_aload_n (pc := 117) dX5_get_117 rfl ?_
          refine mg_42 hst (pc := 118) dX5_get_118 ?_
          refine k_iload (pc := 121) dX5_get_121 rfl ?_
          refine m_iald hst rfl (pc := 123) dX5_get_123 (show oI (some (8 * setN key + i)) = nI (8 * setN key + i) from rfl) (by simp only [mln]; omega) (by decide) ?_
          rw [q2]
          refine mp_164 hst (pc := 124) dX5_get_124 rfl rfl ?_
          refine k_aload_n (pc := 127) dX5_get_127 rfl ?_
          refine k_aload_n (pc := 128) dX5_get_128 rfl ?_
          refine mg_45 hst (pc := 129) dX5_get_129 ?_
          refine k_iload (pc := 132) dX5_get_132 rfl ?_
          refine m_iald hst rfl (pc := 134) dX5_get_134 (show oI (some (8 * setN key + i)) = nI (8 * setN key + i) from rfl) (by simp only [mln]; omega) (by decide) ?_
          rw [q3]
          refine mp_167 hst (pc := 135) dX5_get_135 rfl rfl ?_
          refine k_aload_n (pc := 138) dX5_get_138 rfl ?_
          refine mg_161 hst (pc := 139) dX5_get_139 ?_
          exact k_iret (pc := 142) dX5_get_142 rfl (MPS.of (rep_got (rep_markP h3 (by rw [uC_P]; exact hil) hs) _ _ _)) (Nat.le_refl _) (Nat.le_refl _)
set_option maxRecDepth 4000 in
theorem c_got (hst : MSt mo ad sl) (i : Int32) : Ct 0 0 0 yX5_got cX5_got 2 (some .int) G A [.ref mo, .int i] (MPS G A mo ad sl S) (some (.int (gotS S i))) (MPS G A mo ad sl S) := by
  refine Ct.of 0 rfl rfl (Nat.le_of_ble_eq_true rfl) ?_
  intro p l e s m below meth c hini
  refine k_openS fun nw => ?_
  refine k_open fun fi ai al h => ?_
  obtain ⟨-, -, -, -, -, -, -, -, r6, r7, r8⟩ := id h
  refine k_iload_n (pc := 0) dX5_got_0 rfl ?_
  refine k_if_lt (tgt := 26) (pc := 1) dX5_got_1 (by decide) (fun h1 => ?_) (fun h1 => ?_)
  · refine k_iconst (v := 0) (pc := 26) dX5_got_26 (by decide) ?_
    exact k_iret (pc := 27) dX5_got_27 (by unfold gotS; rw [if_neg (fun z => z.1 h1)]) (MPS.of h) (Nat.le_refl _) (Nat.le_refl _)
  · refine k_iload_n (pc := 4) dX5_got_4 rfl ?_
    refine k_aload_n (pc := 5) dX5_got_5 rfl ?_
    refine mg_161 hst (pc := 6) dX5_got_6 ?_
    rw [r6]
    refine k_icmp_ge (tgt := 26) (pc := 9) dX5_got_9 (by decide) (fun h2 => ?_) (fun h2 => ?_)
    · refine k_iconst (v := 0) (pc := 26) dX5_got_26 (by decide) ?_
      exact k_iret (pc := 27) dX5_got_27 (by unfold gotS; rw [if_neg (fun z => z.2 h2)]) (MPS.of h) (Nat.le_refl _) (Nat.le_refl _)
    · refine k_aload_n (pc := 12) dX5_got_12 rfl ?_
      refine mg_164 hst (pc := 13) dX5_got_13 ?_
      refine k_iload_n (pc := 16) dX5_got_16 rfl ?_
      refine k_aload_n (pc := 17) dX5_got_17 rfl ?_
      refine mg_167 hst (pc := 18) dX5_got_18 ?_
      refine k_imul (pc := 21) dX5_got_21 ?_
      refine k_iadd (pc := 22) dX5_got_22 ?_
      refine k_goto (tgt := 27) (pc := 23) dX5_got_23 (by decide) ?_
      exact k_iret (pc := 27) dX5_got_27 (by unfold gotS; rw [if_pos ⟨h1, h2⟩, r7, r8]) (MPS.of h) (Nat.le_refl _) (Nat.le_refl _)
set_option maxRecDepth 4000 in
theorem c_remove (hst : MSt mo ad sl) (key : Int64) : Ct 5 0 0 yX5_remove cX5_remove 5 (some .int) G A [.ref mo, .long key] (MPS G A mo ad sl S) (some (.int (removeS S key).1)) (MPS G A mo ad sl (removeS S key).2) := by
  refine Ct.of 2 rfl rfl (Nat.le_of_ble_eq_true rfl) ?_
  intro p l e s m below meth c hini
  refine k_openS fun nw => ?_
  refine k_open fun fi ai al h => ?_
  refine k_aload_n (pc := 0) dX5_remove_0 rfl ?_
  refine mg_157 hst (pc := 1) dX5_remove_1 ?_
  rw [rX h]
  cases hx : sX S with
  | true =>
    have hp : removeS S key = (-2, S) := if_pos hx
    rw [hp]
    refine k_if_eq (tgt := 10) (pc := 4) dX5_remove_4 (by decide) (fun c => absurd c ((show ¬ bI true = 0 by decide))) (fun _ => ?_)
    refine k_bipush (v := -2) (pc := 7) dX5_remove_7 (by decide) ?_
    exact k_iret (pc := 9) dX5_remove_9 rfl (MPS.of h) (Nat.le_refl _) (Nat.le_refl _)
  | false =>
    have hp : removeS S key = (bI ((lastIx (sL S) key (sL S).length).isSome || (takeS (killKey S key) key 4).2), (takeS (killKey S key) key 4).1) := if_neg (by rw [hx]; decide)
    refine k_if_eq (tgt := 10) (pc := 4) dX5_remove_4 (by decide) (fun _ => ?_) (fun c => absurd (show bI false = 0 by decide) c)
    refine k_close h ?_
    have tail : ∀ (nw' : List Ne), K p l e s m ([.ref mo, .long key] : List Value).toArray below meth c (rmm 5 0 0) yX5_remove.cls cX5_remove 5 (some .int) G A (MQ below (Qd (some (.int (removeS S key).1)) (MPS G A mo ad sl (removeS S key).2) A) ([.ref mo, .long key] : List Value).toArray s 0 0 A) 0 0 (MPN G A mo ad sl (killKey S key) nw') 27 [some (.ref mo), some (.long key), none, some (.int (oI (lastIx (sL S) key (sL S).length))), none] [] := by
      intro nw'
      refine k_aload_n (pc := 27) dX5_remove_27 rfl ?_
      refine k_lload_n (pc := 28) dX5_remove_28 rfl ?_
      refine k_iconst (v := 4) (pc := 29) dX5_remove_29 (by decide) ?_
      refine k_callM sv_X5_126 hst (c_takeOut hst key 4 (by decide)) (pc := 30) dX5_remove_30 rfl rfl (Nat.le_of_ble_eq_true rfl) (by decide) (by decide) (Nat.le_refl _) (Nat.le_refl _) ?_
      refine k_istore (pc := 33) dX5_remove_33 (by decide) rfl ?_
      refine k_iload_n (pc := 35) dX5_remove_35 rfl ?_
      rw [hp]
      cases hq : lastIx (sL S) key (sL S).length with
      | some q =>
        have hql := lastIx_lt hq
        have hlen := h.1.2.1
        refine k_if_ge (tgt := 44) (pc := 36) dX5_remove_36 (by decide) (fun _ => ?_) (fun c => absurd ((show (0 : Int32) ≤ oI (some q) from nI_pos' (by omega))) c)
        refine k_iconst (v := 1) (pc := 44) dX5_remove_44 (by decide) ?_
        refine k_goto (tgt := 49) (pc := 45) dX5_remove_45 (by decide) ?_
        exact k_iret (pc := 49) dX5_remove_49 rfl (fun _ h => ⟨_, h⟩) (Nat.le_refl _) (Nat.le_refl _)
      | none =>
        refine k_if_ge (tgt := 44) (pc := 36) dX5_remove_36 (by decide) (fun c => absurd c ((show ¬ (0 : Int32) ≤ -1 by decide))) (fun _ => ?_)
        refine k_iload (pc := 39) dX5_remove_39 rfl ?_
        cases ht : (takeS (killKey S key) key 4).2 with
        | true =>
          refine k_if_eq (tgt := 48) (pc := 41) dX5_remove_41 (by decide) (fun c => absurd c ((show ¬ bI true = 0 by decide))) (fun _ => ?_)
          refine k_iconst (v := 1) (pc := 44) dX5_remove_44 (by decide) ?_
          refine k_goto (tgt := 49) (pc := 45) dX5_remove_45 (by decide) ?_
          exact k_iret (pc := 49) dX5_remove_49 rfl (fun _ h => ⟨_, h⟩) (Nat.le_refl _) (Nat.le_refl _)
        | false =>
          refine k_if_eq (tgt := 48) (pc := 41) dX5_remove_41 (by decide) (fun _ => ?_) (fun c => absurd ((show bI false = 0 by decide)) c)
          refine k_iconst (v := 0) (pc := 48) dX5_remove_48 (by decide) ?_
          exact k_iret (pc := 49) dX5_remove_49 rfl (fun _ h => ⟨_, h⟩) (Nat.le_refl _) (Nat.le_refl _)
    refine k_aload_n (pc := 10) dX5_remove_10 rfl ?_
    refine k_lload_n (pc := 11) dX5_remove_11 rfl ?_
    refine k_callM sv_X5_133 hst (n_inLog hst key) (pc := 12) dX5_remove_12 rfl rfl (Nat.le_of_ble_eq_true rfl) (by decide) (by decide) (Nat.le_refl _) (Nat.le_refl _) ?_
    refine k_istore_n (pc := 15) dX5_remove_15 (by decide) rfl ?_
    refine k_iload_n (pc := 16) dX5_remove_16 rfl ?_
    cases hq : lastIx (sL S) key (sL S).length with
    | none =>
      have hk : killKey S key = S := by unfold killKey; rw [hq]
      have t6 := tail nw
      rw [hq] at t6
      refine k_if_lt (tgt := 27) (pc := 17) dX5_remove_17 (by decide) (fun _ => ?_) (fun c => absurd (oI_neg) c)
      exact k_I (I2 := MPN G A mo ad sl (killKey S key) nw) (fun H hH => by rw [hk]; exact hH) t6
    | some q =>
      have hk : killKey S key = uL S (killAt (sL S) q) := by unfold killKey; rw [hq]
      have hql := lastIx_lt hq
      have t6 := tail nw
      rw [hq] at t6
      refine k_open fun fi2 ai2 al2 h2 => ?_
      have hlen := h2.1.2.1
      refine k_if_lt (tgt := 27) (pc := 17) dX5_remove_17 (by decide) (fun c => absurd c ((oI_some_lt (k := q) (by omega)))) (fun _ => ?_)
      refine k_aload_n (pc := 20) dX5_remove_20 rfl ?_
      refine mg_23 hst (pc := 21) dX5_remove_21 ?_
      refine k_iload_n (pc := 24) dX5_remove_24 rfl ?_
      refine k_iconst (v := 0) (pc := 25) dX5_remove_25 (by decide) ?_
      refine m_zast hst rfl (pc := 26) dX5_remove_26 (show oI (some q) = nI q from rfl) (by simp only [mln]; omega) (by decide) rfl ?_
      exact k_I (I2 := MPN G A mo ad sl (killKey S key) nw) (fun H hH => by rw [hk]; exact MPN.of (rep_kill h2 q) H hH) t6
set_option maxRecDepth 4000 in
theorem c_where (hst : MSt mo ad sl) (key : Int64) : Ct 3 0 0 yX5_where cX5_where 3 (some .int) G A [.ref mo, .long key] (MPS G A mo ad sl S) (some (.int (whereS S key))) (MPS G A mo ad sl S) := by
  refine Ct.of 0 rfl rfl (Nat.le_of_ble_eq_true rfl) ?_
  intro p l e s m below meth c hini
  refine k_openS fun nw => ?_
  refine k_open fun fi ai al h => ?_
  have hlen := h.1.2.1
  refine k_aload_n (pc := 0) dX5_where_0 rfl ?_
  refine mg_157 hst (pc := 1) dX5_where_1 ?_
  rw [rX h]
  cases hx : sX S with
  | true =>
    refine k_if_eq (tgt := 12) (pc := 4) dX5_where_4 (by decide) (fun c => absurd c ((show ¬ bI true = 0 by decide))) (fun _ => ?_)
    refine k_bipush (v := -2) (pc := 7) dX5_where_7 (by decide) ?_
    refine k_goto (tgt := 37) (pc := 9) dX5_where_9 (by decide) ?_
    exact k_iret (pc := 37) dX5_where_37 (by unfold whereS; rw [if_pos hx]) (MPS.of h) (Nat.le_refl _) (Nat.le_refl _)
  | false =>
    have hx2 : ¬ sX S = true := by rw [hx]; decide
    refine k_if_eq (tgt := 12) (pc := 4) dX5_where_4 (by decide) (fun _ => ?_) (fun c => absurd (show bI false = 0 by decide) c)
    have hP8 := (h.2.2.1 (setN key) (setN_lt key)).2.1
    refine k_close h ?_
    refine k_aload_n (pc := 12) dX5_where_12 rfl ?_
    refine k_lload_n (pc := 13) dX5_where_13 rfl ?_
    refine k_callM sv_X5_133 hst (n_inLog hst key) (pc := 14) dX5_where_14 rfl rfl (Nat.le_of_ble_eq_true rfl) (by decide) (by decide) (Nat.le_refl _) (Nat.le_refl _) ?_
    cases hq : lastIx (sL S) key (sL S).length with
    | some q =>
      have hql := lastIx_lt hq
      refine k_if_lt (tgt := 24) (pc := 17) dX5_where_17 (by decide) (fun c => absurd c ((oI_some_lt (k := q) (by omega)))) (fun _ => ?_)
      refine k_iconst (v := 1) (pc := 20) dX5_where_20 (by decide) ?_
      refine k_goto (tgt := 37) (pc := 21) dX5_where_21 (by decide) ?_
      exact k_iret (pc := 37) dX5_where_37 (by unfold whereS; rw [if_neg hx2, hq]; rfl) (fun _ h => ⟨_, h⟩) (Nat.le_refl _) (Nat.le_refl _)
    | none =>
      refine k_if_lt (tgt := 24) (pc := 17) dX5_where_17 (by decide) (fun _ => ?_) (fun c => absurd (oI_neg) c)
      refine k_aload_n (pc := 24) dX5_where_24 rfl ?_
      refine k_lload_n (pc := 25) dX5_where_25 rfl ?_
      refine k_callM sv_X5_154 hst (n_inPage hst key) (pc := 26) dX5_where_26 rfl rfl (Nat.le_of_ble_eq_true rfl) (by decide) (by decide) (Nat.le_refl _) (Nat.le_refl _) ?_
      cases hi : ixS (sP S (setN key)) key with
      | some i =>
        have hil := ixS_lt hi
        have hs := setN_lt key
        refine k_if_lt (tgt := 36) (pc := 29) dX5_where_29 (by decide) (fun c => absurd c ((show ¬ oI (some (8 * setN key + i)) < 0 from nI_pos (by omega)))) (fun _ => ?_)
        refine k_iconst (v := 2) (pc := 32) dX5_where_32 (by decide) ?_
        refine k_goto (tgt := 37) (pc := 33) dX5_where_33 (by decide) ?_
        exact k_iret (pc := 37) dX5_where_37 (by unfold whereS; rw [if_neg hx2, hq, hi]; rfl) (fun _ h => ⟨_, h⟩) (Nat.le_refl _) (Nat.le_refl _)
      | none =>
        refine k_if_lt (tgt := 36) (pc := 29) dX5_where_29 (by decide) (fun _ => ?_) (fun c => absurd (oI_neg) c)
        refine k_iconst (v := 0) (pc := 36) dX5_where_36 (by decide) ?_
        exact k_iret (pc := 37) dX5_where_37 (by unfold whereS; rw [if_neg hx2, hq, hi]; rfl) (fun _ h => ⟨_, h⟩) (Nat.le_refl _) (Nat.le_refl _)
set_option maxRecDepth 4000 in
theorem c_mark (hst : MSt mo ad sl) (key : Int64) : Ct 3 0 0 yX5_mark cX5_mark 5 (some .int) G A [.ref mo, .long key] (MPS G A mo ad sl S) (some (.int (markS S key))) (MPS G A mo ad sl S) := by
  refine Ct.of 2 rfl rfl (Nat.le_of_ble_eq_true rfl) ?_
  intro p l e s m below meth c hini
  refine k_openS fun nw => ?_
  refine k_open fun fi ai al h => ?_
  have hlen := h.1.2.1
  refine k_aload_n (pc := 0) dX5_mark_0 rfl ?_
  refine mg_157 hst (pc := 1) dX5_mark_1 ?_
  rw [rX h]
  cases hx : sX S with
  | true =>
    refine k_if_eq (tgt := 10) (pc := 4) dX5_mark_4 (by decide) (fun c => absurd c ((show ¬ bI true = 0 by decide))) (fun _ => ?_)
    refine k_bipush (v := -2) (pc := 7) dX5_mark_7 (by decide) ?_
    exact k_iret (pc := 9) dX5_mark_9 (by unfold markS; rw [if_pos hx]) (MPS.of h) (Nat.le_refl _) (Nat.le_refl _)
  | false =>
    have hx2 : ¬ sX S = true := by rw [hx]; decide
    refine k_if_eq (tgt := 10) (pc := 4) dX5_mark_4 (by decide) (fun _ => ?_) (fun c => absurd (show bI false = 0 by decide) c)
    refine k_close h ?_
    refine k_aload_n (pc := 10) dX5_mark_10 rfl ?_
    refine k_lload_n (pc := 11) dX5_mark_11 rfl ?_
    refine k_callM sv_X5_133 hst (n_inLog hst key) (pc := 12) dX5_mark_12 rfl rfl (Nat.le_of_ble_eq_true rfl) (by decide) (by decide) (Nat.le_refl _) (Nat.le_refl _) ?_
    refine k_istore_n (pc := 15) dX5_mark_15 (by decide) rfl ?_
    refine k_iload_n (pc := 16) dX5_mark_16 rfl ?_
    cases hq : lastIx (sL S) key (sL S).length with
    | some q =>
      have hql := lastIx_lt hq
      obtain ⟨e0, he0, -⟩ := lastIx_at hq
      refine k_open fun fi2 ai2 al2 h2 => ?_
      obtain ⟨-, -, -, -, -, c5, -⟩ := ent_k (h2.1.2.2 q e0 he0)
      have hm : markS S key = bI e0.2.2.1 := by unfold markS; rw [if_neg hx2, hq]; simp [he0]
      rw [hm]
      refine k_if_lt (tgt := 35) (pc := 17) dX5_mark_17 (by decide) (fun c => absurd c ((oI_some_lt (k := q) (by omega)))) (fun _ => ?_)
      refine k_aload_n (pc := 20) dX5_mark_20 rfl ?_
      refine mg_27 hst (pc := 21) dX5_mark_21 ?_
      refine k_iload_n (pc := 24) dX5_mark_24 rfl ?_
      refine m_zald hst rfl (pc := 25) dX5_mark_25 (show oI (some q) = nI q from rfl) (by simp only [mln]; omega) (by decide) ?_
      rw [c5]
      cases hb : e0.2.2.1 with
      | true =>
        refine k_if_eq (tgt := 33) (pc := 26) dX5_mark_26 (by decide) (fun c => absurd c ((show ¬ bI true = 0 by decide))) (fun _ => ?_)
        refine k_iconst (v := 1) (pc := 29) dX5_mark_29 (by decide) ?_
        refine k_goto (tgt := 34) (pc := 30) dX5_mark_30 (by decide) ?_
        exact k_iret (pc := 34) dX5_mark_34 rfl (MPS.of h2) (Nat.le_refl _) (Nat.le_refl _)
      | false =>
        refine k_if_eq (tgt := 33) (pc := 26) dX5_mark_26 (by decide) (fun _ => ?_) (fun c => absurd ((show bI false = 0 by decide)) c)
        refine k_iconst (v := 0) (pc := 33) dX5_mark_33 (by decide) ?_
        exact k_iret (pc := 34) dX5_mark_34 rfl (MPS.of h2) (Nat.le_refl _) (Nat.le_refl _)
    | none =>
      refine k_if_lt (tgt := 35) (pc := 17) dX5_mark_17 (by decide) (fun _ => ?_) (fun c => absurd (oI_neg) c)
      refine k_aload_n (pc := 35) dX5_mark_35 rfl ?_
      refine k_lload_n (pc := 36) dX5_mark_36 rfl ?_
      refine k_callM sv_X5_154 hst (n_inPage hst key) (pc := 37) dX5_mark_37 rfl rfl (Nat.le_of_ble_eq_true rfl) (by decide) (by decide) (Nat.le_refl _) (Nat.le_refl _) ?_
      refine k_istore (pc := 40) dX5_mark_40 (by decide) rfl ?_
      refine k_iload (pc := 42) dX5_mark_42 rfl ?_
      cases hi : ixS (sP S (setN key)) key with
      | some i =>
        have hil := ixS_lt hi
        have hs := setN_lt key
        obtain ⟨e0, he0⟩ : ∃ e0, (sP S (setN key))[i]? = some e0 := ⟨_, List.getElem?_eq_getElem hil⟩
        have hm : markS S key = bI e0.2 := by unfold markS; rw [if_neg hx2, hq]; simp [hi, he0]
        rw [hm]
        refine k_open fun fi2 ai2 al2 h2 => ?_
        obtain ⟨g1, g2, g3⟩ := h2.2.2.1 (setN key) hs
        obtain ⟨-, -, -, -, c4⟩ := pent_k (g3 i e0 he0)
        refine k_if_lt (tgt := 61) (pc := 44) dX5_mark_44 (by decide) (fun c => absurd c ((show ¬ oI (some (8 * setN key + i)) < 0 from nI_pos (by omega)))) (fun _ => ?_)
        refine k_aload_n (pc := 47) dX5_mark_47 rfl ?_
        refine mg_48 hst (pc := 48) dX5_mark_48 ?_
        refine k_iload (pc := 51) dX5_mark_51 rfl ?_
        refine m_zald hst rfl (pc := 53) dX5_mark_53 (show oI (some (8 * setN key + i)) = nI (8 * setN key + i) from rfl) (by simp only [mln]; omega) (by decide) ?_
        rw [c4]
        cases hb : e0.2 with
        | true =>
          refine k_if_eq (tgt := 61) (pc := 54) dX5_mark_54 (by decide) (fun c => absurd c ((show ¬ bI true = 0 by decide))) (fun _ => ?_)
          refine k_iconst (v := 1) (pc := 57) dX5_mark_57 (by decide) ?_
          refine k_goto (tgt := 62) (pc := 58) dX5_mark_58 (by decide) ?_
          exact k_iret (pc := 62) dX5_mark_62 rfl (MPS.of h2) (Nat.le_refl _) (Nat.le_refl _)
        | false =>
          refine k_if_eq (tgt := 61) (pc := 54) dX5_mark_54 (by decide) (fun _ => ?_) (fun c => absurd ((show bI false = 0 by decide)) c)
          refine k_iconst (v := 0) (pc := 61) dX5_mark_61 (by decide) ?_
          exact k_iret (pc := 62) dX5_mark_62 rfl (MPS.of h2) (Nat.le_refl _) (Nat.le_refl _)
      | none =>
        have hm : markS S key = 0 := by unfold markS; rw [if_neg hx2, hq]; simp [hi]
        rw [hm]
        refine k_if_lt (tgt := 61) (pc := 44) dX5_mark_44 (by decide) (fun _ => ?_) (fun c => absurd (oI_neg) c)
        refine k_iconst (v := 0) (pc := 61) dX5_mark_61 (by decide) ?_
        exact k_iret (pc := 62) dX5_mark_62 rfl (fun _ h => ⟨_, h⟩) (Nat.le_refl _) (Nat.le_refl _)
end REFN
end
section
theorem cnt_next {L : List En} {i : Nat} {e : En} (pr : En → Bool) (he : L[i]? = some e) : nI ((L.take i).filter pr).length + bI (pr e) = nI ((L.take (i + 1)).filter pr).length := by
  rw [List.take_add_one, he, List.filter_append]
  simp only [Option.toList, List.filter_cons, List.filter_nil]
  cases hp : pr e
  · simp [bI]
  · simp [bI, nI_1]
section REFO
variable {p : Program} {l : Launch} {e : Env} {s : State} {m : MethodId} {args : Array Value} {below : List Frame} {meth : Method} {c : Code} {R : Room} {G : Gd} {A : Nat → Prop} {Q : State → Prop} {k n : Nat} {mo : Nat} {ad sl : Nat → Nat} {S : SS} {nw : List Ne} {I0 : Heap → Prop}
set_option maxRecDepth 4000 in
theorem c_isSet (hst : MSt mo ad sl) (x : Int32) : Ct 0 0 0 yX5_isSet cX5_isSet 1 (some .boolean) G A [.int x] (I0) (some (.int (bI (isSet x)))) (I0) := by
  refine Ct.of 0 rfl rfl (Nat.le_of_ble_eq_true rfl) ?_
  intro p l e s m below meth c hini
  refine k_iload_n (pc := 0) dX5_isSet_0 rfl ?_
  refine k_if_lt (tgt := 14) (pc := 1) dX5_isSet_1 (by decide) (fun h1 => ?_) (fun h1 => ?_)
  · refine k_iconst (v := 0) (pc := 14) dX5_isSet_14 (by decide) ?_
    exact k_zret (pc := 15) dX5_isSet_15 (by simp [isSet, h1, bI]) (bI_nar _) (fun _ h => h) (Nat.le_refl _) (Nat.le_refl _)
  · refine k_iload_n (pc := 4) dX5_isSet_4 rfl ?_
    refine k_bipush (v := 64) (pc := 5) dX5_isSet_5 (by decide) ?_
    refine k_icmp_ge (tgt := 14) (pc := 7) dX5_isSet_7 (by decide) (fun h2 => ?_) (fun h2 => ?_)
    · refine k_iconst (v := 0) (pc := 14) dX5_isSet_14 (by decide) ?_
      exact k_zret (pc := 15) dX5_isSet_15 (by simp [isSet, h2, bI]) (bI_nar _) (fun _ h => h) (Nat.le_refl _) (Nat.le_refl _)
    · refine k_iconst (v := 1) (pc := 10) dX5_isSet_10 (by decide) ?_
      refine k_goto (tgt := 15) (pc := 11) dX5_isSet_11 (by decide) ?_
      exact k_zret (pc := 15) dX5_isSet_15 (by simp [isSet, h1, h2, bI]) (bI_nar _) (fun _ h => h) (Nat.le_refl _) (Nat.le_refl _)
set_option maxRecDepth 4000 in
theorem c_stands (hst : MSt mo ad sl) (x : Int32) : Ct 1 0 0 yX5_stands cX5_stands 2 (some .int) G A [.ref mo, .int x] (MPS G A mo ad sl S) (some (.int (standsS S x))) (MPS G A mo ad sl S) := by
  refine Ct.of 0 rfl rfl (Nat.le_of_ble_eq_true rfl) ?_
  intro p l e s m below meth c hini
  refine k_openS fun nw => ?_
  refine k_open fun fi ai al h => ?_
  refine k_aload_n (pc := 0) dX5_stands_0 rfl ?_
  refine mg_157 hst (pc := 1) dX5_stands_1 ?_
  rw [rX h]
  cases hx : sX S with
  | true =>
    refine k_if_eq (tgt := 12) (pc := 4) dX5_stands_4 (by decide) (fun c => absurd c ((show ¬ bI true = 0 by decide))) (fun _ => ?_)
    refine k_bipush (v := -2) (pc := 7) dX5_stands_7 (by decide) ?_
    refine k_goto (tgt := 29) (pc := 9) dX5_stands_9 (by decide) ?_
    exact k_iret (pc := 29) dX5_stands_29 (by unfold standsS; rw [if_pos hx]) (MPS.of h) (Nat.le_refl _) (Nat.le_refl _)
  | false =>
    have hx2 : ¬ sX S = true := by rw [hx]; decide
    refine k_if_eq (tgt := 12) (pc := 4) dX5_stands_4 (by decide) (fun _ => ?_) (fun c => absurd (show bI false = 0 by decide) c)
    refine k_iload_n (pc := 12) dX5_stands_12 rfl ?_
    refine k_callS ss_X5_170 (c_isSet hst x) (pc := 13) dX5_stands_13 rfl rfl (Nat.le_of_ble_eq_true rfl) (by decide) (by decide) (Nat.le_refl _) (Nat.le_refl _) ?_
    cases hi : isSet x with
    | true =>
      obtain ⟨e1, e2⟩ := isSet_ok hi
      refine k_if_eq (tgt := 28) (pc := 16) dX5_stands_16 (by decide) (fun c => absurd c ((show ¬ bI true = 0 by decide))) (fun _ => ?_)
      refine k_aload_n (pc := 19) dX5_stands_19 rfl ?_
      refine mg_51 hst (pc := 20) dX5_stands_20 ?_
      refine k_iload_n (pc := 23) dX5_stands_23 rfl ?_
      refine m_iald hst rfl (pc := 24) dX5_stands_24 e1 e2 (by decide) ?_
      refine k_goto (tgt := 29) (pc := 25) dX5_stands_25 (by decide) ?_
      exact k_iret (pc := 29) dX5_stands_29 (by unfold standsS; rw [if_neg hx2, if_pos hi]; exact (h.2.2.1 _ e2).1) (MPS.of h) (Nat.le_refl _) (Nat.le_refl _)
    | false =>
      refine k_if_eq (tgt := 28) (pc := 16) dX5_stands_16 (by decide) (fun _ => ?_) (fun c => absurd ((show bI false = 0 by decide)) c)
      refine k_iconst (v := -1) (pc := 28) dX5_stands_28 (by decide) ?_
      exact k_iret (pc := 29) dX5_stands_29 (by unfold standsS; rw [if_neg hx2, if_neg (by rw [hi]; decide)]) (MPS.of h) (Nat.le_refl _) (Nat.le_refl _)
set_option maxRecDepth 4000 in
theorem c_key (hst : MSt mo ad sl) (x i : Int32) : Ct 1 0 0 yX5_key cX5_key 3 (some .long) G A [.ref mo, .int x, .int i] (MPS G A mo ad sl S) (some (.long (keyS S x i))) (MPS G A mo ad sl S) := by
  refine Ct.of 0 rfl rfl (Nat.le_of_ble_eq_true rfl) ?_
  intro p l e s m below meth c hini
  refine k_openS fun nw => ?_
  refine k_open fun fi ai al h => ?_
  have fin : keyS S x i = 0 → K p l e s m ([.ref mo, .int x, .int i] : List Value).toArray below meth c (rmm 1 0 0) yX5_key.cls cX5_key 3 (some .long) G A (MQ below (Qd (some (.long (keyS S x i))) (MPS G A mo ad sl S) A) ([.ref mo, .int x, .int i] : List Value).toArray s 0 0 A) 0 0 (MH G A mo ad sl fi ai al) 42 [some (.ref mo), some (.int x), some (.int i)] [] := by
    intro h0
    rw [h0]
    refine k_lconst (v := 0) (pc := 42) dX5_key_42 (by decide) ?_
    exact k_lret (pc := 43) dX5_key_43 rfl (MPS.of h) (Nat.le_refl _) (Nat.le_refl _)
  refine k_aload_n (pc := 0) dX5_key_0 rfl ?_
  refine mg_157 hst (pc := 1) dX5_key_1 ?_
  rw [rX h]
  cases hx : sX S with
  | true =>
    refine k_if_ne (tgt := 42) (pc := 4) dX5_key_4 (by decide) (fun _ => ?_) (fun c => absurd c ((show ¬ bI true = 0 by decide)))
    exact fin (by unfold keyS; rw [if_pos hx])
  | false =>
    have hx2 : ¬ sX S = true := by rw [hx]; decide
    refine k_if_ne (tgt := 42) (pc := 4) dX5_key_4 (by decide) (fun c => absurd ((show bI false = 0 by decide)) c) (fun _ => ?_)
    refine k_iload_n (pc := 7) dX5_key_7 rfl ?_
    refine k_callS ss_X5_170 (c_isSet hst x) (pc := 8) dX5_key_8 rfl rfl (Nat.le_of_ble_eq_true rfl) (by decide) (by decide) (Nat.le_refl _) (Nat.le_refl _) ?_
    cases hi : isSet x with
    | true =>
      obtain ⟨e1, e2⟩ := isSet_ok hi
      obtain ⟨g1, g2, g3⟩ := h.2.2.1 _ e2
      refine k_if_eq (tgt := 42) (pc := 11) dX5_key_11 (by decide) (fun c => absurd c ((show ¬ bI true = 0 by decide))) (fun _ => ?_)
      refine k_iload_n (pc := 14) dX5_key_14 rfl ?_
      refine k_if_lt (tgt := 42) (pc := 15) dX5_key_15 (by decide) (fun h1 => ?_) (fun h1 => ?_)
      · exact fin (by unfold keyS; rw [if_neg hx2, if_pos hi, if_pos h1])
      · obtain ⟨q, hq, e3⟩ := nI_of h1
        have hk : keyS S x i = (((sP S x.toNatClampNeg)[q]?).map (fun e => e.1.1)).getD 0 := by
          unfold keyS
          rw [if_neg hx2, if_pos hi, if_neg h1, e3, nI_clamp hq]
        refine k_iload_n (pc := 18) dX5_key_18 rfl ?_
        refine k_aload_n (pc := 19) dX5_key_19 rfl ?_
        refine mg_51 hst (pc := 20) dX5_key_20 ?_
        refine k_iload_n (pc := 23) dX5_key_23 rfl ?_
        refine m_iald hst rfl (pc := 24) dX5_key_24 e1 e2 (by decide) ?_
        rw [g1]
        by_cases hql : q < (sP S x.toNatClampNeg).length
        · refine k_icmp_ge (tgt := 42) (pc := 25) dX5_key_25 (by decide) (fun c => absurd (e3 ▸ c) (nI_ge hql (by omega))) (fun _ => ?_)
          obtain ⟨c0, -⟩ := pent_k (g3 q _ (List.getElem?_eq_getElem hql))
          refine k_aload_n (pc := 28) dX5_key_28 rfl ?_
          refine mg_36 hst (pc := 29) dX5_key_29 ?_
          refine k_bipush (v := 8) (pc := 32) dX5_key_32 (by decide) ?_
          refine k_iload_n (pc := 34) dX5_key_34 rfl ?_
          refine k_imul (pc := 35) dX5_key_35 ?_
          refine k_iload_n (pc := 36) dX5_key_36 rfl ?_
          refine k_iadd (pc := 37) dX5_key_37 ?_
          have hix : 8 * x + i = nI (8 * x.toNatClampNeg + q) := by rw [e1, e3, nI_8, nI_clamp (by omega)]
          refine m_lald hst rfl (pc := 38) dX5_key_38 hix (by simp only [mln]; omega) (by decide) ?_
          refine k_goto (tgt := 43) (pc := 39) dX5_key_39 (by decide) ?_
          exact k_lret (pc := 43) dX5_key_43 (by rw [hk, List.getElem?_eq_getElem hql]; exact c0) (MPS.of h) (Nat.le_refl _) (Nat.le_refl _)
        · refine k_icmp_ge (tgt := 42) (pc := 25) dX5_key_25 (by decide) (fun _ => ?_) (fun c => absurd (e3 ▸ nI_le (by omega) hq) c)
          exact fin (by rw [hk, List.getElem?_eq_none (by omega)]; rfl)
    | false =>
      refine k_if_eq (tgt := 42) (pc := 11) dX5_key_11 (by decide) (fun _ => ?_) (fun c => absurd ((show bI false = 0 by decide)) c)
      exact fin (by unfold keyS; rw [if_neg hx2, if_neg (by rw [hi]; decide)])
set_option maxRecDepth 4000 in
theorem c_filter (hst : MSt mo ad sl) (x : Int32) : Ct 3 0 0 yX5_filter cX5_filter 2 (some .long) G A [.ref mo, .int x] (MPS G A mo ad sl S) (some (.long (filterS S x))) (MPS G A mo ad sl S) := by
  refine Ct.of 0 rfl rfl (Nat.le_of_ble_eq_true rfl) ?_
  intro p l e s m below meth c hini
  refine k_openS fun nw => ?_
  refine k_open fun fi ai al h => ?_
  refine k_aload_n (pc := 0) dX5_filter_0 rfl ?_
  refine mg_157 hst (pc := 1) dX5_filter_1 ?_
  rw [rX h]
  cases hx : sX S with
  | true =>
    refine k_if_ne (tgt := 22) (pc := 4) dX5_filter_4 (by decide) (fun _ => ?_) (fun c => absurd c ((show ¬ bI true = 0 by decide)))
    refine k_lconst (v := 0) (pc := 22) dX5_filter_22 (by decide) ?_
    exact k_lret (pc := 23) dX5_filter_23 (by unfold filterS; rw [if_pos hx]) (MPS.of h) (Nat.le_refl _) (Nat.le_refl _)
  | false =>
    have hx2 : ¬ sX S = true := by rw [hx]; decide
    refine k_if_ne (tgt := 22) (pc := 4) dX5_filter_4 (by decide) (fun c => absurd ((show bI false = 0 by decide)) c) (fun _ => ?_)
    refine k_iload_n (pc := 7) dX5_filter_7 rfl ?_
    refine k_callS ss_X5_170 (c_isSet hst x) (pc := 8) dX5_filter_8 rfl rfl (Nat.le_of_ble_eq_true rfl) (by decide) (by decide) (Nat.le_refl _) (Nat.le_refl _) ?_
    cases hi : isSet x with
    | true =>
      obtain ⟨e1, e2⟩ := isSet_ok hi
      refine k_if_eq (tgt := 22) (pc := 11) dX5_filter_11 (by decide) (fun c => absurd c ((show ¬ bI true = 0 by decide))) (fun _ => ?_)
      have hC := n_filterOf (G := G) (A := A) (S := S) (nw := nw) hst x.toNatClampNeg e2
      rw [← e1] at hC
      refine k_close h ?_
      refine k_aload_n (pc := 14) dX5_filter_14 rfl ?_
      refine k_iload_n (pc := 15) dX5_filter_15 rfl ?_
      refine k_callM sv_X5_92 hst (hC) (pc := 16) dX5_filter_16 rfl rfl (Nat.le_of_ble_eq_true rfl) (by decide) (by decide) (Nat.le_refl _) (Nat.le_refl _) ?_
      refine k_goto (tgt := 23) (pc := 19) dX5_filter_19 (by decide) ?_
      exact k_lret (pc := 23) dX5_filter_23 (by unfold filterS; rw [if_neg hx2, if_pos hi]) (fun _ h => ⟨_, h⟩) (Nat.le_refl _) (Nat.le_refl _)
    | false =>
      refine k_if_eq (tgt := 22) (pc := 11) dX5_filter_11 (by decide) (fun _ => ?_) (fun c => absurd ((show bI false = 0 by decide)) c)
      refine k_lconst (v := 0) (pc := 22) dX5_filter_22 (by decide) ?_
      exact k_lret (pc := 23) dX5_filter_23 (by unfold filterS; rw [if_neg hx2, if_neg (by rw [hi]; decide)]) (MPS.of h) (Nat.le_refl _) (Nat.le_refl _)
set_option maxRecDepth 4000 in
theorem c_aliveInLog (hst : MSt mo ad sl)  : Ct 0 0 0 yX5_aliveInLog cX5_aliveInLog 3 (some .int) G A [.ref mo] (MPN G A mo ad sl S nw) (some (.int (livS S))) (MPN G A mo ad sl S nw) := by
  refine Ct.of 2 rfl rfl (Nat.le_of_ble_eq_true rfl) ?_
  intro p l e s m below meth c hini
  refine k_open fun fi ai al h => ?_
  have hlen := h.1.2.1
  have loop : ∀ j i : Nat, i + j = (sL S).length → K p l e s m ([.ref mo] : List Value).toArray below meth c (rmm 0 0 0) yX5_aliveInLog.cls cX5_aliveInLog 3 (some .int) G A (MQ below (Qd (some (.int (livS S))) (MPN G A mo ad sl S nw) A) ([.ref mo] : List Value).toArray s 0 0 A) 0 0 (MH G A mo ad sl fi ai al) 4 [some (.ref mo), some (.int (nI (((sL S).take i).filter (fun e => e.2.1)).length)), some (.int (nI i))] [] := by
    intro j
    induction j with
    | zero =>
      intro i hi
      have hi6 : i = (sL S).length := by omega
      subst hi6
      refine k_iload_n (pc := 4) dX5_aliveInLog_4 rfl ?_
      refine k_aload_n (pc := 5) dX5_aliveInLog_5 rfl ?_
      refine mg_96 hst (pc := 6) dX5_aliveInLog_6 ?_
      rw [h.1.1]
      refine k_icmp_ge (tgt := 35) (pc := 9) dX5_aliveInLog_9 (by decide) (fun _ => ?_) (fun c => absurd (nI_le (Nat.le_refl _) (by omega)) c)
      rw [List.take_length]
      refine k_iload_n (pc := 35) dX5_aliveInLog_35 rfl ?_
      exact k_iret (pc := 36) dX5_aliveInLog_36 rfl (MPN.of h) (Nat.le_refl _) (Nat.le_refl _)
    | succ j ih =>
      intro i hi
      obtain ⟨e0, he0⟩ : ∃ e0, (sL S)[i]? = some e0 := ⟨(sL S)[i], List.getElem?_eq_getElem (by omega)⟩
      obtain ⟨-, -, -, -, c4, -⟩ := ent_k (h.1.2.2 i e0 he0)
      have step := ih (i + 1) (by omega)
      rw [← cnt_next _ he0] at step
      refine k_iload_n (pc := 4) dX5_aliveInLog_4 rfl ?_
      refine k_aload_n (pc := 5) dX5_aliveInLog_5 rfl ?_
      refine mg_96 hst (pc := 6) dX5_aliveInLog_6 ?_
      rw [h.1.1]
      refine k_icmp_ge (tgt := 35) (pc := 9) dX5_aliveInLog_9 (by decide) (fun c => absurd c (nI_ge (by omega) (by omega))) (fun _ => ?_)
      refine k_iload_n (pc := 12) dX5_aliveInLog_12 rfl ?_
      refine k_aload_n (pc := 13) dX5_aliveInLog_13 rfl ?_
      refine mg_23 hst (pc := 14) dX5_aliveInLog_14 ?_
      refine k_iload_n (pc := 17) dX5_aliveInLog_17 rfl ?_
      refine m_zald hst rfl (pc := 18) dX5_aliveInLog_18 rfl (by simp only [mln]; omega) (by decide) ?_
      rw [c4]
      cases hb : e0.2.1 with
      | true =>
        simp only [hb] at step
        refine k_if_eq (tgt := 26) (pc := 19) dX5_aliveInLog_19 (by decide) (fun c => absurd c ((show ¬ bI true = 0 by decide))) (fun _ => ?_)
        refine k_iconst (v := 1) (pc := 22) dX5_aliveInLog_22 (by decide) ?_
        refine k_goto (tgt := 27) (pc := 23) dX5_aliveInLog_23 (by decide) ?_
        refine k_iadd (pc := 27) dX5_aliveInLog_27 ?_
        refine k_istore_n (pc := 28) dX5_aliveInLog_28 (by decide) rfl ?_
        refine k_iinc (pc := 29) dX5_aliveInLog_29 rfl (nI_inc _) (by decide) rfl ?_
        refine k_goto (tgt := 4) (pc := 32) dX5_aliveInLog_32 (by decide) ?_
        exact step
      | false =>
        simp only [hb] at step
        refine k_if_eq (tgt := 26) (pc := 19) dX5_aliveInLog_19 (by decide) (fun _ => ?_) (fun c => absurd ((show bI false = 0 by decide)) c)
        refine k_iconst (v := 0) (pc := 26) dX5_aliveInLog_26 (by decide) ?_
        refine k_iadd (pc := 27) dX5_aliveInLog_27 ?_
        refine k_istore_n (pc := 28) dX5_aliveInLog_28 (by decide) rfl ?_
        refine k_iinc (pc := 29) dX5_aliveInLog_29 rfl (nI_inc _) (by decide) rfl ?_
        refine k_goto (tgt := 4) (pc := 32) dX5_aliveInLog_32 (by decide) ?_
        exact step
  refine k_iconst (v := 0) (pc := 0) dX5_aliveInLog_0 (by decide) ?_
  refine k_istore_n (pc := 1) dX5_aliveInLog_1 (by decide) rfl ?_
  refine k_iconst (v := 0) (pc := 2) dX5_aliveInLog_2 (by decide) ?_
  refine k_istore_n (pc := 3) dX5_aliveInLog_3 (by decide) rfl ?_
  exact loop (sL S).length 0 (by omega)
set_option maxRecDepth 4000 in
theorem c_inPages (hst : MSt mo ad sl)  : Ct 0 0 0 yX5_inPages cX5_inPages 3 (some .int) G A [.ref mo] (MPN G A mo ad sl S nw) (some (.int (nI (sumP S 64)))) (MPN G A mo ad sl S nw) := by
  refine Ct.of 2 rfl rfl (Nat.le_of_ble_eq_true rfl) ?_
  intro p l e s m below meth c hini
  refine k_open fun fi ai al h => ?_
  have loop : ∀ j i : Nat, i + j = 64 → K p l e s m ([.ref mo] : List Value).toArray below meth c (rmm 0 0 0) yX5_inPages.cls cX5_inPages 3 (some .int) G A (MQ below (Qd (some (.int (nI (sumP S 64)))) (MPN G A mo ad sl S nw) A) ([.ref mo] : List Value).toArray s 0 0 A) 0 0 (MH G A mo ad sl fi ai al) 4 [some (.ref mo), some (.int (nI (sumP S i))), some (.int (nI i))] [] := by
    intro j
    induction j with
    | zero =>
      intro i hi
      have hi6 : i = 64 := by omega
      subst hi6
      refine k_iload_n (pc := 4) dX5_inPages_4 rfl ?_
      refine k_bipush (v := 64) (pc := 5) dX5_inPages_5 (by decide) ?_
      refine k_icmp_ge (tgt := 25) (pc := 7) dX5_inPages_7 (by decide) (fun _ => ?_) (fun c => absurd (by decide) c)
      refine k_iload_n (pc := 25) dX5_inPages_25 rfl ?_
      exact k_iret (pc := 26) dX5_inPages_26 rfl (MPN.of h) (Nat.le_refl _) (Nat.le_refl _)
    | succ j ih =>
      intro i hi
      have step := ih (i + 1) (by omega)
      rw [show sumP S (i + 1) = sumP S i + (sP S i).length from rfl, ← nI_add] at step
      refine k_iload_n (pc := 4) dX5_inPages_4 rfl ?_
      refine k_bipush (v := 64) (pc := 5) dX5_inPages_5 (by decide) ?_
      refine k_icmp_ge (tgt := 25) (pc := 7) dX5_inPages_7 (by decide) (fun c => absurd c (nI_ge (a := i) (b := 64) (by omega) (by decide))) (fun _ => ?_)
      refine k_iload_n (pc := 10) dX5_inPages_10 rfl ?_
      refine k_aload_n (pc := 11) dX5_inPages_11 rfl ?_
      refine mg_51 hst (pc := 12) dX5_inPages_12 ?_
      refine k_iload_n (pc := 15) dX5_inPages_15 rfl ?_
      refine m_iald hst rfl (pc := 16) dX5_inPages_16 rfl (by simp only [mln]; omega) (by decide) ?_
      rw [(h.2.2.1 i (by omega)).1]
      refine k_iadd (pc := 17) dX5_inPages_17 ?_
      refine k_istore_n (pc := 18) dX5_inPages_18 (by decide) rfl ?_
      refine k_iinc (pc := 19) dX5_inPages_19 rfl (nI_inc _) (by decide) rfl ?_
      refine k_goto (tgt := 4) (pc := 22) dX5_inPages_22 (by decide) ?_
      exact step
  refine k_iconst (v := 0) (pc := 0) dX5_inPages_0 (by decide) ?_
  refine k_istore_n (pc := 1) dX5_inPages_1 (by decide) rfl ?_
  refine k_iconst (v := 0) (pc := 2) dX5_inPages_2 (by decide) ?_
  refine k_istore_n (pc := 3) dX5_inPages_3 (by decide) rfl ?_
  exact loop 64 0 (by omega)
set_option maxRecDepth 4000 in
theorem c_alive (hst : MSt mo ad sl) (x : Int32) (hb : Lb S) : Ct 0 0 0 yX5_alive cX5_alive 4 (some .int) G A [.ref mo, .int x] (MPS G A mo ad sl S) (some (.int (aliveS S x))) (MPS G A mo ad sl S) := by
  refine Ct.of 2 rfl rfl (Nat.le_of_ble_eq_true rfl) ?_
  intro p l e s m below meth c hini
  refine k_openS fun nw => ?_
  refine k_open fun fi ai al h => ?_
  have hlen := h.1.2.1
  refine k_aload_n (pc := 0) dX5_alive_0 rfl ?_
  refine mg_157 hst (pc := 1) dX5_alive_1 ?_
  rw [rX h]
  cases hx : sX S with
  | true =>
    refine k_if_eq (tgt := 10) (pc := 4) dX5_alive_4 (by decide) (fun c => absurd c ((show ¬ bI true = 0 by decide))) (fun _ => ?_)
    refine k_bipush (v := -2) (pc := 7) dX5_alive_7 (by decide) ?_
    exact k_iret (pc := 9) dX5_alive_9 (by unfold aliveS; rw [if_pos hx]) (MPS.of h) (Nat.le_refl _) (Nat.le_refl _)
  | false =>
    have hx2 : ¬ sX S = true := by rw [hx]; decide
    refine k_if_eq (tgt := 10) (pc := 4) dX5_alive_4 (by decide) (fun _ => ?_) (fun c => absurd ((show bI false = 0 by decide)) c)
    refine k_iload_n (pc := 10) dX5_alive_10 rfl ?_
    refine k_if_lt (tgt := 20) (pc := 11) dX5_alive_11 (by decide) (fun h1 => ?_) (fun h1 => ?_)
    · refine k_iconst (v := -1) (pc := 20) dX5_alive_20 (by decide) ?_
      exact k_iret (pc := 21) dX5_alive_21 (by unfold aliveS; rw [if_neg hx2, if_pos (Or.inl h1)]) (MPS.of h) (Nat.le_refl _) (Nat.le_refl _)
    · refine k_iload_n (pc := 14) dX5_alive_14 rfl ?_
      refine k_bipush (v := 8) (pc := 15) dX5_alive_15 (by decide) ?_
      refine k_icmp_le (tgt := 22) (pc := 17) dX5_alive_17 (by decide) (fun h2 => ?_) (fun h2 => ?_)
      · have hin : ¬ (x < 0 ∨ (8 : Int32) < x) := fun z => z.elim h1 (fun z => absurd h2 (Int32.not_le.mpr z))
        obtain ⟨q, hq, e3⟩ := nI_of2 (x := x) (M := 8) (n := 8) rfl h1 h2
        have ha : aliveS S x = nI (cntS S (fun e => e.2.1 && e.2.2.2 / 4 == q)) := by unfold aliveS; rw [if_neg hx2, if_neg hin, e3, nI_clamp (by omega)]
        rw [ha]
        have loop : ∀ j i : Nat, i + j = (sL S).length → K p l e s m ([.ref mo, .int x] : List Value).toArray below meth c (rmm 0 0 0) yX5_alive.cls cX5_alive 4 (some .int) G A (MQ below (Qd (some (.int (aliveS S x))) (MPS G A mo ad sl S) A) ([.ref mo, .int x] : List Value).toArray s 0 0 A) 0 0 (MH G A mo ad sl fi ai al) 26 [some (.ref mo), some (.int x), some (.int (nI (((sL S).take i).filter (fun e => e.2.1 && e.2.2.2 / 4 == q)).length)), some (.int (nI i))] [] := by
          rw [ha]
          intro j
          induction j with
          | zero =>
            intro i hi
            have hi6 : i = (sL S).length := by omega
            subst hi6
            refine k_iload_n (pc := 26) dX5_alive_26 rfl ?_
            refine k_aload_n (pc := 27) dX5_alive_27 rfl ?_
            refine mg_96 hst (pc := 28) dX5_alive_28 ?_
            rw [h.1.1]
            refine k_icmp_ge (tgt := 67) (pc := 31) dX5_alive_31 (by decide) (fun _ => ?_) (fun c => absurd (nI_le (Nat.le_refl _) (by omega)) c)
            rw [List.take_length]
            refine k_iload_n (pc := 67) dX5_alive_67 rfl ?_
            exact k_iret (pc := 68) dX5_alive_68 rfl (MPS.of h) (Nat.le_refl _) (Nat.le_refl _)
          | succ j ih =>
            intro i hi
            obtain ⟨e0, he0⟩ : ∃ e0, (sL S)[i]? = some e0 := ⟨(sL S)[i], List.getElem?_eq_getElem (by omega)⟩
            obtain ⟨-, -, -, -, c4, -, c6⟩ := ent_k (h.1.2.2 i e0 he0)
            have hp40 := (hb e0 (List.mem_of_getElem? he0)).1
            have step := ih (i + 1) (by omega)
            rw [← cnt_next _ he0] at step
            refine k_iload_n (pc := 26) dX5_alive_26 rfl ?_
            refine k_aload_n (pc := 27) dX5_alive_27 rfl ?_
            refine mg_96 hst (pc := 28) dX5_alive_28 ?_
            rw [h.1.1]
            refine k_icmp_ge (tgt := 67) (pc := 31) dX5_alive_31 (by decide) (fun c => absurd c (nI_ge (by omega) (by omega))) (fun _ => ?_)
            refine k_iload_n (pc := 34) dX5_alive_34 rfl ?_
            refine k_aload_n (pc := 35) dX5_alive_35 rfl ?_
            refine mg_23 hst (pc := 36) dX5_alive_36 ?_
            refine k_iload_n (pc := 39) dX5_alive_39 rfl ?_
            refine m_zald hst rfl (pc := 40) dX5_alive_40 rfl (by simp only [mln]; omega) (by decide) ?_
            rw [c4]
            cases hal : e0.2.1 with
            | false =>
              simp only [hal, Bool.false_and] at step
              refine k_if_eq (tgt := 58) (pc := 41) dX5_alive_41 (by decide) (fun _ => ?_) (fun c => absurd ((show bI false = 0 by decide)) c)
              refine k_iconst (v := 0) (pc := 58) dX5_alive_58 (by decide) ?_
              refine k_iadd (pc := 59) dX5_alive_59 ?_
              refine k_istore_n (pc := 60) dX5_alive_60 (by decide) rfl ?_
              refine k_iinc (pc := 61) dX5_alive_61 rfl (nI_inc _) (by decide) rfl ?_
              refine k_goto (tgt := 26) (pc := 64) dX5_alive_64 (by decide) ?_
              exact step
            | true =>
              simp only [hal, Bool.true_and] at step
              refine k_if_eq (tgt := 58) (pc := 41) dX5_alive_41 (by decide) (fun c => absurd c ((show ¬ bI true = 0 by decide))) (fun _ => ?_)
              refine k_aload_n (pc := 44) dX5_alive_44 rfl ?_
              refine mg_30 hst (pc := 45) dX5_alive_45 ?_
              refine k_iload_n (pc := 48) dX5_alive_48 rfl ?_
              refine m_iald hst rfl (pc := 49) dX5_alive_49 rfl (by simp only [mln]; omega) (by decide) ?_
              refine k_iload_n (pc := 50) dX5_alive_50 rfl ?_
              rw [c6]
              by_cases hpq : e0.2.2.2 / 4 = q
              · rw [show (e0.2.2.2 / 4 == q) = true by simp [hpq]] at step
                refine k_icmp_ne (tgt := 58) (pc := 51) dX5_alive_51 (by decide) (fun c => absurd (by rw [hpq, e3]) c) (fun _ => ?_)
                refine k_iconst (v := 1) (pc := 54) dX5_alive_54 (by decide) ?_
                refine k_goto (tgt := 59) (pc := 55) dX5_alive_55 (by decide) ?_
                refine k_iadd (pc := 59) dX5_alive_59 ?_
                refine k_istore_n (pc := 60) dX5_alive_60 (by decide) rfl ?_
                refine k_iinc (pc := 61) dX5_alive_61 rfl (nI_inc _) (by decide) rfl ?_
                refine k_goto (tgt := 26) (pc := 64) dX5_alive_64 (by decide) ?_
                exact step
              · rw [show (e0.2.2.2 / 4 == q) = false by simp [hpq]] at step
                refine k_icmp_ne (tgt := 58) (pc := 51) dX5_alive_51 (by decide) (fun _ => ?_) (fun c => absurd ((nI_eq (by omega) (by omega)).mp (c.trans e3)) hpq)
                refine k_iconst (v := 0) (pc := 58) dX5_alive_58 (by decide) ?_
                refine k_iadd (pc := 59) dX5_alive_59 ?_
                refine k_istore_n (pc := 60) dX5_alive_60 (by decide) rfl ?_
                refine k_iinc (pc := 61) dX5_alive_61 rfl (nI_inc _) (by decide) rfl ?_
                refine k_goto (tgt := 26) (pc := 64) dX5_alive_64 (by decide) ?_
                exact step
        have l0 := loop (sL S).length 0 (by omega)
        rw [ha] at l0
        refine k_iconst (v := 0) (pc := 22) dX5_alive_22 (by decide) ?_
        refine k_istore_n (pc := 23) dX5_alive_23 (by decide) rfl ?_
        refine k_iconst (v := 0) (pc := 24) dX5_alive_24 (by decide) ?_
        refine k_istore_n (pc := 25) dX5_alive_25 (by decide) rfl ?_
        exact l0
      · refine k_iconst (v := -1) (pc := 20) dX5_alive_20 (by decide) ?_
        exact k_iret (pc := 21) dX5_alive_21 (by unfold aliveS; rw [if_neg hx2, if_pos (Or.inr (Int32.not_le.mp h2))]) (MPS.of h) (Nat.le_refl _) (Nat.le_refl _)
end REFO
end
section
theorem i_cases {x : Int32} (h : ¬ (¬ x < 0 ∧ ¬ (12 : Int32) ≤ x)) (h12 : ¬ x = 12) (h13 : ¬ x = 13) (h14 : ¬ x = 14) (h15 : ¬ x = 15) (h16 : ¬ x = 16) (h17 : ¬ x = 17) : x.toInt < 12 ∨ 17 < x.toInt := by
  by_cases h0 : x < 0
  · left
    have := Int32.lt_iff_toInt_lt.mp h0
    have e : (0 : Int32).toInt = 0 := rfl
    omega
  · obtain ⟨j, hj, rfl⟩ := nI_of h0
    rw [nI_toInt hj]
    have g : ∀ q : Nat, q < 2 ^ 31 → ¬ nI j = nI q → j ≠ q := fun q _ h e => h (by rw [e])
    have g12 := g 12 (by decide) h12
    have g13 := g 13 (by decide) h13
    have g14 := g 14 (by decide) h14
    have g15 := g 15 (by decide) h15
    have g16 := g 16 (by decide) h16
    have g17 := g 17 (by decide) h17
    have hge : ¬ j < 12 := fun hl => h ⟨h0, nI_ge (a := j) (b := 12) hl (by decide)⟩
    omega
def WcI (ai ai' : Nat → Nat → Int32) (i : Nat) : Prop := (∀ s, s < i → ai' 16 s = 0) ∧ (∀ j, j < 8 → j < i → ai' 8 j = 0) ∧ (∀ q, q ≠ 16 → q ≠ 8 → ai' q = ai q)
theorem wc_step {ai ai' : Nat → Nat → Int32} {i : Nat} (h : WcI ai ai' i) : WcI ai (up2 (up2 ai' 16 i 0) 8 (i % 8) 0) (i + 1) := by
  obtain ⟨h1, h2, h3⟩ := h
  refine ⟨fun s hs => ?_, fun j hj hji => ?_, fun q hq1 hq2 => ?_⟩
  · by_cases hsi : s = i
    · simp [up2_at, hsi]
    · simp [up2_at, hsi, h1 s (by omega)]
  · by_cases hji2 : j = i % 8
    · simp [up2_at, hji2]
    · simp [up2_at, hji2, h2 j hj (by omega)]
  · rw [← h3 q hq1 hq2]
    funext b
    simp [up2_at, hq1, hq2]
theorem rep_crash {S : SS} {nw : List Ne} {fi : Nat → Int32} {ai ai' : Nat → Nat → Int32} {al : Nat → Nat → Int64} (h : Rep S nw fi ai al) (hc : WcI ai ai' 64) : Rep (crashS S) nw (va_up (va_up (va_up (va_up fi 7 0) 9 0) 10 0) 25 1) ai' al := by
  obtain ⟨⟨l1, l2, l3⟩, ⟨n1, n2, n3⟩, hP, r1, r2, r3, r4, r5, r6⟩ := h
  obtain ⟨h1, h2, h3⟩ := hc
  refine ⟨⟨rfl, Nat.zero_le _, fun k e he => absurd (show ([] : List En)[k]? = some e from he) (by simp)⟩, ⟨n1, n2, ?_⟩, fun s hs => ⟨h1 s hs, Nat.zero_le _, fun k e he => absurd (show ([] : List Pe)[k]? = some e from he) (by simp)⟩, rfl, rfl, fun j hj => h2 j hj (by omega), ?_, rfl, r6⟩
  · intro k e he
    have := n3 k e he
    simpa [nent, h3 18 (by decide) (by decide), h3 19 (by decide) (by decide), h3 20 (by decide) (by decide), h3 21 (by decide) (by decide), h3 22 (by decide) (by decide)] using this
  · intro j hj
    rw [h3 24 (by decide) (by decide)]
    exact r4 j hj
section REFP
variable {p : Program} {l : Launch} {e : Env} {s : State} {m : MethodId} {args : Array Value} {below : List Frame} {meth : Method} {c : Code} {R : Room} {G : Gd} {A : Nat → Prop} {Q : State → Prop} {k n : Nat} {mo : Nat} {ad sl : Nat → Nat} {S : SS} {nw : List Ne} {I0 : Heap → Prop}
set_option maxRecDepth 4000 in
theorem c_count (hst : MSt mo ad sl) (x : Int32) (hH : sH S < 8) : Ct 1 0 0 yX5_count cX5_count 2 (some .int) G A [.ref mo, .int x] (MPS G A mo ad sl S) (some (.int (countS S x))) (MPS G A mo ad sl S) := by
  refine Ct.of 0 rfl rfl (Nat.le_of_ble_eq_true rfl) ?_
  intro p l e s m below meth c hini
  refine k_openS fun nw => ?_
  refine k_open fun fi ai al h => ?_
  have r1 := h.2.2.2.1
  have r2 : fi 10 = nI (sO S) := h.2.2.2.2.1
  have r3 := h.2.2.2.2.2.1 (sH S) hH
  by_cases hin : ¬ x < 0 ∧ ¬ (12 : Int32) ≤ x
  · obtain ⟨j, hj, e3⟩ := nI_of hin.1
    have hj12 : j < 12 := by
      rcases Nat.lt_or_ge j 12 with q | q
      · exact q
      · exact absurd (e3 ▸ nI_le (a := 12) q hj) hin.2
    have hc : countS S x = sC S j := by unfold countS; rw [if_pos hin, e3, nI_clamp hj]
    rw [hc]
    refine k_iload_n (pc := 0) dX5_count_0 rfl ?_
    refine k_if_lt (tgt := 17) (pc := 1) dX5_count_1 (by decide) (fun c => absurd c (hin.1)) (fun _ => ?_)
    refine k_iload_n (pc := 4) dX5_count_4 rfl ?_
    refine k_bipush (v := 12) (pc := 5) dX5_count_5 (by decide) ?_
    refine k_icmp_ge (tgt := 17) (pc := 7) dX5_count_7 (by decide) (fun c => absurd c (hin.2)) (fun _ => ?_)
    refine k_aload_n (pc := 10) dX5_count_10 rfl ?_
    refine mg_72 hst (pc := 11) dX5_count_11 ?_
    refine k_iload_n (pc := 14) dX5_count_14 rfl ?_
    refine m_iald hst rfl (pc := 15) dX5_count_15 e3 (by simpa [mln] using hj12) (by decide) ?_
    exact k_iret (pc := 16) dX5_count_16 (h.2.2.2.2.2.2.1 j hj12) (MPS.of h) (Nat.le_refl _) (Nat.le_refl _)
  · have sw : K p l e s m ([.ref mo, .int x] : List Value).toArray below meth c (rmm 1 0 0) yX5_count.cls cX5_count 2 (some .int) G A (MQ below (Qd (some (.int (countS S x))) (MPS G A mo ad sl S) A) ([.ref mo, .int x] : List Value).toArray s 0 0 A) 0 0 (MH G A mo ad sl fi ai al) 17 [some (.ref mo), some (.int x)] [] := by
      unfold countS
      rw [if_neg hin]
      by_cases h12 : x = 12
      · subst h12
        rw [if_pos rfl]
        refine k_iload_n (pc := 17) dX5_count_17 rfl ?_
        refine k_tableIn (tgt := 56) (pc := 18) dX5_count_18 (by decide) (by decide) rfl (by decide) ?_
        refine k_close h ?_
        refine k_aload_n (pc := 56) dX5_count_56 rfl ?_
        refine k_callM sv_X5_174 hst (c_aliveInLog hst) (pc := 57) dX5_count_57 rfl rfl (Nat.le_of_ble_eq_true rfl) (by decide) (by decide) (Nat.le_refl _) (Nat.le_refl _) ?_
        exact k_iret (pc := 60) dX5_count_60 rfl (fun _ h => ⟨_, h⟩) (Nat.le_refl _) (Nat.le_refl _)
      rw [if_neg h12]
      by_cases h13 : x = 13
      · subst h13
        rw [if_pos rfl]
        refine k_iload_n (pc := 17) dX5_count_17 rfl ?_
        refine k_tableIn (tgt := 61) (pc := 18) dX5_count_18 (by decide) (by decide) rfl (by decide) ?_
        refine k_close h ?_
        refine k_aload_n (pc := 61) dX5_count_61 rfl ?_
        refine k_callM sv_X5_177 hst (c_inPages hst) (pc := 62) dX5_count_62 rfl rfl (Nat.le_of_ble_eq_true rfl) (by decide) (by decide) (Nat.le_refl _) (Nat.le_refl _) ?_
        exact k_iret (pc := 65) dX5_count_65 rfl (fun _ h => ⟨_, h⟩) (Nat.le_refl _) (Nat.le_refl _)
      rw [if_neg h13]
      by_cases h14 : x = 14
      · subst h14
        rw [if_pos rfl]
        refine k_iload_n (pc := 17) dX5_count_17 rfl ?_
        refine k_tableIn (tgt := 66) (pc := 18) dX5_count_18 (by decide) (by decide) rfl (by decide) ?_
        refine k_aload_n (pc := 66) dX5_count_66 rfl ?_
        refine mg_100 hst (pc := 67) dX5_count_67 ?_
        exact k_iret (pc := 70) dX5_count_70 r2 (MPS.of h) (Nat.le_refl _) (Nat.le_refl _)
      rw [if_neg h14]
      by_cases h15 : x = 15
      · subst h15
        rw [if_pos rfl]
        refine k_iload_n (pc := 17) dX5_count_17 rfl ?_
        refine k_tableIn (tgt := 71) (pc := 18) dX5_count_18 (by decide) (by decide) rfl (by decide) ?_
        refine k_aload_n (pc := 71) dX5_count_71 rfl ?_
        refine mg_106 hst (pc := 72) dX5_count_72 ?_
        exact k_iret (pc := 75) dX5_count_75 r1 (MPS.of h) (Nat.le_refl _) (Nat.le_refl _)
      rw [if_neg h15]
      by_cases h16 : x = 16
      · subst h16
        rw [if_pos rfl]
        refine k_iload_n (pc := 17) dX5_count_17 rfl ?_
        refine k_tableIn (tgt := 76) (pc := 18) dX5_count_18 (by decide) (by decide) rfl (by decide) ?_
        refine k_aload_n (pc := 76) dX5_count_76 rfl ?_
        refine mg_33 hst (pc := 77) dX5_count_77 ?_
        refine k_aload_n (pc := 80) dX5_count_80 rfl ?_
        refine mg_106 hst (pc := 81) dX5_count_81 ?_
        refine m_iald hst rfl (pc := 84) dX5_count_84 r1 (by simpa [mln] using hH) (by decide) ?_
        exact k_iret (pc := 85) dX5_count_85 r3 (MPS.of h) (Nat.le_refl _) (Nat.le_refl _)
      rw [if_neg h16]
      by_cases h17 : x = 17
      · subst h17
        rw [if_pos rfl]
        refine k_iload_n (pc := 17) dX5_count_17 rfl ?_
        refine k_tableIn (tgt := 86) (pc := 18) dX5_count_18 (by decide) (by decide) rfl (by decide) ?_
        refine k_aload_n (pc := 86) dX5_count_86 rfl ?_
        refine mg_157 hst (pc := 87) dX5_count_87 ?_
        rw [rX h]
        cases hx : sX S with
        | true =>
          refine k_if_eq (tgt := 97) (pc := 90) dX5_count_90 (by decide) (fun c => absurd c ((show ¬ bI true = 0 by decide))) (fun _ => ?_)
          refine k_iconst (v := 1) (pc := 93) dX5_count_93 (by decide) ?_
          refine k_goto (tgt := 98) (pc := 94) dX5_count_94 (by decide) ?_
          exact k_iret (pc := 98) dX5_count_98 rfl (MPS.of h) (Nat.le_refl _) (Nat.le_refl _)
        | false =>
          refine k_if_eq (tgt := 97) (pc := 90) dX5_count_90 (by decide) (fun _ => ?_) (fun c => absurd ((show bI false = 0 by decide)) c)
          refine k_iconst (v := 0) (pc := 97) dX5_count_97 (by decide) ?_
          exact k_iret (pc := 98) dX5_count_98 rfl (MPS.of h) (Nat.le_refl _) (Nat.le_refl _)
      rw [if_neg h17]
      refine k_iload_n (pc := 17) dX5_count_17 rfl ?_
      refine k_tableOut (tgt := 99) (pc := 18) dX5_count_18 (i_cases hin h12 h13 h14 h15 h16 h17) (by decide) ?_
      refine k_iconst (v := -1) (pc := 99) dX5_count_99 (by decide) ?_
      exact k_iret (pc := 100) dX5_count_100 rfl (MPS.of h) (Nat.le_refl _) (Nat.le_refl _)
    refine k_iload_n (pc := 0) dX5_count_0 rfl ?_
    refine k_if_lt (tgt := 17) (pc := 1) dX5_count_1 (by decide) (fun h1 => ?_) (fun h1 => ?_)
    · exact sw
    · refine k_iload_n (pc := 4) dX5_count_4 rfl ?_
      refine k_bipush (v := 12) (pc := 5) dX5_count_5 (by decide) ?_
      refine k_icmp_ge (tgt := 17) (pc := 7) dX5_count_7 (by decide) (fun h2 => ?_) (fun h2 => ?_)
      · exact sw
      · exact absurd ⟨h1, h2⟩ hin
set_option maxRecDepth 4000 in
theorem c_close (hst : MSt mo ad sl)  : Ct 0 0 0 yX5_close cX5_close 1 (some .int) G A [.ref mo] (MPS G A mo ad sl S) (some (.int (closeS S).1)) (MPS G A mo ad sl (closeS S).2) := by
  refine Ct.of 0 rfl rfl (Nat.le_of_ble_eq_true rfl) ?_
  intro p l e s m below meth c hini
  refine k_openS fun nw => ?_
  refine k_open fun fi ai al h => ?_
  refine k_aload_n (pc := 0) dX5_close_0 rfl ?_
  refine mg_157 hst (pc := 1) dX5_close_1 ?_
  rw [rX h]
  cases hx : sX S with
  | true =>
    have hp : closeS S = (-2, S) := if_pos hx
    rw [hp]
    refine k_if_eq (tgt := 10) (pc := 4) dX5_close_4 (by decide) (fun c => absurd c ((show ¬ bI true = 0 by decide))) (fun _ => ?_)
    refine k_bipush (v := -2) (pc := 7) dX5_close_7 (by decide) ?_
    exact k_iret (pc := 9) dX5_close_9 rfl (MPS.of h) (Nat.le_refl _) (Nat.le_refl _)
  | false =>
    have hp : closeS S = (1, uX S true) := if_neg (by rw [hx]; decide)
    rw [hp]
    refine k_if_eq (tgt := 10) (pc := 4) dX5_close_4 (by decide) (fun _ => ?_) (fun c => absurd ((show bI false = 0 by decide)) c)
    refine k_aload_n (pc := 10) dX5_close_10 rfl ?_
    refine k_iconst (v := 1) (pc := 11) dX5_close_11 (by decide) ?_
    refine mp_157 hst (pc := 12) dX5_close_12 rfl rfl ?_
    refine k_iconst (v := 1) (pc := 15) dX5_close_15 (by decide) ?_
    exact k_iret (pc := 16) dX5_close_16 rfl (MPS.of (rep_shut h true)) (Nat.le_refl _) (Nat.le_refl _)
set_option maxRecDepth 4000 in
theorem c_open (hst : MSt mo ad sl)  : Ct 1 0 0 yX5_open cX5_open 1 (some .int) G A [.ref mo] (MPS G A mo ad sl S) (some (.int (openS S).1)) (MPS G A mo ad sl (openS S).2) := by
  refine Ct.of 0 rfl rfl (Nat.le_of_ble_eq_true rfl) ?_
  intro p l e s m below meth c hini
  refine k_openS fun nw => ?_
  refine k_open fun fi ai al h => ?_
  refine k_aload_n (pc := 0) dX5_open_0 rfl ?_
  refine mg_157 hst (pc := 1) dX5_open_1 ?_
  rw [rX h]
  cases hx : sX S with
  | false =>
    have hp : openS S = (-1, S) := if_neg (by rw [hx]; decide)
    rw [hp]
    refine k_if_ne (tgt := 9) (pc := 4) dX5_open_4 (by decide) (fun c => absurd ((show bI false = 0 by decide)) c) (fun _ => ?_)
    refine k_iconst (v := -1) (pc := 7) dX5_open_7 (by decide) ?_
    exact k_iret (pc := 8) dX5_open_8 rfl (MPS.of h) (Nat.le_refl _) (Nat.le_refl _)
  | true =>
    have hp : openS S = (livS S, uX S false) := if_pos hx
    rw [hp]
    refine k_if_ne (tgt := 9) (pc := 4) dX5_open_4 (by decide) (fun _ => ?_) (fun c => absurd c ((show ¬ bI true = 0 by decide)))
    refine k_aload_n (pc := 9) dX5_open_9 rfl ?_
    refine k_iconst (v := 0) (pc := 10) dX5_open_10 (by decide) ?_
    refine mp_157 hst (pc := 11) dX5_open_11 rfl rfl ?_
    refine k_close (rep_shut h false) ?_
    refine k_aload_n (pc := 14) dX5_open_14 rfl ?_
    refine k_callM sv_X5_174 hst (c_aliveInLog hst) (pc := 15) dX5_open_15 rfl rfl (Nat.le_of_ble_eq_true rfl) (by decide) (by decide) (Nat.le_refl _) (Nat.le_refl _) ?_
    exact k_iret (pc := 18) dX5_open_18 rfl (fun _ h => ⟨_, h⟩) (Nat.le_refl _) (Nat.le_refl _)
set_option maxRecDepth 4000 in
theorem c_crash (hst : MSt mo ad sl)  : Ct 1 0 0 yX5_crash cX5_crash 3 (some .int) G A [.ref mo] (MPS G A mo ad sl S) (some (.int (livS S))) (MPS G A mo ad sl (crashS S)) := by
  refine Ct.of 2 rfl rfl (Nat.le_of_ble_eq_true rfl) ?_
  intro p l e s m below meth c hini
  refine k_openS fun nw => ?_
  refine k_aload_n (pc := 0) dX5_crash_0 rfl ?_
  refine k_callM sv_X5_174 hst (c_aliveInLog hst) (pc := 1) dX5_crash_1 rfl rfl (Nat.le_of_ble_eq_true rfl) (by decide) (by decide) (Nat.le_refl _) (Nat.le_refl _) ?_
  refine k_istore_n (pc := 4) dX5_crash_4 (by decide) rfl ?_
  refine k_open fun fi ai al h => ?_
  have loop : ∀ j i : Nat, i + j = 64 → ∀ ai', WcI ai ai' i → K p l e s m ([.ref mo] : List Value).toArray below meth c (rmm 1 0 0) yX5_crash.cls cX5_crash 3 (some .int) G A (MQ below (Qd (some (.int (livS S))) (MPS G A mo ad sl (crashS S)) A) ([.ref mo] : List Value).toArray s 0 0 A) 0 0 (MH G A mo ad sl (va_up (va_up (va_up fi 7 0) 9 0) 10 0) ai' al) 22 [some (.ref mo), some (.int (livS S)), some (.int (nI i))] [] := by
    intro j
    induction j with
    | zero =>
      intro i hi ai' hc
      have hi6 : i = 64 := by omega
      subst hi6
      refine k_iload_n (pc := 22) dX5_crash_22 rfl ?_
      refine k_bipush (v := 64) (pc := 23) dX5_crash_23 (by decide) ?_
      refine k_icmp_ge (tgt := 51) (pc := 25) dX5_crash_25 (by decide) (fun _ => ?_) (fun c => absurd (by decide) c)
      refine k_aload_n (pc := 51) dX5_crash_51 rfl ?_
      refine k_iconst (v := 1) (pc := 52) dX5_crash_52 (by decide) ?_
      refine mp_157 hst (pc := 53) dX5_crash_53 rfl rfl ?_
      refine k_iload_n (pc := 56) dX5_crash_56 rfl ?_
      exact k_iret (pc := 57) dX5_crash_57 rfl (MPS.of (rep_crash h hc)) (Nat.le_refl _) (Nat.le_refl _)
    | succ j ih =>
      intro i hi ai' hc
      have hrem : nI i - nI i / 8 * 8 = nI (i % 8) := by
        rw [show (8 : Int32) = nI 8 from rfl, pk_rem (by omega) (by decide) (by decide)]
      refine k_iload_n (pc := 22) dX5_crash_22 rfl ?_
      refine k_bipush (v := 64) (pc := 23) dX5_crash_23 (by decide) ?_
      refine k_icmp_ge (tgt := 51) (pc := 25) dX5_crash_25 (by decide) (fun c => absurd c (nI_ge (a := i) (b := 64) (by omega) (by decide))) (fun _ => ?_)
      refine k_aload_n (pc := 28) dX5_crash_28 rfl ?_
      refine mg_51 hst (pc := 29) dX5_crash_29 ?_
      refine k_iload_n (pc := 32) dX5_crash_32 rfl ?_
      refine k_iconst (v := 0) (pc := 33) dX5_crash_33 (by decide) ?_
      refine m_iast hst rfl (pc := 34) dX5_crash_34 rfl (by simp only [mln]; omega) (by decide) ?_
      refine k_aload_n (pc := 35) dX5_crash_35 rfl ?_
      refine mg_33 hst (pc := 36) dX5_crash_36 ?_
      refine k_iload_n (pc := 39) dX5_crash_39 rfl ?_
      refine k_bipush (v := 8) (pc := 40) dX5_crash_40 (by decide) ?_
      refine k_irem (pc := 42) dX5_crash_42 (by decide) ?_
      refine k_iconst (v := 0) (pc := 43) dX5_crash_43 (by decide) ?_
      refine m_iast hst rfl (pc := 44) dX5_crash_44 hrem (by simp only [mln]; omega) (by decide) ?_
      refine k_iinc (pc := 45) dX5_crash_45 rfl (nI_inc _) (by decide) rfl ?_
      refine k_goto (tgt := 22) (pc := 48) dX5_crash_48 (by decide) ?_
      exact ih (i + 1) (by omega) _ (wc_step hc)
  refine k_aload_n (pc := 5) dX5_crash_5 rfl ?_
  refine k_iconst (v := 0) (pc := 6) dX5_crash_6 (by decide) ?_
  refine mp_96 hst (pc := 7) dX5_crash_7 rfl rfl ?_
  refine k_aload_n (pc := 10) dX5_crash_10 rfl ?_
  refine k_iconst (v := 0) (pc := 11) dX5_crash_11 (by decide) ?_
  refine mp_106 hst (pc := 12) dX5_crash_12 rfl rfl ?_
  refine k_aload_n (pc := 15) dX5_crash_15 rfl ?_
  refine k_iconst (v := 0) (pc := 16) dX5_crash_16 (by decide) ?_
  refine mp_100 hst (pc := 17) dX5_crash_17 rfl rfl ?_
  refine k_iconst (v := 0) (pc := 20) dX5_crash_20 (by decide) ?_
  refine k_istore_n (pc := 21) dX5_crash_21 (by decide) rfl ?_
  exact loop 64 0 (by omega) ai ⟨fun s hs => absurd hs (by omega), fun j _ hj => absurd hj (by omega), fun _ _ _ => rfl⟩
end REFP
end
section
section REFQ
variable {p : Program} {l : Launch} {e : Env} {s : State} {m : MethodId} {args : Array Value} {below : List Frame} {meth : Method} {c : Code} {R : Room} {G : Gd} {A : Nat → Prop} {Q : State → Prop} {k n : Nat} {mo : Nat} {ad sl : Nat → Nat} {S : SS} {nw : List Ne} {I0 : Heap → Prop}
theorem or00 : (0 : Int32) ||| 0 = 0 := by decide
theorem plP_take {P : List Pe} {i : Nat} {e : Pe} (he : P[i]? = some e) : ((P.take (i + 1)).map (fun e => plc e.1)).sum = ((P.take i).map (fun e => plc e.1)).sum + plc e.1 := by
  rw [List.take_add_one, he]
  simp
set_option maxRecDepth 4000 in
theorem c_check (hst : MSt mo ad sl) (hck : sX S = false → CkS S) : Ct 3 0 0 yX5_check cX5_check 7 (some .int) G A [.ref mo] (MPS G A mo ad sl S) (some (.int (if sX S = true then -2 else 0))) (MPS G A mo ad sl S) := by
  refine Ct.of 6 rfl rfl (Nat.le_of_ble_eq_true rfl) ?_
  intro p l e s m below meth c hini
  refine k_openS fun nw => ?_
  refine k_open fun fi ai al h => ?_
  have hlen := h.1.2.1
  refine k_aload_n (pc := 0) dX5_check_0 rfl ?_
  refine mg_157 hst (pc := 1) dX5_check_1 ?_
  rw [rX h]
  cases hx : sX S with
  | true =>
    refine k_if_eq (tgt := 10) (pc := 4) dX5_check_4 (by decide) (fun c => absurd c ((show ¬ bI true = 0 by decide))) (fun _ => ?_)
    refine k_bipush (v := -2) (pc := 7) dX5_check_7 (by decide) ?_
    exact k_iret (pc := 9) dX5_check_9 rfl (MPS.of h) (Nat.le_refl _) (Nat.le_refl _)
  | false =>
    obtain ⟨k1, k2, k3⟩ := hck hx
    have fin : K p l e s m ([.ref mo] : List Value).toArray below meth c (rmm 3 0 0) yX5_check.cls cX5_check 7 (some .int) G A (MQ below (Qd (some (.int (if sX S = true then -2 else 0))) (MPS G A mo ad sl S) A) ([.ref mo] : List Value).toArray s 0 0 A) 0 0 (MPN G A mo ad sl S nw) 179 [some (.ref mo), some (.int 0), some (.int 0), some (.int 0), none, none, none] [] := by
      rw [hx]
      refine k_iload_n (pc := 179) dX5_check_179 rfl ?_
      refine k_iload_n (pc := 180) dX5_check_180 rfl ?_
      refine k_iadd (pc := 181) dX5_check_181 ?_
      refine k_iload_n (pc := 182) dX5_check_182 rfl ?_
      refine k_iadd (pc := 183) dX5_check_183 ?_
      exact k_iret (pc := 184) dX5_check_184 rfl (fun _ h => ⟨_, h⟩) (Nat.le_refl _) (Nat.le_refl _)
    have outer : ∀ j s0 : Nat, s0 + j = 64 → K p l e s m ([.ref mo] : List Value).toArray below meth c (rmm 3 0 0) yX5_check.cls cX5_check 7 (some .int) G A (MQ below (Qd (some (.int (if sX S = true then -2 else 0))) (MPS G A mo ad sl S) A) ([.ref mo] : List Value).toArray s 0 0 A) 0 0 (MPN G A mo ad sl S nw) 71 [some (.ref mo), some (.int 0), some (.int 0), some (.int 0), some (.int (nI s0)), none, none] [] := by
      intro j
      induction j with
      | zero =>
        intro s0 hs
        have hs6 : s0 = 64 := by omega
        subst hs6
        refine k_iload (pc := 71) dX5_check_71 rfl ?_
        refine k_bipush (v := 64) (pc := 73) dX5_check_73 (by decide) ?_
        refine k_icmp_ge (tgt := 179) (pc := 75) dX5_check_75 (by decide) (fun _ => ?_) (fun c => absurd (by decide) c)
        exact k_lv (fun i v h => by match i, h with | 0, h => exact h | 1, h => exact h | 2, h => exact h | 3, h => exact h | 4, h => cases h | 5, h => cases h | 6, h => cases h | i + 7, h => cases h) fin
      | succ j ih =>
        intro s0 hs
        have step := ih (s0 + 1) (by omega)
        have inner : ∀ j2 i : Nat, i + j2 = (sP S s0).length → K p l e s m ([.ref mo] : List Value).toArray below meth c (rmm 3 0 0) yX5_check.cls cX5_check 7 (some .int) G A (MQ below (Qd (some (.int (if sX S = true then -2 else 0))) (MPS G A mo ad sl S) A) ([.ref mo] : List Value).toArray s 0 0 A) 0 0 (MPN G A mo ad sl S nw) 84 [some (.ref mo), some (.int 0), some (.int 0), some (.int 0), some (.int (nI s0)), some (.int (nI (((sP S s0).take i).map (fun e => plc e.1)).sum)), some (.int (nI i))] [] := by
          intro j2
          induction j2 with
          | zero =>
            intro i hi
            have hi6 : i = (sP S s0).length := by omega
            subst hi6
            refine k_open fun fi2 ai2 al2 h2 => ?_
            obtain ⟨g1, g2, g3⟩ := h2.2.2.1 s0 (by omega)
            refine k_iload (pc := 84) dX5_check_84 rfl ?_
            refine k_aload_n (pc := 86) dX5_check_86 rfl ?_
            refine mg_51 hst (pc := 87) dX5_check_87 ?_
            refine k_iload (pc := 90) dX5_check_90 rfl ?_
            refine m_iald hst rfl (pc := 92) dX5_check_92 rfl (by simp only [mln]; omega) (by decide) ?_
            rw [g1]
            refine k_icmp_ge (tgt := 158) (pc := 93) dX5_check_93 (by decide) (fun _ => ?_) (fun c => absurd (nI_le (Nat.le_refl _) (by omega)) c)
            rw [List.take_length]
            refine k_close h2 ?_
            refine k_iload_n (pc := 158) dX5_check_158 rfl ?_
            refine k_iload (pc := 159) dX5_check_159 rfl ?_
            refine k_bipush (v := 32) (pc := 161) dX5_check_161 (by decide) ?_
            refine k_icmp_le (tgt := 170) (pc := 163) dX5_check_163 (by decide) (fun _ => ?_) (fun c => absurd (nI_le (b := 32) (k2 s0 (by omega)) (by decide)) c)
            refine k_iconst (v := 0) (pc := 170) dX5_check_170 (by decide) ?_
            refine k_ior (pc := 171) dX5_check_171 ?_
            refine k_istore_n (pc := 172) dX5_check_172 (by decide) rfl ?_
            refine k_iinc (pc := 173) dX5_check_173 rfl (nI_inc _) (by decide) rfl ?_
            refine k_goto (tgt := 71) (pc := 176) dX5_check_176 (by decide) ?_
            rw [or00]
            exact k_lv (fun i v h => by match i, h with | 0, h => exact h | 1, h => exact h | 2, h => exact h | 3, h => exact h | 4, h => exact h | 5, h => cases h | 6, h => cases h | i + 7, h => cases h) step
          | succ j2 ih2 =>
            intro i hi
            obtain ⟨e0, he0⟩ : ∃ e0, (sP S s0)[i]? = some e0 := ⟨(sP S s0)[i], List.getElem?_eq_getElem (by omega)⟩
            obtain ⟨hset, hix⟩ := k3 s0 i e0 (by omega) he0
            have step2 := ih2 (i + 1) (by omega)
            rw [plP_take he0] at step2
            refine k_open fun fi2 ai2 al2 h2 => ?_
            obtain ⟨g1, g2, g3⟩ := h2.2.2.1 s0 (by omega)
            obtain ⟨c0, c1, -⟩ := pent_k (g3 i e0 he0)
            refine k_iload (pc := 84) dX5_check_84 rfl ?_
            refine k_aload_n (pc := 86) dX5_check_86 rfl ?_
            refine mg_51 hst (pc := 87) dX5_check_87 ?_
            refine k_iload (pc := 90) dX5_check_90 rfl ?_
            refine m_iald hst rfl (pc := 92) dX5_check_92 rfl (by simp only [mln]; omega) (by decide) ?_
            rw [g1]
            refine k_icmp_ge (tgt := 158) (pc := 93) dX5_check_93 (by decide) (fun c => absurd c (nI_ge (by omega) (by omega))) (fun _ => ?_)
            refine k_iload (pc := 96) dX5_check_96 rfl ?_
            refine k_iconst (v := 3) (pc := 98) dX5_check_98 (by decide) ?_
            refine k_aload_n (pc := 99) dX5_check_99 rfl ?_
            refine mg_39 hst (pc := 100) dX5_check_100 ?_
            refine k_bipush (v := 8) (pc := 103) dX5_check_103 (by decide) ?_
            refine k_iload (pc := 105) dX5_check_105 rfl ?_
            refine k_imul (pc := 107) dX5_check_107 ?_
            refine k_iload (pc := 108) dX5_check_108 rfl ?_
            refine k_iadd (pc := 110) dX5_check_110 ?_
            refine m_iald hst rfl (pc := 111) dX5_check_111 (nI_8 s0 i) (by simp only [mln]; omega) (by decide) ?_
            refine k_iadd (pc := 112) dX5_check_112 ?_
            refine k_iadd (pc := 113) dX5_check_113 ?_
            rw [c1, show (3 : Int32) = nI 3 from rfl, nI_add, nI_add]
            refine k_istore (pc := 114) dX5_check_114 (by decide) rfl ?_
            refine k_iload_n (pc := 116) dX5_check_116 rfl ?_
            refine k_aload_n (pc := 117) dX5_check_117 rfl ?_
            refine k_aload_n (pc := 118) dX5_check_118 rfl ?_
            refine mg_36 hst (pc := 119) dX5_check_119 ?_
            refine k_bipush (v := 8) (pc := 122) dX5_check_122 (by decide) ?_
            refine k_iload (pc := 124) dX5_check_124 rfl ?_
            refine k_imul (pc := 126) dX5_check_126 ?_
            refine k_iload (pc := 127) dX5_check_127 rfl ?_
            refine k_iadd (pc := 129) dX5_check_129 ?_
            refine m_lald hst rfl (pc := 130) dX5_check_130 (nI_8 s0 i) (by simp only [mln]; omega) (by decide) ?_
            rw [c0]
            refine k_close h2 ?_
            refine k_callM sv_X5_154 hst (n_inPage hst e0.1.1) (pc := 131) dX5_check_131 rfl rfl (Nat.le_of_ble_eq_true rfl) (by decide) (by decide) (Nat.le_refl _) (Nat.le_refl _) ?_
            refine k_bipush (v := 8) (pc := 134) dX5_check_134 (by decide) ?_
            refine k_iload (pc := 136) dX5_check_136 rfl ?_
            refine k_imul (pc := 138) dX5_check_138 ?_
            refine k_iload (pc := 139) dX5_check_139 rfl ?_
            refine k_iadd (pc := 141) dX5_check_141 ?_
            rw [hset, hix, nI_8]
            refine k_icmp_eq (tgt := 149) (pc := 142) dX5_check_142 (by decide) (fun _ => ?_) (fun c => absurd rfl c)
            refine k_iconst (v := 0) (pc := 149) dX5_check_149 (by decide) ?_
            refine k_ior (pc := 150) dX5_check_150 ?_
            refine k_istore_n (pc := 151) dX5_check_151 (by decide) rfl ?_
            refine k_iinc (pc := 152) dX5_check_152 rfl (nI_inc _) (by decide) rfl ?_
            refine k_goto (tgt := 84) (pc := 155) dX5_check_155 (by decide) ?_
            rw [or00]
            exact step2
        refine k_iload (pc := 71) dX5_check_71 rfl ?_
        refine k_bipush (v := 64) (pc := 73) dX5_check_73 (by decide) ?_
        refine k_icmp_ge (tgt := 179) (pc := 75) dX5_check_75 (by decide) (fun c => absurd c (nI_ge (a := s0) (b := 64) (by omega) (by decide))) (fun _ => ?_)
        refine k_iconst (v := 0) (pc := 78) dX5_check_78 (by decide) ?_
        refine k_istore (pc := 79) dX5_check_79 (by decide) rfl ?_
        refine k_iconst (v := 0) (pc := 81) dX5_check_81 (by decide) ?_
        refine k_istore (pc := 82) dX5_check_82 (by decide) rfl ?_
        exact inner (sP S s0).length 0 (by omega)
    have loop : ∀ j i : Nat, i + j = (sL S).length → K p l e s m ([.ref mo] : List Value).toArray below meth c (rmm 3 0 0) yX5_check.cls cX5_check 7 (some .int) G A (MQ below (Qd (some (.int (if sX S = true then -2 else 0))) (MPS G A mo ad sl S) A) ([.ref mo] : List Value).toArray s 0 0 A) 0 0 (MPN G A mo ad sl S nw) 19 [some (.ref mo), some (.int 0), some (.int 0), some (.int 0), some (.int (nI i)), none, none] [] := by
      intro j
      induction j with
      | zero =>
        intro i hi
        have hi6 : i = (sL S).length := by omega
        subst hi6
        refine k_open fun fi2 ai2 al2 h2 => ?_
        refine k_iload (pc := 19) dX5_check_19 rfl ?_
        refine k_aload_n (pc := 21) dX5_check_21 rfl ?_
        refine mg_96 hst (pc := 22) dX5_check_22 ?_
        rw [h2.1.1]
        refine k_icmp_ge (tgt := 68) (pc := 25) dX5_check_25 (by decide) (fun _ => ?_) (fun c => absurd (nI_le (Nat.le_refl _) (by omega)) c)
        refine k_close h2 ?_
        refine k_iconst (v := 0) (pc := 68) dX5_check_68 (by decide) ?_
        refine k_istore (pc := 69) dX5_check_69 (by decide) rfl ?_
        exact outer 64 0 (by omega)
      | succ j ih =>
        intro i hi
        obtain ⟨e0, he0⟩ : ∃ e0, (sL S)[i]? = some e0 := ⟨(sL S)[i], List.getElem?_eq_getElem (by omega)⟩
        have step := ih (i + 1) (by omega)
        refine k_open fun fi2 ai2 al2 h2 => ?_
        obtain ⟨c0, -, -, -, c4, -⟩ := ent_k (h2.1.2.2 i e0 he0)
        refine k_iload (pc := 19) dX5_check_19 rfl ?_
        refine k_aload_n (pc := 21) dX5_check_21 rfl ?_
        refine mg_96 hst (pc := 22) dX5_check_22 ?_
        rw [h2.1.1]
        refine k_icmp_ge (tgt := 68) (pc := 25) dX5_check_25 (by decide) (fun c => absurd c (nI_ge (by omega) (by omega))) (fun _ => ?_)
        refine k_iload_n (pc := 28) dX5_check_28 rfl ?_
        refine k_aload_n (pc := 29) dX5_check_29 rfl ?_
        refine mg_23 hst (pc := 30) dX5_check_30 ?_
        refine k_iload (pc := 33) dX5_check_33 rfl ?_
        refine m_zald hst rfl (pc := 35) dX5_check_35 rfl (by simp only [mln]; omega) (by decide) ?_
        rw [c4]
        cases hal : e0.2.1 with
        | false =>
          refine k_close h2 ?_
          refine k_if_eq (tgt := 59) (pc := 36) dX5_check_36 (by decide) (fun _ => ?_) (fun c => absurd ((show bI false = 0 by decide)) c)
          refine k_iconst (v := 0) (pc := 59) dX5_check_59 (by decide) ?_
          refine k_ior (pc := 60) dX5_check_60 ?_
          refine k_istore_n (pc := 61) dX5_check_61 (by decide) rfl ?_
          refine k_iinc (pc := 62) dX5_check_62 rfl (nI_inc _) (by decide) rfl ?_
          refine k_goto (tgt := 19) (pc := 65) dX5_check_65 (by decide) ?_
          rw [or00]
          exact step
        | true =>
          refine k_if_eq (tgt := 59) (pc := 36) dX5_check_36 (by decide) (fun c => absurd c ((show ¬ bI true = 0 by decide))) (fun _ => ?_)
          refine k_aload_n (pc := 39) dX5_check_39 rfl ?_
          refine k_aload_n (pc := 40) dX5_check_40 rfl ?_
          refine mg_7 hst (pc := 41) dX5_check_41 ?_
          refine k_iload (pc := 44) dX5_check_44 rfl ?_
          refine m_lald hst rfl (pc := 46) dX5_check_46 rfl (by simp only [mln]; omega) (by decide) ?_
          rw [c0]
          refine k_close h2 ?_
          refine k_callM sv_X5_133 hst (n_inLog hst e0.1.1) (pc := 47) dX5_check_47 rfl rfl (Nat.le_of_ble_eq_true rfl) (by decide) (by decide) (Nat.le_refl _) (Nat.le_refl _) ?_
          refine k_iload (pc := 50) dX5_check_50 rfl ?_
          rw [k1 i e0 he0 hal]
          refine k_icmp_eq (tgt := 59) (pc := 52) dX5_check_52 (by decide) (fun _ => ?_) (fun c => absurd rfl c)
          refine k_iconst (v := 0) (pc := 59) dX5_check_59 (by decide) ?_
          refine k_ior (pc := 60) dX5_check_60 ?_
          refine k_istore_n (pc := 61) dX5_check_61 (by decide) rfl ?_
          refine k_iinc (pc := 62) dX5_check_62 rfl (nI_inc _) (by decide) rfl ?_
          refine k_goto (tgt := 19) (pc := 65) dX5_check_65 (by decide) ?_
          rw [or00]
          exact step
    refine k_close h ?_
    refine k_if_eq (tgt := 10) (pc := 4) dX5_check_4 (by decide) (fun _ => ?_) (fun c => absurd ((show bI false = 0 by decide)) c)
    refine k_iconst (v := 0) (pc := 10) dX5_check_10 (by decide) ?_
    refine k_istore_n (pc := 11) dX5_check_11 (by decide) rfl ?_
    refine k_iconst (v := 0) (pc := 12) dX5_check_12 (by decide) ?_
    refine k_istore_n (pc := 13) dX5_check_13 (by decide) rfl ?_
    refine k_iconst (v := 0) (pc := 14) dX5_check_14 (by decide) ?_
    refine k_istore_n (pc := 15) dX5_check_15 (by decide) rfl ?_
    refine k_iconst (v := 0) (pc := 16) dX5_check_16 (by decide) ?_
    refine k_istore (pc := 17) dX5_check_17 (by decide) rfl ?_
    have l0 := loop (sL S).length 0 (by omega)
    rw [hx] at l0
    exact l0
end REFQ
end
