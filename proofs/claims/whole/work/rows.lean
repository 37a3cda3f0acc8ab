section
/-- a private method of a class that the tables say can be made, by its rows of tables_1 -/
def lw_okq (q : MethodName × Nat) : Prop := (q.1.cls ≠ "java/lang/invoke/MethodHandle" ∧ q.1.cls ≠ "java/lang/invoke/VarHandle") ∧ Cond.instantiable q.1.cls q.2 ∈ tables_1 ∧ Cond.privateMethod q.1 ∈ tables_1 ∧ Cond.instanceMethod q.1 ∈ tables_1
theorem lw_p0 : lw_okq (⟨"TannedMen", "refusalOfMonths", "(I)I"⟩, 10) := ⟨⟨by decide +kernel, by decide +kernel⟩, List.mem_of_getElem? (i := 16) (by decide +kernel), List.mem_of_getElem? (i := 500) (by decide +kernel), List.mem_of_getElem? (i := 501) (by decide +kernel)⟩
theorem lw_p1 : lw_okq (⟨"TannedMenModel", "here", "()I"⟩, 42) := ⟨⟨by decide +kernel, by decide +kernel⟩, List.mem_of_getElem? (i := 826) (by decide +kernel), List.mem_of_getElem? (i := 974) (by decide +kernel), List.mem_of_getElem? (i := 975) (by decide +kernel)⟩
theorem lw_p2 : lw_okq (⟨"TannedMenModel", "takeClause", "()I"⟩, 42) := ⟨⟨by decide +kernel, by decide +kernel⟩, List.mem_of_getElem? (i := 826) (by decide +kernel), List.mem_of_getElem? (i := 978) (by decide +kernel), List.mem_of_getElem? (i := 979) (by decide +kernel)⟩
theorem lw_p3 : lw_okq (⟨"TannedMenModel", "fails", "(II)I"⟩, 42) := ⟨⟨by decide +kernel, by decide +kernel⟩, List.mem_of_getElem? (i := 826) (by decide +kernel), List.mem_of_getElem? (i := 982) (by decide +kernel), List.mem_of_getElem? (i := 983) (by decide +kernel)⟩
theorem lw_p4 : lw_okq (⟨"TannedMenModel", "isFull", "(I)Z"⟩, 42) := ⟨⟨by decide +kernel, by decide +kernel⟩, List.mem_of_getElem? (i := 826) (by decide +kernel), List.mem_of_getElem? (i := 986) (by decide +kernel), List.mem_of_getElem? (i := 987) (by decide +kernel)⟩
theorem lw_p5 : lw_okq (⟨"TannedMenModel", "takeBody", "(I)I"⟩, 42) := ⟨⟨by decide +kernel, by decide +kernel⟩, List.mem_of_getElem? (i := 826) (by decide +kernel), List.mem_of_getElem? (i := 990) (by decide +kernel), List.mem_of_getElem? (i := 991) (by decide +kernel)⟩
theorem lw_p6 : lw_okq (⟨"TannedMenModel", "takePits", "()I"⟩, 42) := ⟨⟨by decide +kernel, by decide +kernel⟩, List.mem_of_getElem? (i := 826) (by decide +kernel), List.mem_of_getElem? (i := 994) (by decide +kernel), List.mem_of_getElem? (i := 995) (by decide +kernel)⟩
theorem lw_p7 : lw_okq (⟨"TannedMenModel", "takeNumber", "(II)I"⟩, 42) := ⟨⟨by decide +kernel, by decide +kernel⟩, List.mem_of_getElem? (i := 826) (by decide +kernel), List.mem_of_getElem? (i := 998) (by decide +kernel), List.mem_of_getElem? (i := 999) (by decide +kernel)⟩
theorem lw_p8 : lw_okq (⟨"TannedMenModel", "takeMan", "()I"⟩, 42) := ⟨⟨by decide +kernel, by decide +kernel⟩, List.mem_of_getElem? (i := 826) (by decide +kernel), List.mem_of_getElem? (i := 1004) (by decide +kernel), List.mem_of_getElem? (i := 1005) (by decide +kernel)⟩
theorem lw_p9 : lw_okq (⟨"TannedMenModel", "takeSaying", "()I"⟩, 42) := ⟨⟨by decide +kernel, by decide +kernel⟩, List.mem_of_getElem? (i := 826) (by decide +kernel), List.mem_of_getElem? (i := 1008) (by decide +kernel), List.mem_of_getElem? (i := 1009) (by decide +kernel)⟩
theorem lw_p10 : lw_okq (⟨"TannedMenModel", "takeRead", "()V"⟩, 42) := ⟨⟨by decide +kernel, by decide +kernel⟩, List.mem_of_getElem? (i := 826) (by decide +kernel), List.mem_of_getElem? (i := 1012) (by decide +kernel), List.mem_of_getElem? (i := 1013) (by decide +kernel)⟩
theorem lw_p11 : lw_okq (⟨"TannedMenModel", "woundsAll", "()I"⟩, 42) := ⟨⟨by decide +kernel, by decide +kernel⟩, List.mem_of_getElem? (i := 826) (by decide +kernel), List.mem_of_getElem? (i := 1024) (by decide +kernel), List.mem_of_getElem? (i := 1025) (by decide +kernel)⟩
theorem lw_p12 : lw_okq (⟨"TannedMenModel", "bestMan", "()I"⟩, 42) := ⟨⟨by decide +kernel, by decide +kernel⟩, List.mem_of_getElem? (i := 826) (by decide +kernel), List.mem_of_getElem? (i := 1028) (by decide +kernel), List.mem_of_getElem? (i := 1029) (by decide +kernel)⟩
theorem lw_p13 : lw_okq (⟨"TannedMenModel", "hurtOf", "(II)I"⟩, 42) := ⟨⟨by decide +kernel, by decide +kernel⟩, List.mem_of_getElem? (i := 826) (by decide +kernel), List.mem_of_getElem? (i := 1033) (by decide +kernel), List.mem_of_getElem? (i := 1034) (by decide +kernel)⟩
theorem lw_p14 : lw_okq (⟨"TannedMenModel", "takesSkin", "(I)V"⟩, 42) := ⟨⟨by decide +kernel, by decide +kernel⟩, List.mem_of_getElem? (i := 826) (by decide +kernel), List.mem_of_getElem? (i := 1037) (by decide +kernel), List.mem_of_getElem? (i := 1038) (by decide +kernel)⟩
theorem lw_p15 : lw_okq (⟨"TannedMenModel", "hurts", "(I)I"⟩, 42) := ⟨⟨by decide +kernel, by decide +kernel⟩, List.mem_of_getElem? (i := 826) (by decide +kernel), List.mem_of_getElem? (i := 1041) (by decide +kernel), List.mem_of_getElem? (i := 1042) (by decide +kernel)⟩
def lw_privs_1 : List (MethodName × Nat) := [(⟨"TannedMen", "refusalOfMonths", "(I)I"⟩, 10), (⟨"TannedMenModel", "here", "()I"⟩, 42), (⟨"TannedMenModel", "takeClause", "()I"⟩, 42), (⟨"TannedMenModel", "fails", "(II)I"⟩, 42), (⟨"TannedMenModel", "isFull", "(I)Z"⟩, 42), (⟨"TannedMenModel", "takeBody", "(I)I"⟩, 42), (⟨"TannedMenModel", "takePits", "()I"⟩, 42), (⟨"TannedMenModel", "takeNumber", "(II)I"⟩, 42), (⟨"TannedMenModel", "takeMan", "()I"⟩, 42), (⟨"TannedMenModel", "takeSaying", "()I"⟩, 42), (⟨"TannedMenModel", "takeRead", "()V"⟩, 42), (⟨"TannedMenModel", "woundsAll", "()I"⟩, 42), (⟨"TannedMenModel", "bestMan", "()I"⟩, 42), (⟨"TannedMenModel", "hurtOf", "(II)I"⟩, 42), (⟨"TannedMenModel", "takesSkin", "(I)V"⟩, 42), (⟨"TannedMenModel", "hurts", "(I)I"⟩, 42)]
theorem lw_r1 : ∀ q ∈ lw_privs_1, lw_okq q := List.forall_mem_cons.mpr ⟨lw_p0, List.forall_mem_cons.mpr ⟨lw_p1, List.forall_mem_cons.mpr ⟨lw_p2, List.forall_mem_cons.mpr ⟨lw_p3, List.forall_mem_cons.mpr ⟨lw_p4, List.forall_mem_cons.mpr ⟨lw_p5, List.forall_mem_cons.mpr ⟨lw_p6, List.forall_mem_cons.mpr ⟨lw_p7, List.forall_mem_cons.mpr ⟨lw_p8, List.forall_mem_cons.mpr ⟨lw_p9, List.forall_mem_cons.mpr ⟨lw_p10, List.forall_mem_cons.mpr ⟨lw_p11, List.forall_mem_cons.mpr ⟨lw_p12, List.forall_mem_cons.mpr ⟨lw_p13, List.forall_mem_cons.mpr ⟨lw_p14, List.forall_mem_cons.mpr ⟨lw_p15, fun _ h => absurd h List.not_mem_nil⟩⟩⟩⟩⟩⟩⟩⟩⟩⟩⟩⟩⟩⟩⟩⟩
theorem lw_p16 : lw_okq (⟨"TannedMenModel", "chosen", "()I"⟩, 42) := ⟨⟨by decide +kernel, by decide +kernel⟩, List.mem_of_getElem? (i := 826) (by decide +kernel), List.mem_of_getElem? (i := 1045) (by decide +kernel), List.mem_of_getElem? (i := 1046) (by decide +kernel)⟩
theorem lw_p17 : lw_okq (⟨"TannedMenModel", "tender", "()I"⟩, 42) := ⟨⟨by decide +kernel, by decide +kernel⟩, List.mem_of_getElem? (i := 826) (by decide +kernel), List.mem_of_getElem? (i := 1049) (by decide +kernel), List.mem_of_getElem? (i := 1050) (by decide +kernel)⟩
theorem lw_p18 : lw_okq (⟨"TannedMenModel", "isMan", "(I)Z"⟩, 42) := ⟨⟨by decide +kernel, by decide +kernel⟩, List.mem_of_getElem? (i := 826) (by decide +kernel), List.mem_of_getElem? (i := 1058) (by decide +kernel), List.mem_of_getElem? (i := 1059) (by decide +kernel)⟩
theorem lw_p19 : lw_okq (⟨"TannedMenModel", "borneNow", "()I"⟩, 42) := ⟨⟨by decide +kernel, by decide +kernel⟩, List.mem_of_getElem? (i := 826) (by decide +kernel), List.mem_of_getElem? (i := 1063) (by decide +kernel), List.mem_of_getElem? (i := 1064) (by decide +kernel)⟩
theorem lw_p20 : lw_okq (⟨"TannedMenModel", "feltNow", "()I"⟩, 42) := ⟨⟨by decide +kernel, by decide +kernel⟩, List.mem_of_getElem? (i := 826) (by decide +kernel), List.mem_of_getElem? (i := 1067) (by decide +kernel), List.mem_of_getElem? (i := 1068) (by decide +kernel)⟩
theorem lw_p21 : lw_okq (⟨"TannedMenModel", "isSaying", "(I)Z"⟩, 42) := ⟨⟨by decide +kernel, by decide +kernel⟩, List.mem_of_getElem? (i := 826) (by decide +kernel), List.mem_of_getElem? (i := 1083) (by decide +kernel), List.mem_of_getElem? (i := 1084) (by decide +kernel)⟩
theorem lw_p22 : lw_okq (⟨"TannedMenModel", "monthsRefused", "(I)I"⟩, 42) := ⟨⟨by decide +kernel, by decide +kernel⟩, List.mem_of_getElem? (i := 826) (by decide +kernel), List.mem_of_getElem? (i := 1095) (by decide +kernel), List.mem_of_getElem? (i := 1096) (by decide +kernel)⟩
theorem lw_p23 : lw_okq (⟨"TannedMenModel", "remember", "()V"⟩, 42) := ⟨⟨by decide +kernel, by decide +kernel⟩, List.mem_of_getElem? (i := 826) (by decide +kernel), List.mem_of_getElem? (i := 1101) (by decide +kernel), List.mem_of_getElem? (i := 1102) (by decide +kernel)⟩
theorem lw_p24 : lw_okq (⟨"TannedMenModel", "passes", "()V"⟩, 42) := ⟨⟨by decide +kernel, by decide +kernel⟩, List.mem_of_getElem? (i := 826) (by decide +kernel), List.mem_of_getElem? (i := 1105) (by decide +kernel), List.mem_of_getElem? (i := 1106) (by decide +kernel)⟩
theorem lw_p25 : lw_okq (⟨"TannedMenModel", "tans", "(III)V"⟩, 42) := ⟨⟨by decide +kernel, by decide +kernel⟩, List.mem_of_getElem? (i := 826) (by decide +kernel), List.mem_of_getElem? (i := 1112) (by decide +kernel), List.mem_of_getElem? (i := 1113) (by decide +kernel)⟩
theorem lw_p26 : lw_okq (⟨"TannedMenModel", "free", "()I"⟩, 42) := ⟨⟨by decide +kernel, by decide +kernel⟩, List.mem_of_getElem? (i := 826) (by decide +kernel), List.mem_of_getElem? (i := 1123) (by decide +kernel), List.mem_of_getElem? (i := 1124) (by decide +kernel)⟩
theorem lw_p27 : lw_okq (⟨"TannedMenModel", "scrapes", "(III)V"⟩, 42) := ⟨⟨by decide +kernel, by decide +kernel⟩, List.mem_of_getElem? (i := 826) (by decide +kernel), List.mem_of_getElem? (i := 1139) (by decide +kernel), List.mem_of_getElem? (i := 1140) (by decide +kernel)⟩
theorem lw_p28 : lw_okq (⟨"TannedMenModel", "wounds", "(II)V"⟩, 42) := ⟨⟨by decide +kernel, by decide +kernel⟩, List.mem_of_getElem? (i := 826) (by decide +kernel), List.mem_of_getElem? (i := 1148) (by decide +kernel), List.mem_of_getElem? (i := 1149) (by decide +kernel)⟩
theorem lw_p29 : lw_okq (⟨"TannedMenModel", "chance", "()V"⟩, 42) := ⟨⟨by decide +kernel, by decide +kernel⟩, List.mem_of_getElem? (i := 826) (by decide +kernel), List.mem_of_getElem? (i := 1162) (by decide +kernel), List.mem_of_getElem? (i := 1163) (by decide +kernel)⟩
theorem lw_p30 : lw_okq (⟨"TannedMenModel", "draw", "(I)I"⟩, 42) := ⟨⟨by decide +kernel, by decide +kernel⟩, List.mem_of_getElem? (i := 826) (by decide +kernel), List.mem_of_getElem? (i := 1166) (by decide +kernel), List.mem_of_getElem? (i := 1167) (by decide +kernel)⟩
theorem lw_p31 : lw_okq (⟨"TannedMenModel", "areSayings", "(I)Z"⟩, 42) := ⟨⟨by decide +kernel, by decide +kernel⟩, List.mem_of_getElem? (i := 826) (by decide +kernel), List.mem_of_getElem? (i := 1191) (by decide +kernel), List.mem_of_getElem? (i := 1192) (by decide +kernel)⟩
def lw_privs_2 : List (MethodName × Nat) := [(⟨"TannedMenModel", "chosen", "()I"⟩, 42), (⟨"TannedMenModel", "tender", "()I"⟩, 42), (⟨"TannedMenModel", "isMan", "(I)Z"⟩, 42), (⟨"TannedMenModel", "borneNow", "()I"⟩, 42), (⟨"TannedMenModel", "feltNow", "()I"⟩, 42), (⟨"TannedMenModel", "isSaying", "(I)Z"⟩, 42), (⟨"TannedMenModel", "monthsRefused", "(I)I"⟩, 42), (⟨"TannedMenModel", "remember", "()V"⟩, 42), (⟨"TannedMenModel", "passes", "()V"⟩, 42), (⟨"TannedMenModel", "tans", "(III)V"⟩, 42), (⟨"TannedMenModel", "free", "()I"⟩, 42), (⟨"TannedMenModel", "scrapes", "(III)V"⟩, 42), (⟨"TannedMenModel", "wounds", "(II)V"⟩, 42), (⟨"TannedMenModel", "chance", "()V"⟩, 42), (⟨"TannedMenModel", "draw", "(I)I"⟩, 42), (⟨"TannedMenModel", "areSayings", "(I)Z"⟩, 42)]
theorem lw_r2 : ∀ q ∈ lw_privs_2, lw_okq q := List.forall_mem_cons.mpr ⟨lw_p16, List.forall_mem_cons.mpr ⟨lw_p17, List.forall_mem_cons.mpr ⟨lw_p18, List.forall_mem_cons.mpr ⟨lw_p19, List.forall_mem_cons.mpr ⟨lw_p20, List.forall_mem_cons.mpr ⟨lw_p21, List.forall_mem_cons.mpr ⟨lw_p22, List.forall_mem_cons.mpr ⟨lw_p23, List.forall_mem_cons.mpr ⟨lw_p24, List.forall_mem_cons.mpr ⟨lw_p25, List.forall_mem_cons.mpr ⟨lw_p26, List.forall_mem_cons.mpr ⟨lw_p27, List.forall_mem_cons.mpr ⟨lw_p28, List.forall_mem_cons.mpr ⟨lw_p29, List.forall_mem_cons.mpr ⟨lw_p30, List.forall_mem_cons.mpr ⟨lw_p31, fun _ h => absurd h List.not_mem_nil⟩⟩⟩⟩⟩⟩⟩⟩⟩⟩⟩⟩⟩⟩⟩⟩
theorem lw_p32 : lw_okq (⟨"TannedMenModel", "goThrough", "(II)Z"⟩, 42) := ⟨⟨by decide +kernel, by decide +kernel⟩, List.mem_of_getElem? (i := 826) (by decide +kernel), List.mem_of_getElem? (i := 1204) (by decide +kernel), List.mem_of_getElem? (i := 1205) (by decide +kernel)⟩
theorem lw_p33 : lw_okq (⟨"TannedMenModel", "laysStays", "(I)I"⟩, 42) := ⟨⟨by decide +kernel, by decide +kernel⟩, List.mem_of_getElem? (i := 826) (by decide +kernel), List.mem_of_getElem? (i := 1227) (by decide +kernel), List.mem_of_getElem? (i := 1228) (by decide +kernel)⟩
theorem lw_p34 : lw_okq (⟨"TannedMenModel", "takesFirst", "(I)V"⟩, 42) := ⟨⟨by decide +kernel, by decide +kernel⟩, List.mem_of_getElem? (i := 826) (by decide +kernel), List.mem_of_getElem? (i := 1231) (by decide +kernel), List.mem_of_getElem? (i := 1232) (by decide +kernel)⟩
def lw_privs_3 : List (MethodName × Nat) := [(⟨"TannedMenModel", "goThrough", "(II)Z"⟩, 42), (⟨"TannedMenModel", "laysStays", "(I)I"⟩, 42), (⟨"TannedMenModel", "takesFirst", "(I)V"⟩, 42)]
theorem lw_r3 : ∀ q ∈ lw_privs_3, lw_okq q := List.forall_mem_cons.mpr ⟨lw_p32, List.forall_mem_cons.mpr ⟨lw_p33, List.forall_mem_cons.mpr ⟨lw_p34, fun _ h => absurd h List.not_mem_nil⟩⟩⟩
def lw_privs : List (MethodName × Nat) := lw_privs_1 ++ (lw_privs_2 ++ (lw_privs_3))
def lw_tbl : List Cond := k2_sels lw_privs ++ tables_1
theorem lw_privs_ok : ∀ q ∈ lw_privs, lw_okq q := by
  show ∀ q ∈ lw_privs_1 ++ (lw_privs_2 ++ (lw_privs_3)), lw_okq q
  exact List.forall_mem_append.mpr ⟨lw_r1, List.forall_mem_append.mpr ⟨lw_r2, lw_r3⟩⟩
end
section
def RX0 : String := "TannedMen$Book"
def TX0 : u_T := fun k => match k with
  | 0 => ("TannedMen$Book", "man", "[I", true)
  | 1 => ("TannedMen$Book", "wounds", "[I", true)
  | _ => ("TannedMen$Book", "count", "I", false)
def tyX0 : Nat → FieldType := fun k => match k with
  | 0 => .array .int
  | 1 => .array .int
  | _ => .int
abbrev wsX00 : List Cond := u_ws RX0 TX0 3
theorem nmX0 : ∀ a, a < 3 → ∀ b, b < 3 → a ≠ b → (TX0 a).2.1 ≠ (TX0 b).2.1 := by decide +kernel
theorem tyX0_ok : ∀ k, k < 3 → parseFieldDescriptor (TX0 k).2.2.1 = some (tyX0 k) := by decide +kernel
abbrev cX0_init : ByteArray := prog_2_method_1_code
def yX0_init : MethodName := ⟨RX0, "<init>", "()V"⟩
abbrev cX0_add : ByteArray := prog_2_method_2_code
def yX0_add : MethodName := ⟨RX0, "add", "(II)I"⟩
abbrev cX0_firstWrong : ByteArray := prog_2_method_3_code
def yX0_firstWrong : MethodName := ⟨RX0, "firstWrong", "(LTannedMen$State;)I"⟩
def RX1 : String := "TannedMen$Draws"
def TX1 : u_T := fun k => match k with
  | _ => ("TannedMen$Draws", "root", "I", false)
def tyX1 : Nat → FieldType := fun k => match k with
  | _ => .int
abbrev wsX10 : List Cond := u_ws RX1 TX1 1
theorem nmX1 : ∀ a, a < 1 → ∀ b, b < 1 → a ≠ b → (TX1 a).2.1 ≠ (TX1 b).2.1 := by decide +kernel
theorem tyX1_ok : ∀ k, k < 1 → parseFieldDescriptor (TX1 k).2.2.1 = some (tyX1 k) := by decide +kernel
abbrev cX1_init : ByteArray := prog_3_method_1_code
def yX1_init : MethodName := ⟨RX1, "<init>", "()V"⟩
abbrev cX1_next : ByteArray := prog_3_method_2_code
def yX1_next : MethodName := ⟨RX1, "next", "(I)I"⟩
def RX2 : String := "TannedMen$Ears"
def TX2 : u_T := fun k => match k with
  | 0 => ("TannedMen$Ears", "man", "[I", true)
  | 1 => ("TannedMen$Ears", "saying", "[I", true)
  | 2 => ("TannedMen$Ears", "pain", "[I", true)
  | 3 => ("TannedMen$Ears", "count", "I", false)
  | 4 => ("TannedMen$Ears", "stayCount", "I", false)
  | 5 => ("TannedMen$Ears", "lastPain", "[I", true)
  | 6 => ("TannedMen$Ears", "lastPart", "[I", true)
  | _ => ("TannedMen$Ears", "greatestPart", "[I", true)
def tyX2 : Nat → FieldType := fun k => match k with
  | 0 => .array .int
  | 1 => .array .int
  | 2 => .array .int
  | 3 => .int
  | 4 => .int
  | 5 => .array .int
  | 6 => .array .int
  | _ => .array .int
abbrev wsX20 : List Cond := u_ws RX2 TX2 8
theorem nmX2 : ∀ a, a < 8 → ∀ b, b < 8 → a ≠ b → (TX2 a).2.1 ≠ (TX2 b).2.1 := by decide +kernel
theorem tyX2_ok : ∀ k, k < 8 → parseFieldDescriptor (TX2 k).2.2.1 = some (tyX2 k) := by decide +kernel
abbrev cX2_init : ByteArray := prog_4_method_1_code
def yX2_init : MethodName := ⟨RX2, "<init>", "()V"⟩
abbrev cX2_add : ByteArray := prog_4_method_2_code
def yX2_add : MethodName := ⟨RX2, "add", "(III)I"⟩
abbrev cX2_agree : ByteArray := prog_4_method_3_code
def yX2_agree : MethodName := ⟨RX2, "agree", "(LTannedMen$Plan;LTannedMen$Man;I)Z"⟩
abbrev cX2_clearParts : ByteArray := prog_4_method_4_code
def yX2_clearParts : MethodName := ⟨RX2, "clearParts", "()V"⟩
abbrev cX2_part : ByteArray := prog_4_method_5_code
def yX2_part : MethodName := ⟨RX2, "part", "(LTannedMen$Plan;LTannedMen$Man;)V"⟩
abbrev cX2_bestParting : ByteArray := prog_4_method_6_code
def yX2_bestParting : MethodName := ⟨RX2, "bestParting", "(I)I"⟩
def RX3 : String := "TannedMen$Man"
def TX3 : u_T := fun k => match k with
  | 0 => ("TannedMen$Man", "kind", "I", false)
  | 1 => ("TannedMen$Man", "inside", "I", false)
  | 2 => ("TannedMen$Man", "wounds", "I", false)
  | 3 => ("TannedMen$Man", "soft", "[I", true)
  | _ => ("TannedMen$Man", "thick", "[I", true)
def tyX3 : Nat → FieldType := fun k => match k with
  | 0 => .int
  | 1 => .int
  | 2 => .int
  | 3 => .array .int
  | _ => .array .int
abbrev wsX30 : List Cond := u_ws RX3 TX3 5
theorem nmX3 : ∀ a, a < 5 → ∀ b, b < 5 → a ≠ b → (TX3 a).2.1 ≠ (TX3 b).2.1 := by decide +kernel
theorem tyX3_ok : ∀ k, k < 5 → parseFieldDescriptor (TX3 k).2.2.1 = some (tyX3 k) := by decide +kernel
abbrev cX3_init : ByteArray := prog_5_method_1_code
def yX3_init : MethodName := ⟨RX3, "<init>", "()V"⟩
abbrev cX3_begin : ByteArray := prog_5_method_2_code
def yX3_begin : MethodName := ⟨RX3, "begin", "(LTannedMen$Plan;I)V"⟩
abbrev cX3_copySkin : ByteArray := prog_5_method_3_code
def yX3_copySkin : MethodName := ⟨RX3, "copySkin", "(LTannedMen$Man;)V"⟩
abbrev cX3_tan : ByteArray := prog_5_method_4_code
def yX3_tan : MethodName := ⟨RX3, "tan", "(II)V"⟩
abbrev cX3_thickenAll : ByteArray := prog_5_method_5_code
def yX3_thickenAll : MethodName := ⟨RX3, "thickenAll", "(II)V"⟩
abbrev cX3_thicken : ByteArray := prog_5_method_6_code
def yX3_thicken : MethodName := ⟨RX3, "thicken", "(II)V"⟩
abbrev cX3_thinnestPlace : ByteArray := prog_5_method_7_code
def yX3_thinnestPlace : MethodName := ⟨RX3, "thinnestPlace", "()I"⟩
abbrev cX3_isOver : ByteArray := prog_5_method_8_code
def yX3_isOver : MethodName := ⟨RX3, "isOver", "(LTannedMen$Man;)Z"⟩
abbrev cX3_saveTo : ByteArray := prog_5_method_9_code
def yX3_saveTo : MethodName := ⟨RX3, "saveTo", "([II)V"⟩
abbrev cX3_loadFrom : ByteArray := prog_5_method_10_code
def yX3_loadFrom : MethodName := ⟨RX3, "loadFrom", "([II)V"⟩
def RX4 : String := "TannedMen$Past"
def TX4 : u_T := fun k => match k with
  | 0 => ("TannedMen$Past", "rows", "[[I", true)
  | 1 => ("TannedMen$Past", "next", "I", false)
  | 2 => ("TannedMen$Past", "count", "I", false)
  | 3 => ("TannedMen$Past", "imageRows", "[[I", true)
  | 4 => ("TannedMen$Past", "imageRoots", "[I", true)
  | _ => ("TannedMen$Past", "images", "I", false)
def tyX4 : Nat → FieldType := fun k => match k with
  | 0 => .array (.array .int)
  | 1 => .int
  | 2 => .int
  | 3 => .array (.array .int)
  | 4 => .array .int
  | _ => .int
abbrev wsX40 : List Cond := u_ws RX4 TX4 6
theorem nmX4 : ∀ a, a < 6 → ∀ b, b < 6 → a ≠ b → (TX4 a).2.1 ≠ (TX4 b).2.1 := by decide +kernel
theorem tyX4_ok : ∀ k, k < 6 → parseFieldDescriptor (TX4 k).2.2.1 = some (tyX4 k) := by decide +kernel
abbrev cX4_init : ByteArray := prog_6_method_1_code
def yX4_init : MethodName := ⟨RX4, "<init>", "()V"⟩
abbrev cX4_push : ByteArray := prog_6_method_2_code
def yX4_push : MethodName := ⟨RX4, "push", "(LTannedMen$State;)V"⟩
abbrev cX4_pop : ByteArray := prog_6_method_3_code
def yX4_pop : MethodName := ⟨RX4, "pop", "(LTannedMen$State;)V"⟩
abbrev cX4_hasImage : ByteArray := prog_6_method_4_code
def yX4_hasImage : MethodName := ⟨RX4, "hasImage", "(I)Z"⟩
abbrev cX4_keepImage : ByteArray := prog_6_method_5_code
def yX4_keepImage : MethodName := ⟨RX4, "keepImage", "(ILTannedMen$State;LTannedMen$Draws;)V"⟩
abbrev cX4_loadImage : ByteArray := prog_6_method_6_code
def yX4_loadImage : MethodName := ⟨RX4, "loadImage", "(ILTannedMen$State;LTannedMen$Draws;)V"⟩
def RX5 : String := "TannedMen$PitQueue"
def TX5 : u_T := fun k => match k with
  | 0 => ("TannedMen$PitQueue", "need", "[I", true)
  | 1 => ("TannedMen$PitQueue", "months", "[I", true)
  | _ => ("TannedMen$PitQueue", "pits", "[I", true)
def tyX5 : Nat → FieldType := fun k => match k with
  | 0 => .array .int
  | 1 => .array .int
  | _ => .array .int
abbrev wsX50 : List Cond := u_ws RX5 TX5 3
theorem nmX5 : ∀ a, a < 3 → ∀ b, b < 3 → a ≠ b → (TX5 a).2.1 ≠ (TX5 b).2.1 := by decide +kernel
theorem tyX5_ok : ∀ k, k < 3 → parseFieldDescriptor (TX5 k).2.2.1 = some (tyX5 k) := by decide +kernel
abbrev cX5_init : ByteArray := prog_7_method_1_code
def yX5_init : MethodName := ⟨RX5, "<init>", "()V"⟩
abbrev cX5_fill : ByteArray := prog_7_method_2_code
def yX5_fill : MethodName := ⟨RX5, "fill", "(II)V"⟩
abbrev cX5_addMonths : ByteArray := prog_7_method_3_code
def yX5_addMonths : MethodName := ⟨RX5, "addMonths", "(I)V"⟩
abbrev cX5_fewestPits : ByteArray := prog_7_method_4_code
def yX5_fewestPits : MethodName := ⟨RX5, "fewestPits", "(II)I"⟩
abbrev cX5_mostWithin : ByteArray := prog_7_method_5_code
def yX5_mostWithin : MethodName := ⟨RX5, "mostWithin", "(II)I"⟩
def RX6 : String := "TannedMen$Plan"
def TX6 : u_T := fun k => match k with
  | 0 => ("TannedMen$Plan", "pits", "I", false)
  | 1 => ("TannedMen$Plan", "bark", "I", false)
  | 2 => ("TannedMen$Plan", "men", "I", false)
  | 3 => ("TannedMen$Plan", "sayings", "I", false)
  | 4 => ("TannedMen$Plan", "kind", "[I", true)
  | 5 => ("TannedMen$Plan", "soft", "[[I", true)
  | 6 => ("TannedMen$Plan", "place", "[I", true)
  | _ => ("TannedMen$Plan", "sharp", "[I", true)
def tyX6 : Nat → FieldType := fun k => match k with
  | 0 => .int
  | 1 => .int
  | 2 => .int
  | 3 => .int
  | 4 => .array .int
  | 5 => .array (.array .int)
  | 6 => .array .int
  | _ => .array .int
abbrev wsX60 : List Cond := u_ws RX6 TX6 8
theorem nmX6 : ∀ a, a < 8 → ∀ b, b < 8 → a ≠ b → (TX6 a).2.1 ≠ (TX6 b).2.1 := by decide +kernel
theorem tyX6_ok : ∀ k, k < 8 → parseFieldDescriptor (TX6 k).2.2.1 = some (tyX6 k) := by decide +kernel
abbrev cX6_init : ByteArray := prog_8_method_1_code
def yX6_init : MethodName := ⟨RX6, "<init>", "()V"⟩
abbrev cX6_clear : ByteArray := prog_8_method_2_code
def yX6_clear : MethodName := ⟨RX6, "clear", "()V"⟩
abbrev cX6_isNone : ByteArray := prog_8_method_3_code
def yX6_isNone : MethodName := ⟨RX6, "isNone", "()Z"⟩
abbrev cX6_hasMan : ByteArray := prog_8_method_4_code
def yX6_hasMan : MethodName := ⟨RX6, "hasMan", "(I)Z"⟩
abbrev cX6_hasSaying : ByteArray := prog_8_method_5_code
def yX6_hasSaying : MethodName := ⟨RX6, "hasSaying", "(I)Z"⟩
abbrev cX6_hasSet : ByteArray := prog_8_method_6_code
def yX6_hasSet : MethodName := ⟨RX6, "hasSet", "(I)Z"⟩
abbrev cX6_everySaying : ByteArray := prog_8_method_7_code
def yX6_everySaying : MethodName := ⟨RX6, "everySaying", "()I"⟩
abbrev cX6_pain : ByteArray := prog_8_method_8_code
def yX6_pain : MethodName := ⟨RX6, "pain", "(LTannedMen$Man;I)I"⟩
abbrev cX6_setBorne : ByteArray := prog_8_method_9_code
def yX6_setBorne : MethodName := ⟨RX6, "setBorne", "(LTannedMen$Man;)I"⟩
abbrev cX6_setFelt : ByteArray := prog_8_method_10_code
def yX6_setFelt : MethodName := ⟨RX6, "setFelt", "(LTannedMen$Man;)I"⟩
abbrev cX6_bearsAll : ByteArray := prog_8_method_11_code
def yX6_bearsAll : MethodName := ⟨RX6, "bearsAll", "(LTannedMen$Man;I)Z"⟩
abbrev cX6_feelsAll : ByteArray := prog_8_method_12_code
def yX6_feelsAll : MethodName := ⟨RX6, "feelsAll", "(LTannedMen$Man;I)Z"⟩
abbrev cX6_wholePain : ByteArray := prog_8_method_13_code
def yX6_wholePain : MethodName := ⟨RX6, "wholePain", "(LTannedMen$Man;)I"⟩
abbrev cX6_leastScraping : ByteArray := prog_8_method_14_code
def yX6_leastScraping : MethodName := ⟨RX6, "leastScraping", "(LTannedMen$Man;I)I"⟩
abbrev cX6_scrapingAt : ByteArray := prog_8_method_15_code
def yX6_scrapingAt : MethodName := ⟨RX6, "scrapingAt", "(LTannedMen$Man;II)I"⟩
def RX7 : String := "TannedMen$State"
def TX7 : u_T := fun k => match k with
  | 0 => ("TannedMen$State", "plan", "LTannedMen$Plan;", false)
  | 1 => ("TannedMen$State", "months", "I", false)
  | 2 => ("TannedMen$State", "bark", "I", false)
  | 3 => ("TannedMen$State", "glue", "I", false)
  | _ => ("TannedMen$State", "men", "[LTannedMen$Man;", true)
def tyX7 : Nat → FieldType := fun k => match k with
  | 0 => .object "TannedMen$Plan"
  | 1 => .int
  | 2 => .int
  | 3 => .int
  | _ => .array (.object "TannedMen$Man")
abbrev wsX70 : List Cond := u_ws RX7 TX7 5
theorem nmX7 : ∀ a, a < 5 → ∀ b, b < 5 → a ≠ b → (TX7 a).2.1 ≠ (TX7 b).2.1 := by decide +kernel
theorem tyX7_ok : ∀ k, k < 5 → parseFieldDescriptor (TX7 k).2.2.1 = some (tyX7 k) := by decide +kernel
abbrev cX7_init : ByteArray := prog_9_method_1_code
def yX7_init : MethodName := ⟨RX7, "<init>", "(LTannedMen$Plan;)V"⟩
abbrev cX7_begin : ByteArray := prog_9_method_2_code
def yX7_begin : MethodName := ⟨RX7, "begin", "(LTannedMen$Plan;)V"⟩
abbrev cX7_passMonth : ByteArray := prog_9_method_3_code
def yX7_passMonth : MethodName := ⟨RX7, "passMonth", "()V"⟩
abbrev cX7_freePits : ByteArray := prog_9_method_4_code
def yX7_freePits : MethodName := ⟨RX7, "freePits", "()I"⟩
abbrev cX7_setInside : ByteArray := prog_9_method_5_code
def yX7_setInside : MethodName := ⟨RX7, "setInside", "()I"⟩
abbrev cX7_allWounds : ByteArray := prog_9_method_6_code
def yX7_allWounds : MethodName := ⟨RX7, "allWounds", "()I"⟩
abbrev cX7_scrapeOff : ByteArray := prog_9_method_7_code
def yX7_scrapeOff : MethodName := ⟨RX7, "scrapeOff", "(III)V"⟩
abbrev cX7_wound : ByteArray := prog_9_method_8_code
def yX7_wound : MethodName := ⟨RX7, "wound", "(II)V"⟩
abbrev cX7_stir : ByteArray := prog_9_method_9_code
def yX7_stir : MethodName := ⟨RX7, "stir", "(LTannedMen$Draws;)V"⟩
abbrev cX7_scrapeIfSoft : ByteArray := prog_9_method_10_code
def yX7_scrapeIfSoft : MethodName := ⟨RX7, "scrapeIfSoft", "(II)V"⟩
abbrev cX7_best : ByteArray := prog_9_method_11_code
def yX7_best : MethodName := ⟨RX7, "best", "()I"⟩
abbrev cX7_chosen : ByteArray := prog_9_method_12_code
def yX7_chosen : MethodName := ⟨RX7, "chosen", "()I"⟩
abbrev cX7_votesFor : ByteArray := prog_9_method_13_code
def yX7_votesFor : MethodName := ⟨RX7, "votesFor", "(I)I"⟩
abbrev cX7_leastPainedBy : ByteArray := prog_9_method_14_code
def yX7_leastPainedBy : MethodName := ⟨RX7, "leastPainedBy", "(I)I"⟩
abbrev cX7_tender : ByteArray := prog_9_method_15_code
def yX7_tender : MethodName := ⟨RX7, "tender", "()I"⟩
abbrev cX7_saveTo : ByteArray := prog_9_method_16_code
def yX7_saveTo : MethodName := ⟨RX7, "saveTo", "([I)V"⟩
abbrev cX7_loadFrom : ByteArray := prog_9_method_17_code
def yX7_loadFrom : MethodName := ⟨RX7, "loadFrom", "([I)V"⟩
def RX8 : String := "TannedMen$TextReader"
def TX8 : u_T := fun k => match k with
  | 0 => ("TannedMen$TextReader", "letters", "[I", true)
  | 1 => ("TannedMen$TextReader", "length", "I", false)
  | 2 => ("TannedMen$TextReader", "at", "I", false)
  | 3 => ("TannedMen$TextReader", "faultKind", "I", false)
  | _ => ("TannedMen$TextReader", "faultAt", "I", false)
def tyX8 : Nat → FieldType := fun k => match k with
  | 0 => .array .int
  | 1 => .int
  | 2 => .int
  | 3 => .int
  | _ => .int
abbrev wsX80 : List Cond := u_ws RX8 TX8 5
theorem nmX8 : ∀ a, a < 5 → ∀ b, b < 5 → a ≠ b → (TX8 a).2.1 ≠ (TX8 b).2.1 := by decide +kernel
theorem tyX8_ok : ∀ k, k < 5 → parseFieldDescriptor (TX8 k).2.2.1 = some (tyX8 k) := by decide +kernel
abbrev cX8_init : ByteArray := prog_10_method_1_code
def yX8_init : MethodName := ⟨RX8, "<init>", "()V"⟩
abbrev cX8_add : ByteArray := prog_10_method_2_code
def yX8_add : MethodName := ⟨RX8, "add", "(I)I"⟩
abbrev cX8_readInto : ByteArray := prog_10_method_3_code
def yX8_readInto : MethodName := ⟨RX8, "readInto", "(LTannedMen$Plan;)V"⟩
abbrev cX8_mark : ByteArray := prog_10_method_4_code
def yX8_mark : MethodName := ⟨RX8, "mark", "(II)V"⟩
abbrev cX8_letter : ByteArray := prog_10_method_5_code
def yX8_letter : MethodName := ⟨RX8, "letter", "()I"⟩
abbrev cX8_skipBlanks : ByteArray := prog_10_method_6_code
def yX8_skipBlanks : MethodName := ⟨RX8, "skipBlanks", "()V"⟩
abbrev cX8_isFigure : ByteArray := prog_10_method_7_code
def yX8_isFigure : MethodName := ⟨RX8, "isFigure", "(I)Z"⟩
abbrev cX8_readClause : ByteArray := prog_10_method_8_code
def yX8_readClause : MethodName := ⟨RX8, "readClause", "(LTannedMen$Plan;)V"⟩
abbrev cX8_faultOfWord : ByteArray := prog_10_method_9_code
def yX8_faultOfWord : MethodName := ⟨RX8, "faultOfWord", "(ILTannedMen$Plan;)I"⟩
abbrev cX8_readPits : ByteArray := prog_10_method_10_code
def yX8_readPits : MethodName := ⟨RX8, "readPits", "(LTannedMen$Plan;)V"⟩
abbrev cX8_readMan : ByteArray := prog_10_method_11_code
def yX8_readMan : MethodName := ⟨RX8, "readMan", "(LTannedMen$Plan;)V"⟩
abbrev cX8_readSaying : ByteArray := prog_10_method_12_code
def yX8_readSaying : MethodName := ⟨RX8, "readSaying", "(LTannedMen$Plan;)V"⟩
abbrev cX8_readNumber : ByteArray := prog_10_method_13_code
def yX8_readNumber : MethodName := ⟨RX8, "readNumber", "(II)I"⟩
abbrev cX8_skipMark : ByteArray := prog_10_method_14_code
def yX8_skipMark : MethodName := ⟨RX8, "skipMark", "(C)V"⟩
def RX9 : String := "TannedMen$Trial"
def TX9 : u_T := fun k => match k with
  | 0 => ("TannedMen$Trial", "man", "LTannedMen$Man;", true)
  | 1 => ("TannedMen$Trial", "bark", "I", false)
  | 2 => ("TannedMen$Trial", "months", "I", false)
  | 3 => ("TannedMen$Trial", "many", "I", false)
  | 4 => ("TannedMen$Trial", "least", "I", false)
  | _ => ("TannedMen$Trial", "greatest", "I", false)
def tyX9 : Nat → FieldType := fun k => match k with
  | 0 => .object "TannedMen$Man"
  | 1 => .int
  | 2 => .int
  | 3 => .int
  | 4 => .int
  | _ => .int
abbrev wsX90 : List Cond := u_ws RX9 TX9 6
theorem nmX9 : ∀ a, a < 6 → ∀ b, b < 6 → a ≠ b → (TX9 a).2.1 ≠ (TX9 b).2.1 := by decide +kernel
theorem tyX9_ok : ∀ k, k < 6 → parseFieldDescriptor (TX9 k).2.2.1 = some (tyX9 k) := by decide +kernel
abbrev cX9_init : ByteArray := prog_11_method_1_code
def yX9_init : MethodName := ⟨RX9, "<init>", "()V"⟩
abbrev cX9_startNow : ByteArray := prog_11_method_2_code
def yX9_startNow : MethodName := ⟨RX9, "startNow", "(LTannedMen$State;I)V"⟩
abbrev cX9_startFirst : ByteArray := prog_11_method_3_code
def yX9_startFirst : MethodName := ⟨RX9, "startFirst", "(LTannedMen$Plan;I)V"⟩
abbrev cX9_clearNotes : ByteArray := prog_11_method_4_code
def yX9_clearNotes : MethodName := ⟨RX9, "clearNotes", "()V"⟩
abbrev cX9_note : ByteArray := prog_11_method_5_code
def yX9_note : MethodName := ⟨RX9, "note", "(I)V"⟩
abbrev cX9_noted : ByteArray := prog_11_method_6_code
def yX9_noted : MethodName := ⟨RX9, "noted", "(I)I"⟩
abbrev cX9_passMonth : ByteArray := prog_11_method_7_code
def yX9_passMonth : MethodName := ⟨RX9, "passMonth", "()V"⟩
abbrev cX9_firstBearing : ByteArray := prog_11_method_8_code
def yX9_firstBearing : MethodName := ⟨RX9, "firstBearing", "(LTannedMen$Plan;I)I"⟩
abbrev cX9_lastFeeling : ByteArray := prog_11_method_9_code
def yX9_lastFeeling : MethodName := ⟨RX9, "lastFeeling", "(LTannedMen$Plan;I)I"⟩
def RX10 : String := "TannedMen"
def TX10 : u_T := fun k => match k with
  | 0 => ("TannedMen", "reader", "LTannedMen$TextReader;", true)
  | 1 => ("TannedMen", "plan", "LTannedMen$Plan;", false)
  | 2 => ("TannedMen", "draft", "LTannedMen$Plan;", false)
  | 3 => ("TannedMen", "state", "LTannedMen$State;", true)
  | 4 => ("TannedMen", "past", "LTannedMen$Past;", true)
  | 5 => ("TannedMen", "draws", "LTannedMen$Draws;", true)
  | 6 => ("TannedMen", "ears", "LTannedMen$Ears;", true)
  | 7 => ("TannedMen", "book", "LTannedMen$Book;", true)
  | 8 => ("TannedMen", "trial", "LTannedMen$Trial;", true)
  | _ => ("TannedMen", "queue", "LTannedMen$PitQueue;", true)
def tyX10 : Nat → FieldType := fun k => match k with
  | 0 => .object "TannedMen$TextReader"
  | 1 => .object "TannedMen$Plan"
  | 2 => .object "TannedMen$Plan"
  | 3 => .object "TannedMen$State"
  | 4 => .object "TannedMen$Past"
  | 5 => .object "TannedMen$Draws"
  | 6 => .object "TannedMen$Ears"
  | 7 => .object "TannedMen$Book"
  | 8 => .object "TannedMen$Trial"
  | _ => .object "TannedMen$PitQueue"
abbrev wsX100 : List Cond := u_ws RX10 TX10 10
theorem nmX10 : ∀ a, a < 10 → ∀ b, b < 10 → a ≠ b → (TX10 a).2.1 ≠ (TX10 b).2.1 := by decide +kernel
theorem tyX10_ok : ∀ k, k < 10 → parseFieldDescriptor (TX10 k).2.2.1 = some (tyX10 k) := by decide +kernel
abbrev cX10_init : ByteArray := prog_1_method_1_code
def yX10_init : MethodName := ⟨RX10, "<init>", "()V"⟩
abbrev cX10_feed : ByteArray := prog_1_method_2_code
def yX10_feed : MethodName := ⟨RX10, "feed", "(I)I"⟩
abbrev cX10_yard : ByteArray := prog_1_method_3_code
def yX10_yard : MethodName := ⟨RX10, "yard", "()I"⟩
abbrev cX10_fault : ByteArray := prog_1_method_4_code
def yX10_fault : MethodName := ⟨RX10, "fault", "()I"⟩
abbrev cX10_told : ByteArray := prog_1_method_5_code
def yX10_told : MethodName := ⟨RX10, "told", "(I)I"⟩
abbrev cX10_man : ByteArray := prog_1_method_6_code
def yX10_man : MethodName := ⟨RX10, "man", "(II)I"⟩
abbrev cX10_skin : ByteArray := prog_1_method_7_code
def yX10_skin : MethodName := ⟨RX10, "skin", "(III)I"⟩
abbrev cX10_saying : ByteArray := prog_1_method_8_code
def yX10_saying : MethodName := ⟨RX10, "saying", "(II)I"⟩
abbrev cX10_hurt : ByteArray := prog_1_method_9_code
def yX10_hurt : MethodName := ⟨RX10, "hurt", "(II)I"⟩
abbrev cX10_month : ByteArray := prog_1_method_10_code
def yX10_month : MethodName := ⟨RX10, "month", "(I)I"⟩
abbrev cX10_in : ByteArray := prog_1_method_11_code
def yX10_in : MethodName := ⟨RX10, "in", "(I)I"⟩
abbrev cX10_out : ByteArray := prog_1_method_12_code
def yX10_out : MethodName := ⟨RX10, "out", "(I)I"⟩
abbrev cX10_scrape : ByteArray := prog_1_method_13_code
def yX10_scrape : MethodName := ⟨RX10, "scrape", "(III)I"⟩
abbrev cX10_say : ByteArray := prog_1_method_14_code
def yX10_say : MethodName := ⟨RX10, "say", "(II)I"⟩
abbrev cX10_bark : ByteArray := prog_1_method_15_code
def yX10_bark : MethodName := ⟨RX10, "bark", "(I)I"⟩
abbrev cX10_drift : ByteArray := prog_1_method_16_code
def yX10_drift : MethodName := ⟨RX10, "drift", "(I)I"⟩
abbrev cX10_undo : ByteArray := prog_1_method_17_code
def yX10_undo : MethodName := ⟨RX10, "undo", "()I"⟩
abbrev cX10_thick : ByteArray := prog_1_method_18_code
def yX10_thick : MethodName := ⟨RX10, "thick", "(III)I"⟩
abbrev cX10_when : ByteArray := prog_1_method_19_code
def yX10_when : MethodName := ⟨RX10, "when", "(III)I"⟩
abbrev cX10_edge : ByteArray := prog_1_method_20_code
def yX10_edge : MethodName := ⟨RX10, "edge", "(IIII)I"⟩
abbrev cX10_scraping : ByteArray := prog_1_method_21_code
def yX10_scraping : MethodName := ⟨RX10, "scraping", "(II)I"⟩
abbrev cX10_through : ByteArray := prog_1_method_22_code
def yX10_through : MethodName := ⟨RX10, "through", "(II)I"⟩
abbrev cX10_over : ByteArray := prog_1_method_23_code
def yX10_over : MethodName := ⟨RX10, "over", "(II)I"⟩
abbrev cX10_quiet : ByteArray := prog_1_method_24_code
def yX10_quiet : MethodName := ⟨RX10, "quiet", "(II)I"⟩
abbrev cX10_hear : ByteArray := prog_1_method_25_code
def yX10_hear : MethodName := ⟨RX10, "hear", "(III)I"⟩
abbrev cX10_stays : ByteArray := prog_1_method_26_code
def yX10_stays : MethodName := ⟨RX10, "stays", "(II)I"⟩
abbrev cX10_ask : ByteArray := prog_1_method_27_code
def yX10_ask : MethodName := ⟨RX10, "ask", "(I)I"⟩
abbrev cX10_write : ByteArray := prog_1_method_28_code
def yX10_write : MethodName := ⟨RX10, "write", "(II)I"⟩
abbrev cX10_tear : ByteArray := prog_1_method_29_code
def yX10_tear : MethodName := ⟨RX10, "tear", "()I"⟩
abbrev cX10_judge : ByteArray := prog_1_method_30_code
def yX10_judge : MethodName := ⟨RX10, "judge", "()I"⟩
abbrev cX10_seed : ByteArray := prog_1_method_31_code
def yX10_seed : MethodName := ⟨RX10, "seed", "(I)I"⟩
abbrev cX10_keep : ByteArray := prog_1_method_32_code
def yX10_keep : MethodName := ⟨RX10, "keep", "(I)I"⟩
abbrev cX10_goBack : ByteArray := prog_1_method_33_code
def yX10_goBack : MethodName := ⟨RX10, "goBack", "(I)I"⟩
abbrev cX10_isOutside : ByteArray := prog_1_method_34_code
def yX10_isOutside : MethodName := ⟨RX10, "isOutside", "(III)Z"⟩
abbrev cX10_refusalOfMonths : ByteArray := prog_1_method_35_code
def yX10_refusalOfMonths : MethodName := ⟨RX10, "refusalOfMonths", "(I)I"⟩
def RX11 : String := "TannedMenModel"
def TX11 : u_T := fun k => match k with
  | 0 => ("TannedMenModel", "pits", "I", false)
  | 1 => ("TannedMenModel", "barkTold", "I", false)
  | 2 => ("TannedMenModel", "men", "I", false)
  | 3 => ("TannedMenModel", "kind", "[I", true)
  | 4 => ("TannedMenModel", "softTold", "[I", true)
  | 5 => ("TannedMenModel", "sayings", "I", false)
  | 6 => ("TannedMenModel", "sayPlace", "[I", true)
  | 7 => ("TannedMenModel", "sharp", "[I", true)
  | 8 => ("TannedMenModel", "now", "[I", true)
  | 9 => ("TannedMenModel", "seed", "I", false)
  | 10 => ("TannedMenModel", "heard", "I", false)
  | 11 => ("TannedMenModel", "heardMan", "[I", true)
  | 12 => ("TannedMenModel", "heardSaying", "[I", true)
  | 13 => ("TannedMenModel", "heardHurt", "[I", true)
  | 14 => ("TannedMenModel", "written", "I", false)
  | 15 => ("TannedMenModel", "bookOf", "[I", true)
  | 16 => ("TannedMenModel", "bookWounds", "[I", true)
  | 17 => ("TannedMenModel", "text", "[I", true)
  | 18 => ("TannedMenModel", "texted", "I", false)
  | 19 => ("TannedMenModel", "faultPlace", "I", false)
  | 20 => ("TannedMenModel", "at0", "I", false)
  | 21 => ("TannedMenModel", "number", "I", false)
  | 22 => ("TannedMenModel", "numberAt", "I", false)
  | 23 => ("TannedMenModel", "readPits", "I", false)
  | 24 => ("TannedMenModel", "readBark", "I", false)
  | 25 => ("TannedMenModel", "readMen", "I", false)
  | 26 => ("TannedMenModel", "readKind", "[I", true)
  | 27 => ("TannedMenModel", "readSoft", "[I", true)
  | 28 => ("TannedMenModel", "readSayings", "I", false)
  | 29 => ("TannedMenModel", "readPlace", "[I", true)
  | 30 => ("TannedMenModel", "readSharp", "[I", true)
  | 31 => ("TannedMenModel", "soft", "[I", true)
  | 32 => ("TannedMenModel", "thick", "[I", true)
  | 33 => ("TannedMenModel", "votes", "[I", true)
  | 34 => ("TannedMenModel", "undos", "I", false)
  | 35 => ("TannedMenModel", "past", "[I", true)
  | 36 => ("TannedMenModel", "need", "[I", true)
  | 37 => ("TannedMenModel", "busy", "[I", true)
  | 38 => ("TannedMenModel", "stay", "[Z", true)
  | 39 => ("TannedMenModel", "hurtThen", "[I", true)
  | 40 => ("TannedMenModel", "images", "[I", true)
  | _ => ("TannedMenModel", "isKept", "[Z", true)
def tyX11 : Nat → FieldType := fun k => match k with
  | 0 => .int
  | 1 => .int
  | 2 => .int
  | 3 => .array .int
  | 4 => .array .int
  | 5 => .int
  | 6 => .array .int
  | 7 => .array .int
  | 8 => .array .int
  | 9 => .int
  | 10 => .int
  | 11 => .array .int
  | 12 => .array .int
  | 13 => .array .int
  | 14 => .int
  | 15 => .array .int
  | 16 => .array .int
  | 17 => .array .int
  | 18 => .int
  | 19 => .int
  | 20 => .int
  | 21 => .int
  | 22 => .int
  | 23 => .int
  | 24 => .int
  | 25 => .int
  | 26 => .array .int
  | 27 => .array .int
  | 28 => .int
  | 29 => .array .int
  | 30 => .array .int
  | 31 => .array .int
  | 32 => .array .int
  | 33 => .array .int
  | 34 => .int
  | 35 => .array .int
  | 36 => .array .int
  | 37 => .array .int
  | 38 => .array .boolean
  | 39 => .array .int
  | 40 => .array .int
  | _ => .array .boolean
abbrev wsX110 : List Cond := u_ws RX11 TX11 42
theorem nmX11 : ∀ a, a < 42 → ∀ b, b < 42 → a ≠ b → (TX11 a).2.1 ≠ (TX11 b).2.1 := by decide +kernel
theorem tyX11_ok : ∀ k, k < 42 → parseFieldDescriptor (TX11 k).2.2.1 = some (tyX11 k) := by decide +kernel
abbrev cX11_init : ByteArray := prog_13_method_1_code
def yX11_init : MethodName := ⟨RX11, "<init>", "()V"⟩
abbrev cX11_within : ByteArray := prog_13_method_3_code
def yX11_within : MethodName := ⟨RX11, "within", "(JJJ)Z"⟩
abbrev cX11_has : ByteArray := prog_13_method_4_code
def yX11_has : MethodName := ⟨RX11, "has", "(II)Z"⟩
abbrev cX11_ones : ByteArray := prog_13_method_5_code
def yX11_ones : MethodName := ⟨RX11, "ones", "(I)I"⟩
abbrev cX11_isMan : ByteArray := prog_13_method_6_code
def yX11_isMan : MethodName := ⟨RX11, "isMan", "(I)Z"⟩
abbrev cX11_isSaying : ByteArray := prog_13_method_7_code
def yX11_isSaying : MethodName := ⟨RX11, "isSaying", "(I)Z"⟩
abbrev cX11_areSayings : ByteArray := prog_13_method_8_code
def yX11_areSayings : MethodName := ⟨RX11, "areSayings", "(I)Z"⟩
abbrev cX11_isPlace : ByteArray := prog_13_method_9_code
def yX11_isPlace : MethodName := ⟨RX11, "isPlace", "(I)Z"⟩
abbrev cX11_feed : ByteArray := prog_13_method_10_code
def yX11_feed : MethodName := ⟨RX11, "feed", "(I)I"⟩
abbrev cX11_here : ByteArray := prog_13_method_11_code
def yX11_here : MethodName := ⟨RX11, "here", "()I"⟩
abbrev cX11_fails : ByteArray := prog_13_method_12_code
def yX11_fails : MethodName := ⟨RX11, "fails", "(II)I"⟩
abbrev cX11_takeNumber : ByteArray := prog_13_method_13_code
def yX11_takeNumber : MethodName := ⟨RX11, "takeNumber", "(II)I"⟩
abbrev cX11_takePits : ByteArray := prog_13_method_14_code
def yX11_takePits : MethodName := ⟨RX11, "takePits", "()I"⟩
abbrev cX11_takeMan : ByteArray := prog_13_method_15_code
def yX11_takeMan : MethodName := ⟨RX11, "takeMan", "()I"⟩
abbrev cX11_takeSaying : ByteArray := prog_13_method_16_code
def yX11_takeSaying : MethodName := ⟨RX11, "takeSaying", "()I"⟩
abbrev cX11_isFull : ByteArray := prog_13_method_17_code
def yX11_isFull : MethodName := ⟨RX11, "isFull", "(I)Z"⟩
abbrev cX11_takeBody : ByteArray := prog_13_method_18_code
def yX11_takeBody : MethodName := ⟨RX11, "takeBody", "(I)I"⟩
abbrev cX11_takeClause : ByteArray := prog_13_method_19_code
def yX11_takeClause : MethodName := ⟨RX11, "takeClause", "()I"⟩
abbrev cX11_takeRead : ByteArray := prog_13_method_20_code
def yX11_takeRead : MethodName := ⟨RX11, "takeRead", "()V"⟩
abbrev cX11_yard : ByteArray := prog_13_method_21_code
def yX11_yard : MethodName := ⟨RX11, "yard", "()I"⟩
abbrev cX11_fault : ByteArray := prog_13_method_22_code
def yX11_fault : MethodName := ⟨RX11, "fault", "()I"⟩
abbrev cX11_capped : ByteArray := prog_13_method_23_code
def yX11_capped : MethodName := ⟨RX11, "capped", "(I)I"⟩
abbrev cX11_tans : ByteArray := prog_13_method_24_code
def yX11_tans : MethodName := ⟨RX11, "tans", "(III)V"⟩
abbrev cX11_takesSkin : ByteArray := prog_13_method_25_code
def yX11_takesSkin : MethodName := ⟨RX11, "takesSkin", "(I)V"⟩
abbrev cX11_takesFirst : ByteArray := prog_13_method_26_code
def yX11_takesFirst : MethodName := ⟨RX11, "takesFirst", "(I)V"⟩
abbrev cX11_hurts : ByteArray := prog_13_method_27_code
def yX11_hurts : MethodName := ⟨RX11, "hurts", "(I)I"⟩
abbrev cX11_borneNow : ByteArray := prog_13_method_28_code
def yX11_borneNow : MethodName := ⟨RX11, "borneNow", "()I"⟩
abbrev cX11_feltNow : ByteArray := prog_13_method_29_code
def yX11_feltNow : MethodName := ⟨RX11, "feltNow", "()I"⟩
abbrev cX11_hurtOf : ByteArray := prog_13_method_30_code
def yX11_hurtOf : MethodName := ⟨RX11, "hurtOf", "(II)I"⟩
abbrev cX11_woundsAll : ByteArray := prog_13_method_31_code
def yX11_woundsAll : MethodName := ⟨RX11, "woundsAll", "()I"⟩
abbrev cX11_bestMan : ByteArray := prog_13_method_32_code
def yX11_bestMan : MethodName := ⟨RX11, "bestMan", "()I"⟩
abbrev cX11_chosen : ByteArray := prog_13_method_33_code
def yX11_chosen : MethodName := ⟨RX11, "chosen", "()I"⟩
abbrev cX11_tender : ByteArray := prog_13_method_34_code
def yX11_tender : MethodName := ⟨RX11, "tender", "()I"⟩
abbrev cX11_told : ByteArray := prog_13_method_35_code
def yX11_told : MethodName := ⟨RX11, "told", "(I)I"⟩
abbrev cX11_man : ByteArray := prog_13_method_36_code
def yX11_man : MethodName := ⟨RX11, "man", "(II)I"⟩
abbrev cX11_skin : ByteArray := prog_13_method_37_code
def yX11_skin : MethodName := ⟨RX11, "skin", "(III)I"⟩
abbrev cX11_saying : ByteArray := prog_13_method_38_code
def yX11_saying : MethodName := ⟨RX11, "saying", "(II)I"⟩
abbrev cX11_hurt : ByteArray := prog_13_method_39_code
def yX11_hurt : MethodName := ⟨RX11, "hurt", "(II)I"⟩
abbrev cX11_remember : ByteArray := prog_13_method_40_code
def yX11_remember : MethodName := ⟨RX11, "remember", "()V"⟩
abbrev cX11_passes : ByteArray := prog_13_method_41_code
def yX11_passes : MethodName := ⟨RX11, "passes", "()V"⟩
abbrev cX11_monthsRefused : ByteArray := prog_13_method_42_code
def yX11_monthsRefused : MethodName := ⟨RX11, "monthsRefused", "(I)I"⟩
abbrev cX11_month : ByteArray := prog_13_method_43_code
def yX11_month : MethodName := ⟨RX11, "month", "(I)I"⟩
abbrev cX11_free : ByteArray := prog_13_method_44_code
def yX11_free : MethodName := ⟨RX11, "free", "()I"⟩
abbrev cX11_in : ByteArray := prog_13_method_45_code
def yX11_in : MethodName := ⟨RX11, "in", "(I)I"⟩
abbrev cX11_out : ByteArray := prog_13_method_46_code
def yX11_out : MethodName := ⟨RX11, "out", "(I)I"⟩
abbrev cX11_scrapes : ByteArray := prog_13_method_47_code
def yX11_scrapes : MethodName := ⟨RX11, "scrapes", "(III)V"⟩
abbrev cX11_scrape : ByteArray := prog_13_method_48_code
def yX11_scrape : MethodName := ⟨RX11, "scrape", "(III)I"⟩
abbrev cX11_wounds : ByteArray := prog_13_method_49_code
def yX11_wounds : MethodName := ⟨RX11, "wounds", "(II)V"⟩
abbrev cX11_say : ByteArray := prog_13_method_50_code
def yX11_say : MethodName := ⟨RX11, "say", "(II)I"⟩
abbrev cX11_bark : ByteArray := prog_13_method_51_code
def yX11_bark : MethodName := ⟨RX11, "bark", "(I)I"⟩
abbrev cX11_draw : ByteArray := prog_13_method_52_code
def yX11_draw : MethodName := ⟨RX11, "draw", "(I)I"⟩
abbrev cX11_chance : ByteArray := prog_13_method_53_code
def yX11_chance : MethodName := ⟨RX11, "chance", "()V"⟩
abbrev cX11_drift : ByteArray := prog_13_method_54_code
def yX11_drift : MethodName := ⟨RX11, "drift", "(I)I"⟩
abbrev cX11_undo : ByteArray := prog_13_method_55_code
def yX11_undo : MethodName := ⟨RX11, "undo", "()I"⟩
abbrev cX11_thick : ByteArray := prog_13_method_56_code
def yX11_thick : MethodName := ⟨RX11, "thick", "(III)I"⟩
abbrev cX11_when : ByteArray := prog_13_method_57_code
def yX11_when : MethodName := ⟨RX11, "when", "(III)I"⟩
abbrev cX11_edge : ByteArray := prog_13_method_58_code
def yX11_edge : MethodName := ⟨RX11, "edge", "(IIII)I"⟩
abbrev cX11_scraping : ByteArray := prog_13_method_59_code
def yX11_scraping : MethodName := ⟨RX11, "scraping", "(II)I"⟩
abbrev cX11_goThrough : ByteArray := prog_13_method_60_code
def yX11_goThrough : MethodName := ⟨RX11, "goThrough", "(II)Z"⟩
abbrev cX11_through : ByteArray := prog_13_method_61_code
def yX11_through : MethodName := ⟨RX11, "through", "(II)I"⟩
abbrev cX11_over : ByteArray := prog_13_method_62_code
def yX11_over : MethodName := ⟨RX11, "over", "(II)I"⟩
abbrev cX11_quiet : ByteArray := prog_13_method_63_code
def yX11_quiet : MethodName := ⟨RX11, "quiet", "(II)I"⟩
abbrev cX11_hear : ByteArray := prog_13_method_64_code
def yX11_hear : MethodName := ⟨RX11, "hear", "(III)I"⟩
abbrev cX11_laysStays : ByteArray := prog_13_method_65_code
def yX11_laysStays : MethodName := ⟨RX11, "laysStays", "(I)I"⟩
abbrev cX11_stays : ByteArray := prog_13_method_66_code
def yX11_stays : MethodName := ⟨RX11, "stays", "(II)I"⟩
abbrev cX11_ask : ByteArray := prog_13_method_67_code
def yX11_ask : MethodName := ⟨RX11, "ask", "(I)I"⟩
abbrev cX11_write : ByteArray := prog_13_method_68_code
def yX11_write : MethodName := ⟨RX11, "write", "(II)I"⟩
abbrev cX11_tear : ByteArray := prog_13_method_69_code
def yX11_tear : MethodName := ⟨RX11, "tear", "()I"⟩
abbrev cX11_judge : ByteArray := prog_13_method_70_code
def yX11_judge : MethodName := ⟨RX11, "judge", "()I"⟩
abbrev cX11_seed : ByteArray := prog_13_method_71_code
def yX11_seed : MethodName := ⟨RX11, "seed", "(I)I"⟩
abbrev cX11_keep : ByteArray := prog_13_method_72_code
def yX11_keep : MethodName := ⟨RX11, "keep", "(I)I"⟩
abbrev cX11_goBack : ByteArray := prog_13_method_73_code
def yX11_goBack : MethodName := ⟨RX11, "goBack", "(I)I"⟩
def RJ6 : String := "java/lang/Integer"
def TJ6 : u_T := fun k => match k with
  | _ => ("", "", "", false)
def tyJ6 : Nat → FieldType := fun k => match k with
  | _ => .int
abbrev wsJ60 : List Cond := u_ws RJ6 TJ6 0
theorem nmJ6 : ∀ a, a < 0 → ∀ b, b < 0 → a ≠ b → (TJ6 a).2.1 ≠ (TJ6 b).2.1 := by decide +kernel
theorem tyJ6_ok : ∀ k, k < 0 → parseFieldDescriptor (TJ6 k).2.2.1 = some (tyJ6 k) := by decide +kernel
abbrev cJ6_compare_7cf53 : ByteArray := prog_14_method_40_code
def yJ6_compare_7cf53 : MethodName := ⟨RJ6, "compare", "(II)I"⟩
abbrev cJ6_bitCount_0f7a4 : ByteArray := prog_14_method_49_code
def yJ6_bitCount_0f7a4 : MethodName := ⟨RJ6, "bitCount", "(I)I"⟩
def RJ9 : String := "java/lang/Math"
def TJ9 : u_T := fun k => match k with
  | _ => ("", "", "", false)
def tyJ9 : Nat → FieldType := fun k => match k with
  | _ => .int
abbrev wsJ90 : List Cond := u_ws RJ9 TJ9 0
theorem nmJ9 : ∀ a, a < 0 → ∀ b, b < 0 → a ≠ b → (TJ9 a).2.1 ≠ (TJ9 b).2.1 := by decide +kernel
theorem tyJ9_ok : ∀ k, k < 0 → parseFieldDescriptor (TJ9 k).2.2.1 = some (tyJ9 k) := by decide +kernel
abbrev cJ9_floorMod_7cf53 : ByteArray := prog_15_method_50_code
def yJ9_floorMod_7cf53 : MethodName := ⟨RJ9, "floorMod", "(II)I"⟩
abbrev cJ9_max_7cf53 : ByteArray := prog_15_method_65_code
def yJ9_max_7cf53 : MethodName := ⟨RJ9, "max", "(II)I"⟩
abbrev cJ9_min_7cf53 : ByteArray := prog_15_method_69_code
def yJ9_min_7cf53 : MethodName := ⟨RJ9, "min", "(II)I"⟩
def RL : String := "TannedMenLaw"
abbrev cL_law : ByteArray := code
def yL_law : MethodName := ⟨RL, "law", "([I)Z"⟩
abbrev vwCl : List vw_C := [(RX0, TX0, 3), (RX1, TX1, 1), (RX2, TX2, 8), (RX3, TX3, 5), (RX4, TX4, 6), (RX5, TX5, 3), (RX6, TX6, 8), (RX7, TX7, 5), (RX8, TX8, 5), (RX9, TX9, 6), (RX10, TX10, 10), (RX11, TX11, 42)]
end
section
abbrev St : Type := Nat → Nat → Nat → Int32
abbrev Op : Type := Option (Int32 × St)
def wr (S : St) (a o i : Nat) (v : Int32) : St := fun a2 o2 => if a2 = a ∧ o2 = o then upd (S a o) i v else S a2 o2
def ck (i : Int32) (n : Nat) (F : Op) : Op := if i < 0 ∨ n ≤ i.toNatClampNeg then none else F
def dz (y : Int32) (F : Op) : Op := if y = 0 then none else F
def bi (v : Int32) (f : Int32 → Op) : Op := f v
def bl (v : Int64) (f : Int64 → Op) : Op := f v
def bs (v : St) (f : St → Op) : Op := f v
def cal (g : Op) (f : Int32 → St → Op) : Op := match g with
  | none => none
  | some (r, S) => f r S
def jn {α : Type} (r : α) (f : α → Op) : Op := f r
def lop {α : Type} (z : α) (b : α → α) : Nat → α
  | 0 => z
  | n + 1 => b (lop z b n)
def FU : Nat := 2000
def imax (x y : Int32) : Int32 := if x < y then y else x
def imin (x y : Int32) : Int32 := if y < x then y else x
def irm (x y : Int32) : Int32 := x - x / y * y
def lrm (x y : Int64) : Int64 := x - x / y * y
def ius (x y : Int32) : Int32 := (x.toUInt32 >>> (y.toUInt32 &&& Int32.toUInt32 31)).toInt32
def pid (v : Int32) : Nat := if v = 0 then 0 else 1
def uid (n : Nat) : Int32 := if n = 0 then 0 else 1
theorem pid_lt (v : Int32) : pid v < 2 := by unfold pid; split <;> decide
theorem pid_uid {n : Nat} (h : n < 2) : pid (uid n) = n := by
  rcases (show n = 0 ∨ n = 1 by omega) with rfl | rfl <;> decide
def en (cy : Nat → ClassId) (adr : Nat → Nat → Nat) (a o : Nat) (f : Nat → Int32) : va_E := match a with
  | 0 => .inr (10, [.ref (adr 1 0), .ref (adr 3 (pid (f 1))), .ref (adr 3 (pid (f 2))), .ref (adr 9 0), .ref (adr 14 0), .ref (adr 19 0), .ref (adr 20 0), .ref (adr 27 0), .ref (adr 30 0), .ref (adr 31 0)])
  | 1 => .inr (8, [.ref (adr 2 0), .int (f 1), .int (f 2), .int (f 3), .int (f 4)])
  | 2 => .inl (cy 0, 240, .inl f)
  | 3 => .inr (6, [.int (f 0), .int (f 1), .int (f 2), .int (f 3), .ref (adr 4 o), .ref (adr 5 o), .ref (adr 7 o), .ref (adr 8 o)])
  | 4 => .inl (cy 0, 6, .inl f)
  | 5 => .inl (cy 3, 6, .inr (.inr (.inr (.inr (fun i => some (adr 6 (6 * o + i)))))))
  | 6 => .inl (cy 0, 5, .inl f)
  | 7 => .inl (cy 0, 8, .inl f)
  | 8 => .inl (cy 0, 8, .inl f)
  | 9 => .inr (7, [.ref (adr 3 (pid (f 0))), .int (f 1), .int (f 2), .int (f 3), .ref (adr 10 0)])
  | 10 => .inl (cy 2, 6, .inr (.inr (.inr (.inr (fun i => some (adr 11 i))))))
  | 11 => .inr (3, [.int (f 0), .int (f 1), .int (f 2), .ref (adr 12 o), .ref (adr 13 o)])
  | 12 => .inl (cy 0, 5, .inl f)
  | 13 => .inl (cy 0, 5, .inl f)
  | 14 => .inr (4, [.ref (adr 15 0), .int (f 1), .int (f 2), .ref (adr 16 0), .ref (adr 18 0), .int (f 5)])
  | 15 => .inl (cy 3, 16, .inr (.inr (.inr (.inr (fun i => some (adr 17 i))))))
  | 16 => .inl (cy 3, 2, .inr (.inr (.inr (.inr (fun i => some (adr 17 (16 + i)))))))
  | 17 => .inl (cy 0, 75, .inl f)
  | 18 => .inl (cy 0, 2, .inl f)
  | 19 => .inr (1, [.int (f 0)])
  | 20 => .inr (2, [.ref (adr 21 0), .ref (adr 22 0), .ref (adr 23 0), .int (f 3), .int (f 4), .ref (adr 24 0), .ref (adr 25 0), .ref (adr 26 0)])
  | 21 => .inl (cy 0, 6, .inl f)
  | 22 => .inl (cy 0, 6, .inl f)
  | 23 => .inl (cy 0, 6, .inl f)
  | 24 => .inl (cy 0, 8, .inl f)
  | 25 => .inl (cy 0, 8, .inl f)
  | 26 => .inl (cy 0, 8, .inl f)
  | 27 => .inr (0, [.ref (adr 28 0), .ref (adr 29 0), .int (f 2)])
  | 28 => .inl (cy 0, 15, .inl f)
  | 29 => .inl (cy 0, 15, .inl f)
  | 30 => .inr (9, [.ref (adr 11 6), .int (f 1), .int (f 2), .int (f 3), .int (f 4), .int (f 5)])
  | 31 => .inr (5, [.ref (adr 32 0), .ref (adr 33 0), .ref (adr 34 0)])
  | 32 => .inl (cy 0, 6, .inl f)
  | 33 => .inl (cy 0, 64, .inl f)
  | 34 => .inl (cy 0, 64, .inl f)
  | 35 => .inr (11, [.int (f 0), .int (f 1), .int (f 2), .ref (adr 36 0), .ref (adr 37 0), .int (f 5), .ref (adr 38 0), .ref (adr 39 0), .ref (adr 40 0), .int (f 9), .int (f 10), .ref (adr 41 0), .ref (adr 42 0), .ref (adr 43 0), .int (f 14), .ref (adr 44 0), .ref (adr 45 0), .ref (adr 46 0), .int (f 18), .int (f 19), .int (f 20), .int (f 21), .int (f 22), .int (f 23), .int (f 24), .int (f 25), .ref (adr 47 0), .ref (adr 48 0), .int (f 28), .ref (adr 49 0), .ref (adr 50 0), .ref (adr 51 0), .ref (adr 52 0), .ref (adr 53 0), .int (f 34), .ref (adr 54 0), .ref (adr 55 0), .ref (adr 56 0), .ref (adr 57 0), .ref (adr 58 0), .ref (adr 59 0), .ref (adr 60 0)])
  | 36 => .inl (cy 0, 6, .inl f)
  | 37 => .inl (cy 0, 30, .inl f)
  | 38 => .inl (cy 0, 8, .inl f)
  | 39 => .inl (cy 0, 8, .inl f)
  | 40 => .inl (cy 0, 70, .inl f)
  | 41 => .inl (cy 0, 6, .inl f)
  | 42 => .inl (cy 0, 6, .inl f)
  | 43 => .inl (cy 0, 6, .inl f)
  | 44 => .inl (cy 0, 15, .inl f)
  | 45 => .inl (cy 0, 15, .inl f)
  | 46 => .inl (cy 0, 240, .inl f)
  | 47 => .inl (cy 0, 6, .inl f)
  | 48 => .inl (cy 0, 30, .inl f)
  | 49 => .inl (cy 0, 8, .inl f)
  | 50 => .inl (cy 0, 8, .inl f)
  | 51 => .inl (cy 0, 5, .inl f)
  | 52 => .inl (cy 0, 5, .inl f)
  | 53 => .inl (cy 0, 6, .inl f)
  | 54 => .inl (cy 0, 1120, .inl f)
  | 55 => .inl (cy 0, 6, .inl f)
  | 56 => .inl (cy 0, 3, .inl f)
  | 57 => .inl (cy 1, 61, .inl f)
  | 58 => .inl (cy 0, 488, .inl f)
  | 59 => .inl (cy 0, 142, .inl f)
  | _ => .inl (cy 1, 2, .inl f)
def cls : List (Nat × Nat) := [(0, 0), (1, 0), (2, 0), (3, 0), (3, 1), (4, 0), (4, 1), (5, 0), (5, 1), (6, 0), (6, 1), (6, 2), (6, 3), (6, 4), (6, 5), (6, 6), (6, 7), (6, 8), (6, 9), (6, 10), (6, 11), (7, 0), (7, 1), (8, 0), (8, 1), (9, 0), (10, 0), (11, 0), (11, 1), (11, 2), (11, 3), (11, 4), (11, 5), (11, 6), (12, 0), (12, 1), (12, 2), (12, 3), (12, 4), (12, 5), (12, 6), (13, 0), (13, 1), (13, 2), (13, 3), (13, 4), (13, 5), (13, 6), (14, 0), (15, 0), (16, 0), (17, 0), (17, 1), (17, 2), (17, 3), (17, 4), (17, 5), (17, 6), (17, 7), (17, 8), (17, 9), (17, 10), (17, 11), (17, 12), (17, 13), (17, 14), (17, 15), (17, 16), (17, 17), (18, 0), (19, 0), (20, 0), (21, 0), (22, 0), (23, 0), (24, 0), (25, 0), (26, 0), (27, 0), (28, 0), (29, 0), (30, 0), (31, 0), (32, 0), (33, 0), (34, 0), (35, 0), (36, 0), (37, 0), (38, 0), (39, 0), (40, 0), (41, 0), (42, 0), (43, 0), (44, 0), (45, 0), (46, 0), (47, 0), (48, 0), (49, 0), (50, 0), (51, 0), (52, 0), (53, 0), (54, 0), (55, 0), (56, 0), (57, 0), (58, 0), (59, 0), (60, 0)]
theorem cls_nd : cls.Nodup := by decide +kernel
theorem cl_0 {o : Nat} (h : o < 1) : (0, o) ∈ cls := by
  rcases (show o = 0 by omega) with rfl
  decide +kernel
theorem cl_1 {o : Nat} (h : o < 1) : (1, o) ∈ cls := by
  rcases (show o = 0 by omega) with rfl
  decide +kernel
theorem cl_2 {o : Nat} (h : o < 1) : (2, o) ∈ cls := by
  rcases (show o = 0 by omega) with rfl
  decide +kernel
theorem cl_3 {o : Nat} (h : o < 2) : (3, o) ∈ cls := (by decide +kernel : ∀ o : Nat, o < 2 → (3, o) ∈ cls) o h
theorem cl_4 {o : Nat} (h : o < 2) : (4, o) ∈ cls := (by decide +kernel : ∀ o : Nat, o < 2 → (4, o) ∈ cls) o h
theorem cl_5 {o : Nat} (h : o < 2) : (5, o) ∈ cls := (by decide +kernel : ∀ o : Nat, o < 2 → (5, o) ∈ cls) o h
theorem cl_6 {o : Nat} (h : o < 12) : (6, o) ∈ cls := (by decide +kernel : ∀ o : Nat, o < 12 → (6, o) ∈ cls) o h
theorem cl_7 {o : Nat} (h : o < 2) : (7, o) ∈ cls := (by decide +kernel : ∀ o : Nat, o < 2 → (7, o) ∈ cls) o h
theorem cl_8 {o : Nat} (h : o < 2) : (8, o) ∈ cls := (by decide +kernel : ∀ o : Nat, o < 2 → (8, o) ∈ cls) o h
theorem cl_9 {o : Nat} (h : o < 1) : (9, o) ∈ cls := by
  rcases (show o = 0 by omega) with rfl
  decide +kernel
theorem cl_10 {o : Nat} (h : o < 1) : (10, o) ∈ cls := by
  rcases (show o = 0 by omega) with rfl
  decide +kernel
theorem cl_11 {o : Nat} (h : o < 7) : (11, o) ∈ cls := (by decide +kernel : ∀ o : Nat, o < 7 → (11, o) ∈ cls) o h
theorem cl_12 {o : Nat} (h : o < 7) : (12, o) ∈ cls := (by decide +kernel : ∀ o : Nat, o < 7 → (12, o) ∈ cls) o h
theorem cl_13 {o : Nat} (h : o < 7) : (13, o) ∈ cls := (by decide +kernel : ∀ o : Nat, o < 7 → (13, o) ∈ cls) o h
theorem cl_14 {o : Nat} (h : o < 1) : (14, o) ∈ cls := by
  rcases (show o = 0 by omega) with rfl
  decide +kernel
theorem cl_15 {o : Nat} (h : o < 1) : (15, o) ∈ cls := by
  rcases (show o = 0 by omega) with rfl
  decide +kernel
theorem cl_16 {o : Nat} (h : o < 1) : (16, o) ∈ cls := by
  rcases (show o = 0 by omega) with rfl
  decide +kernel
theorem cl_17 {o : Nat} (h : o < 18) : (17, o) ∈ cls := (by decide +kernel : ∀ o : Nat, o < 18 → (17, o) ∈ cls) o h
theorem cl_18 {o : Nat} (h : o < 1) : (18, o) ∈ cls := by
  rcases (show o = 0 by omega) with rfl
  decide +kernel
theorem cl_19 {o : Nat} (h : o < 1) : (19, o) ∈ cls := by
  rcases (show o = 0 by omega) with rfl
  decide +kernel
theorem cl_20 {o : Nat} (h : o < 1) : (20, o) ∈ cls := by
  rcases (show o = 0 by omega) with rfl
  decide +kernel
theorem cl_21 {o : Nat} (h : o < 1) : (21, o) ∈ cls := by
  rcases (show o = 0 by omega) with rfl
  decide +kernel
theorem cl_22 {o : Nat} (h : o < 1) : (22, o) ∈ cls := by
  rcases (show o = 0 by omega) with rfl
  decide +kernel
theorem cl_23 {o : Nat} (h : o < 1) : (23, o) ∈ cls := by
  rcases (show o = 0 by omega) with rfl
  decide +kernel
theorem cl_24 {o : Nat} (h : o < 1) : (24, o) ∈ cls := by
  rcases (show o = 0 by omega) with rfl
  decide +kernel
theorem cl_25 {o : Nat} (h : o < 1) : (25, o) ∈ cls := by
  rcases (show o = 0 by omega) with rfl
  decide +kernel
theorem cl_26 {o : Nat} (h : o < 1) : (26, o) ∈ cls := by
  rcases (show o = 0 by omega) with rfl
  decide +kernel
theorem cl_27 {o : Nat} (h : o < 1) : (27, o) ∈ cls := by
  rcases (show o = 0 by omega) with rfl
  decide +kernel
theorem cl_28 {o : Nat} (h : o < 1) : (28, o) ∈ cls := by
  rcases (show o = 0 by omega) with rfl
  decide +kernel
theorem cl_29 {o : Nat} (h : o < 1) : (29, o) ∈ cls := by
  rcases (show o = 0 by omega) with rfl
  decide +kernel
theorem cl_30 {o : Nat} (h : o < 1) : (30, o) ∈ cls := by
  rcases (show o = 0 by omega) with rfl
  decide +kernel
theorem cl_31 {o : Nat} (h : o < 1) : (31, o) ∈ cls := by
  rcases (show o = 0 by omega) with rfl
  decide +kernel
theorem cl_32 {o : Nat} (h : o < 1) : (32, o) ∈ cls := by
  rcases (show o = 0 by omega) with rfl
  decide +kernel
theorem cl_33 {o : Nat} (h : o < 1) : (33, o) ∈ cls := by
  rcases (show o = 0 by omega) with rfl
  decide +kernel
theorem cl_34 {o : Nat} (h : o < 1) : (34, o) ∈ cls := by
  rcases (show o = 0 by omega) with rfl
  decide +kernel
theorem cl_35 {o : Nat} (h : o < 1) : (35, o) ∈ cls := by
  rcases (show o = 0 by omega) with rfl
  decide +kernel
theorem cl_36 {o : Nat} (h : o < 1) : (36, o) ∈ cls := by
  rcases (show o = 0 by omega) with rfl
  decide +kernel
theorem cl_37 {o : Nat} (h : o < 1) : (37, o) ∈ cls := by
  rcases (show o = 0 by omega) with rfl
  decide +kernel
theorem cl_38 {o : Nat} (h : o < 1) : (38, o) ∈ cls := by
  rcases (show o = 0 by omega) with rfl
  decide +kernel
theorem cl_39 {o : Nat} (h : o < 1) : (39, o) ∈ cls := by
  rcases (show o = 0 by omega) with rfl
  decide +kernel
theorem cl_40 {o : Nat} (h : o < 1) : (40, o) ∈ cls := by
  rcases (show o = 0 by omega) with rfl
  decide +kernel
theorem cl_41 {o : Nat} (h : o < 1) : (41, o) ∈ cls := by
  rcases (show o = 0 by omega) with rfl
  decide +kernel
theorem cl_42 {o : Nat} (h : o < 1) : (42, o) ∈ cls := by
  rcases (show o = 0 by omega) with rfl
  decide +kernel
theorem cl_43 {o : Nat} (h : o < 1) : (43, o) ∈ cls := by
  rcases (show o = 0 by omega) with rfl
  decide +kernel
theorem cl_44 {o : Nat} (h : o < 1) : (44, o) ∈ cls := by
  rcases (show o = 0 by omega) with rfl
  decide +kernel
theorem cl_45 {o : Nat} (h : o < 1) : (45, o) ∈ cls := by
  rcases (show o = 0 by omega) with rfl
  decide +kernel
theorem cl_46 {o : Nat} (h : o < 1) : (46, o) ∈ cls := by
  rcases (show o = 0 by omega) with rfl
  decide +kernel
theorem cl_47 {o : Nat} (h : o < 1) : (47, o) ∈ cls := by
  rcases (show o = 0 by omega) with rfl
  decide +kernel
theorem cl_48 {o : Nat} (h : o < 1) : (48, o) ∈ cls := by
  rcases (show o = 0 by omega) with rfl
  decide +kernel
theorem cl_49 {o : Nat} (h : o < 1) : (49, o) ∈ cls := by
  rcases (show o = 0 by omega) with rfl
  decide +kernel
theorem cl_50 {o : Nat} (h : o < 1) : (50, o) ∈ cls := by
  rcases (show o = 0 by omega) with rfl
  decide +kernel
theorem cl_51 {o : Nat} (h : o < 1) : (51, o) ∈ cls := by
  rcases (show o = 0 by omega) with rfl
  decide +kernel
theorem cl_52 {o : Nat} (h : o < 1) : (52, o) ∈ cls := by
  rcases (show o = 0 by omega) with rfl
  decide +kernel
theorem cl_53 {o : Nat} (h : o < 1) : (53, o) ∈ cls := by
  rcases (show o = 0 by omega) with rfl
  decide +kernel
theorem cl_54 {o : Nat} (h : o < 1) : (54, o) ∈ cls := by
  rcases (show o = 0 by omega) with rfl
  decide +kernel
theorem cl_55 {o : Nat} (h : o < 1) : (55, o) ∈ cls := by
  rcases (show o = 0 by omega) with rfl
  decide +kernel
theorem cl_56 {o : Nat} (h : o < 1) : (56, o) ∈ cls := by
  rcases (show o = 0 by omega) with rfl
  decide +kernel
theorem cl_57 {o : Nat} (h : o < 1) : (57, o) ∈ cls := by
  rcases (show o = 0 by omega) with rfl
  decide +kernel
theorem cl_58 {o : Nat} (h : o < 1) : (58, o) ∈ cls := by
  rcases (show o = 0 by omega) with rfl
  decide +kernel
theorem cl_59 {o : Nat} (h : o < 1) : (59, o) ∈ cls := by
  rcases (show o = 0 by omega) with rfl
  decide +kernel
theorem cl_60 {o : Nat} (h : o < 1) : (60, o) ∈ cls := by
  rcases (show o = 0 by omega) with rfl
  decide +kernel
def wld (cy : Nat → ClassId) (adr : Nat → Nat → Nat) (S : St) : va_W := cls.map (fun z => (adr z.1 z.2, en cy adr z.1 z.2 (S z.1 z.2)))
def Az (adr : Nat → Nat → Nat) : Nat → Prop := fun q => ∃ z : Nat × Nat, z ∈ cls ∧ q = adr z.1 z.2
def Ij (adr : Nat → Nat → Nat) : Prop := ∀ z : Nat × Nat, z ∈ cls → ∀ z2 : Nat × Nat, z2 ∈ cls → adr z.1 z.2 = adr z2.1 z2.2 → z = z2
def tyl (cy : Nat → ClassId) : List (ClassId × FieldType) := [(cy 0, .int), (cy 1, .boolean), (cy 2, .object "TannedMen$Man"), (cy 3, .array .int)]
theorem nd_inj {α : Type} : ∀ {l : List α} {i j : Nat} {a : α}, l.Nodup → l[i]? = some a → l[j]? = some a → i = j
  | [], i, j, a, _, h, _ => by simp at h
  | b :: l, i, j, a, hn, h1, h2 => by
    have hn2 := List.nodup_cons.mp hn
    cases i with
    | zero =>
      cases j with
      | zero => rfl
      | succ j =>
        rw [List.getElem?_cons_zero] at h1
        rw [List.getElem?_cons_succ] at h2
        cases h1
        exact absurd (List.mem_of_getElem? h2) hn2.1
    | succ i =>
      rw [List.getElem?_cons_succ] at h1
      cases j with
      | zero =>
        rw [List.getElem?_cons_zero] at h2
        cases h2
        exact absurd (List.mem_of_getElem? h1) hn2.1
      | succ j =>
        rw [List.getElem?_cons_succ] at h2
        rw [nd_inj hn2.2 h1 h2]
theorem wld_at {cy : Nat → ClassId} {adr : Nat → Nat → Nat} {S : St} {i : Nat} {q : Nat × va_E} (h : (wld cy adr S)[i]? = some q) : ∃ z : Nat × Nat, cls[i]? = some z ∧ q = (adr z.1 z.2, en cy adr z.1 z.2 (S z.1 z.2)) := by
  unfold wld at h
  rw [List.getElem?_map] at h
  cases hc : cls[i]? with
  | none => rw [hc] at h; cases h
  | some z => rw [hc] at h; exact ⟨z, rfl, (Option.some.inj h).symm⟩
theorem wld_D {cy : Nat → ClassId} {adr : Nat → Nat → Nat} {A : Nat → Prop} (hj : Ij adr) (hA : ∀ q, Az adr q → A q) (S : St) : va_D A (wld cy adr S) := by
  refine ⟨fun i j p q h1 h2 h3 => ?_, fun i q h => ?_⟩
  · obtain ⟨z, c1, rfl⟩ := wld_at h1
    obtain ⟨z2, c2, rfl⟩ := wld_at h2
    have e := hj z (List.mem_of_getElem? c1) z2 (List.mem_of_getElem? c2) h3
    subst e
    exact nd_inj cls_nd c1 c2
  · obtain ⟨z, c1, rfl⟩ := wld_at h
    exact hA _ ⟨z, List.mem_of_getElem? c1, rfl⟩
theorem wld_in {cy : Nat → ClassId} {adr : Nat → Nat → Nat} {S : St} {a o : Nat} (h : (a, o) ∈ cls) : ∃ i : Nat, cls[i]? = some (a, o) ∧ (wld cy adr S)[i]? = some (adr a o, en cy adr a o (S a o)) := by
  obtain ⟨i, hi⟩ := List.getElem?_of_mem h
  refine ⟨i, hi, ?_⟩
  unfold wld
  rw [List.getElem?_map, hi]
  rfl
theorem wr_at (S : St) (a o i : Nat) (v : Int32) : wr S a o i v a o = upd (S a o) i v := if_pos ⟨rfl, rfl⟩
theorem wr_ne {S : St} {a o i : Nat} {v : Int32} {z : Nat × Nat} (h : z ≠ (a, o)) : wr S a o i v z.1 z.2 = S z.1 z.2 := if_neg (fun q => h (Prod.ext q.1 q.2))
theorem wld_set {cy : Nat → ClassId} {adr : Nat → Nat → Nat} {S : St} {a o i j : Nat} {v : Int32} {e : va_E} (hi : cls[i]? = some (a, o)) (he : en cy adr a o (upd (S a o) j v) = e) : (wld cy adr S).set i (adr a o, e) = wld cy adr (wr S a o j v) := by
  apply List.ext_getElem?
  intro n
  rw [List.getElem?_set]
  unfold wld
  rw [List.length_map, List.getElem?_map, List.getElem?_map]
  by_cases h : i = n
  · subst h
    rw [if_pos rfl, if_pos (List.getElem?_eq_some_iff.mp hi).1, hi]
    show some (adr a o, e) = some (adr a o, en cy adr a o (wr S a o j v a o))
    rw [wr_at, he]
  · rw [if_neg h]
    cases hc : cls[n]? with
    | none => rfl
    | some z =>
      have hz : z ≠ (a, o) := fun q => h (nd_inj cls_nd hi (q ▸ hc))
      show some (adr z.1 z.2, en cy adr z.1 z.2 (S z.1 z.2)) = some (adr z.1 z.2, en cy adr z.1 z.2 (wr S a o j v z.1 z.2))
      rw [wr_ne hz]
/-- the words that last -/
def tz : List Cond := lw_tbl.filter goodWord
theorem tz_in {w : Cond} (i : Nat) (h : lw_tbl[i]? = some w) (hg : goodWord w = true) : w ∈ tz := List.mem_filter.mpr ⟨List.mem_of_getElem? h, hg⟩
theorem tz_good {w : Cond} (h : w ∈ tz) : (w.onTables && w.keeps) = true ∨ ∃ ty, w = .arrayClass ty := good_of_word (List.mem_filter.mp h).2
theorem tz_ws {ws : List Cond} (ps : List Nat) (hp : ws = ps.filterMap (fun i => lw_tbl[i]?)) (hg : ws.all goodWord = true) : ∀ w ∈ ws, w ∈ tz := by
  intro w hw
  have h1 := List.all_eq_true.mp hg w hw
  rw [hp] at hw
  obtain ⟨i, -, hi⟩ := List.mem_filterMap.mp hw
  exact tz_in i hi h1
def wz (y : MethodName) (b : ByteArray) (n : Nat) (ret : Option FieldType) : List Cond := .code y b n ret :: tz
theorem gdV {own C : String} {idx n : Nat} {y : MethodName} {b : ByteArray} {ret : Option FieldType} (h1 : Cond.methodLink own idx y ∈ tz) (h2 : Cond.instanceMethod y ∈ tz) (h3 : Cond.selects C y y ∈ tz) (h4 : Cond.initialized C ∈ tz) (h5 : Cond.code y b n ret ∈ tz) : GoodIn tz (wsV own idx C y (wz y b n ret)) := by
  intro w hw
  have key : w ∈ tz := by
    unfold wsV wz at hw
    simp only [List.mem_append, List.mem_cons, List.not_mem_nil, or_false] at hw
    rcases hw with (rfl | rfl | rfl | rfl) | rfl | h
    · exact h1
    · exact h2
    · exact h3
    · exact h4
    · exact h5
    · exact h
  exact ⟨key, tz_good key⟩
theorem gdS {own : String} {idx n : Nat} {y : MethodName} {b : ByteArray} {ret : Option FieldType} (h1 : Cond.methodLink own idx y ∈ tz) (h2 : Cond.static y ∈ tz) (h4 : Cond.initialized y.cls ∈ tz) (h5 : Cond.code y b n ret ∈ tz) : GoodIn tz (va_wsS own idx y (wz y b n ret)) := by
  intro w hw
  have key : w ∈ tz := by
    unfold va_wsS wz at hw
    simp only [List.mem_append, List.mem_cons, List.not_mem_nil, or_false] at hw
    rcases hw with (rfl | rfl | rfl) | rfl | h
    · exact h1
    · exact h2
    · exact h4
    · exact h5
    · exact h
  exact ⟨key, tz_good key⟩
theorem gdZ {n : Nat} {y : MethodName} {b : ByteArray} {ret : Option FieldType} (h5 : Cond.code y b n ret ∈ tz) : GoodIn tz (wz y b n ret) := by
  intro w hw
  have key : w ∈ tz := by
    unfold wz at hw
    rcases List.mem_cons.mp hw with rfl | h
    · exact h5
    · exact h
  exact ⟨key, tz_good key⟩
theorem st_mmax : Cond.static Lib.Math.max.name ∈ tz := tz_in 477 (by decide +kernel) (by decide +kernel)
theorem cd_mmax : Cond.code Lib.Math.max.name Lib.Math.max.code 2 (some .int) ∈ tz := tz_in 478 (by decide +kernel) (by decide +kernel)
theorem st_mmin : Cond.static Lib.Math.min.name ∈ tz := tz_in 553 (by decide +kernel) (by decide +kernel)
theorem cd_mmin : Cond.code Lib.Math.min.name Lib.Math.min.code 2 (some .int) ∈ tz := tz_in 554 (by decide +kernel) (by decide +kernel)
theorem in_math : Cond.initialized "java/lang/Math" ∈ tz := tz_in 48 (by decide +kernel) (by decide +kernel)
/-- what stays the same while a method runs -/
abbrev KX : Type := Program × Launch × Env × Room × State × MethodId × Array Value × List Frame × Method × Code × Nat × Nat × Nat × (Int32 → St → State → Prop) × (Nat → Prop)
abbrev WX : Type := va_G × (Nat → ClassId)
def Nw (U : State) : Prop := va_Nw (.methodLinkNest RX8 102 yX10_isOutside RX10) U
def Ge (w : WX) (adr : Nat → Nat → Nat) (k : KX) (pc : Nat) (lv : List (Nat × Value)) (st : List Value) (S : St) (F : Op) : Prop := match k with
  | (p, l, e, R, s, m, args, below, meth, c, nL, kc, ks, Qf, A) => ∀ (r : Int32) (S2 : St), F = some (r, S2) → ∀ (H : Heap) (locs : List Loc) (ls : Array Slot), va_P w.1 vwCl (wld w.2 adr S) H → va_S A s.heap H locs → lv_has ls nL lv → W p l e R s m args below meth c H locs kc ks (Qf r S2) (F0 m pc ls st)
def Cx (w : WX) (adr : Nat → Nat → Nat) (k : KX) (cc : ByteArray) (own : String) (n fr lo : Nat) : Prop := match k with
  | (p, l, e, R, s, m, args, below, meth, c, nL, kc, ks, Qf, A) => p.tables.exec = Jvm.exec ∧ c.code = cc ∧ c.maxLocals = nL ∧ nL = n ∧ s.vm.findClass own = some m.cls ∧ (∀ x ∈ tz, x.before args s = true) ∧ va_K w.1 vwCl (tyl w.2) s ∧ Ij adr ∧ (∀ q, Az adr q → A q) ∧ Nw s ∧ kc ≤ R.cells ∧ ks ≤ R.slots ∧ fr ≤ R.frames ∧ lo ≤ R.locals
def Bz (w : WX) (adr : Nat → Nat → Nat) (S : St) (U : State) : Prop := va_P w.1 vwCl (wld w.2 adr S) U.heap ∧ va_K w.1 vwCl (tyl w.2) U ∧ Nw U
def Qi (w : WX) (adr : Nat → Nat → Nat) (r : Int32) (S : St) : Array Value → State → Outcome → State → Prop := va_Qi (fun (r2 : Int32) (u : St) => r2 = r ∧ u = S) (Bz w adr) (Az adr)
def Qv (w : WX) (adr : Nat → Nat → Nat) (S : St) : Array Value → State → Outcome → State → Prop := va_Qv (fun (u : St) => u = S) (Bz w adr) (Az adr)
def Mi (l : Launch) (w : WX) (adr : Nat → Nat → Nat) (y : MethodName) (b : ByteArray) (n : Nat) (ret : Option FieldType) (fr lo : Nat) (av : List Value) (S : St) (r : Int32) (S2 : St) : Prop := Met l y (wz y b n ret) { frames := fr, cells := 0, slots := 0, locals := lo } (va_Pc av (Bz w adr S)) (Qi w adr r S2) 0 0 (Az adr)
def Mv (l : Launch) (w : WX) (adr : Nat → Nat → Nat) (y : MethodName) (b : ByteArray) (n : Nat) (ret : Option FieldType) (fr lo : Nat) (av : List Value) (S : St) (S2 : St) : Prop := Met l y (wz y b n ret) { frames := fr, cells := 0, slots := 0, locals := lo } (va_Pc av (Bz w adr S)) (Qv w adr S2) 0 0 (Az adr)
/-- how it ends: an int (a boolean), or nothing -/
def Ri (w : WX) (adr : Nat → Nat → Nat) (k : KX) (ty : FieldType) : Prop := match k with
  | (p, l, e, R, s, m, args, below, meth, c, nL, kc, ks, Qf, A) => meth.sig.returnType = some ty ∧ meth.locks = false ∧ kc = 0 ∧ ks = 0 ∧ A = Az adr ∧ Qf = fun r S2 => MQ below (Qi w adr r S2) args s 0 0 (Az adr)
def Rv (w : WX) (adr : Nat → Nat → Nat) (k : KX) : Prop := match k with
  | (p, l, e, R, s, m, args, below, meth, c, nL, kc, ks, Qf, A) => meth.sig.returnType = none ∧ meth.locks = false ∧ kc = 0 ∧ ks = 0 ∧ A = Az adr ∧ Qf = fun _ S2 => MQ below (Qv w adr S2) args s 0 0 (Az adr)
theorem Nw.warm {s U : State} (hW : s.WarmedH U.vm) (h : Nw s) : Nw U := va_Nw.warmM hW h
theorem Nw.alike {s U : State} (h : s.vm = U.vm) (q : Nw s) : Nw U := va_Nw.same rfl h q
theorem bz_blind {w : WX} {adr : Nat → Nat → Nat} {S : St} {av : List Value} : FrameBlind (va_Pc av (Bz w adr S)) := by
  intro a U g mk q
  obtain ⟨q0, qP, qK, qN⟩ := q
  exact ⟨q0, qP, va_K.moved (u := U) (U := U.calling g mk a) (Vm.Alike.refl U.vm) qK, Nw.alike rfl qN⟩
section GE
variable {w : WX} {adr : Nat → Nat → Nat} {k : KX} {cc : ByteArray} {own : String} {nL fr lo : Nat} {pc n : Nat} {lv : List (Nat × Value)} {st : List Value} {S : St} {F : Op}
theorem ge_iconst (C : Cx w adr k cc own nL fr lo) {q : Int} {v : Int32} (hd : decode cc pc = .ok (.iconst q, 1)) (hv : Int32.ofInt q = v) (hn : pc + 1 = n) (kk : Ge w adr k n lv (.int v :: st) S F) : Ge w adr k pc lv (st) S F := by
  obtain ⟨p, l, e, R, s, m, args, below, meth, c, nL, kc, ks, Qf, A⟩ := k
  obtain ⟨hx, hb, hml, hnl, hown, hts, hK, hj, hA, hN, hkc, hks, hfr, hlo⟩ := C
  subst hn
  intro r S2 hF H locs ls hP hS hl
  exact lv_iconst hx hb hd hv (kk r S2 hF H locs ls hP hS hl)
theorem ge_bipush (C : Cx w adr k cc own nL fr lo) {q : Int} {v : Int32} (hd : decode cc pc = .ok (.bipush q, 2)) (hv : (Int8.ofInt q).toInt32 = v) (hn : pc + 2 = n) (kk : Ge w adr k n lv (.int v :: st) S F) : Ge w adr k pc lv (st) S F := by
  obtain ⟨p, l, e, R, s, m, args, below, meth, c, nL, kc, ks, Qf, A⟩ := k
  obtain ⟨hx, hb, hml, hnl, hown, hts, hK, hj, hA, hN, hkc, hks, hfr, hlo⟩ := C
  subst hn
  intro r S2 hF H locs ls hP hS hl
  exact lv_bipush hx hb hd hv (kk r S2 hF H locs ls hP hS hl)
theorem ge_sipush (C : Cx w adr k cc own nL fr lo) {q : Int} {v : Int32} (hd : decode cc pc = .ok (.sipush q, 3)) (hv : (Int16.ofInt q).toInt32 = v) (hn : pc + 3 = n) (kk : Ge w adr k n lv (.int v :: st) S F) : Ge w adr k pc lv (st) S F := by
  obtain ⟨p, l, e, R, s, m, args, below, meth, c, nL, kc, ks, Qf, A⟩ := k
  obtain ⟨hx, hb, hml, hnl, hown, hts, hK, hj, hA, hN, hkc, hks, hfr, hlo⟩ := C
  subst hn
  intro r S2 hF H locs ls hP hS hl
  exact lv_sipush hx hb hd hv (kk r S2 hF H locs ls hP hS hl)
theorem ge_lconst (C : Cx w adr k cc own nL fr lo) {q : Fin 2} {v : Int64} (hd : decode cc pc = .ok (.lconst q, 1)) (hv : Int64.ofNat (q : Nat) = v) (hn : pc + 1 = n) (kk : Ge w adr k n lv (.long v :: st) S F) : Ge w adr k pc lv (st) S F := by
  obtain ⟨p, l, e, R, s, m, args, below, meth, c, nL, kc, ks, Qf, A⟩ := k
  obtain ⟨hx, hb, hml, hnl, hown, hts, hK, hj, hA, hN, hkc, hks, hfr, hlo⟩ := C
  subst hn
  intro r S2 hF H locs ls hP hS hl
  exact lv_lconst hx hb hd hv (kk r S2 hF H locs ls hP hS hl)
theorem ge_ldc (C : Cx w adr k cc own nL fr lo) {i : Nat} {v : Int32} (hc : Cond.constant own i v ∈ tz) (hd : decode cc pc = .ok (.ldc i, 2)) (hn : pc + 2 = n) (kk : Ge w adr k n lv (.int v :: st) S F) : Ge w adr k pc lv (st) S F := by
  obtain ⟨p, l, e, R, s, m, args, below, meth, c, nL, kc, ks, Qf, A⟩ := k
  obtain ⟨hx, hb, hml, hnl, hown, hts, hK, hj, hA, hN, hkc, hks, hfr, hlo⟩ := C
  subst hn
  intro r S2 hF H locs ls hP hS hl
  exact lv_ldc hx hb hown (hts _ hc) hd (kk r S2 hF H locs ls hP hS hl)
theorem ge_ldcw (C : Cx w adr k cc own nL fr lo) {i : Nat} {v : Int32} (hc : Cond.constant own i v ∈ tz) (hd : decode cc pc = .ok (.ldc_w i, 3)) (hn : pc + 3 = n) (kk : Ge w adr k n lv (.int v :: st) S F) : Ge w adr k pc lv (st) S F := by
  obtain ⟨p, l, e, R, s, m, args, below, meth, c, nL, kc, ks, Qf, A⟩ := k
  obtain ⟨hx, hb, hml, hnl, hown, hts, hK, hj, hA, hN, hkc, hks, hfr, hlo⟩ := C
  subst hn
  intro r S2 hF H locs ls hP hS hl
  exact lv_ldcw hx hb hown (hts _ hc) hd (kk r S2 hF H locs ls hP hS hl)
theorem ge_ldc2 (C : Cx w adr k cc own nL fr lo) {i : Nat} {v : Int64} (hc : Cond.constantLong own i v ∈ tz) (hd : decode cc pc = .ok (.ldc2_w i, 3)) (hn : pc + 3 = n) (kk : Ge w adr k n lv (.long v :: st) S F) : Ge w adr k pc lv (st) S F := by
  obtain ⟨p, l, e, R, s, m, args, below, meth, c, nL, kc, ks, Qf, A⟩ := k
  obtain ⟨hx, hb, hml, hnl, hown, hts, hK, hj, hA, hN, hkc, hks, hfr, hlo⟩ := C
  subst hn
  intro r S2 hF H locs ls hP hS hl
  exact lv_ldc2 hx hb hown (hts _ hc) hd (kk r S2 hF H locs ls hP hS hl)
theorem ge_iload_n (C : Cx w adr k cc own nL fr lo) {q : Fin 4} {i : Nat} {x : Int32} (j : Nat) (hl : lv[j]? = some (i, .int x)) (hd : decode cc pc = .ok (.iload_n q, 1)) (hi : (q : Nat) = i) (hn : pc + 1 = n) (kk : Ge w adr k n lv (.int x :: st) S F) : Ge w adr k pc lv (st) S F := by
  obtain ⟨p, l, e, R, s, m, args, below, meth, c, nL, kc, ks, Qf, A⟩ := k
  obtain ⟨hx, hb, hml, hnl, hown, hts, hK, hj, hA, hN, hkc, hks, hfr, hlo⟩ := C
  subst hn
  intro r S2 hF H locs ls hP hS hl2
  exact lv_iload_n hx hb hd hi (lv_at hl2 j hl) (kk r S2 hF H locs ls hP hS hl2)
theorem ge_iload (C : Cx w adr k cc own nL fr lo) {i : Nat} {x : Int32} (j : Nat) (hl : lv[j]? = some (i, .int x)) (hd : decode cc pc = .ok (.iload i, 2)) (hn : pc + 2 = n) (kk : Ge w adr k n lv (.int x :: st) S F) : Ge w adr k pc lv (st) S F := by
  obtain ⟨p, l, e, R, s, m, args, below, meth, c, nL, kc, ks, Qf, A⟩ := k
  obtain ⟨hx, hb, hml, hnl, hown, hts, hK, hj, hA, hN, hkc, hks, hfr, hlo⟩ := C
  subst hn
  intro r S2 hF H locs ls hP hS hl2
  exact lv_iload hx hb hd (lv_at hl2 j hl) (kk r S2 hF H locs ls hP hS hl2)
theorem ge_lload_n (C : Cx w adr k cc own nL fr lo) {q : Fin 4} {i : Nat} {x : Int64} (j : Nat) (hl : lv[j]? = some (i, .long x)) (hd : decode cc pc = .ok (.lload_n q, 1)) (hi : (q : Nat) = i) (hn : pc + 1 = n) (kk : Ge w adr k n lv (.long x :: st) S F) : Ge w adr k pc lv (st) S F := by
  obtain ⟨p, l, e, R, s, m, args, below, meth, c, nL, kc, ks, Qf, A⟩ := k
  obtain ⟨hx, hb, hml, hnl, hown, hts, hK, hj, hA, hN, hkc, hks, hfr, hlo⟩ := C
  subst hn
  intro r S2 hF H locs ls hP hS hl2
  exact lv_lload_n hx hb hd hi (lv_at hl2 j hl) (kk r S2 hF H locs ls hP hS hl2)
theorem ge_lload (C : Cx w adr k cc own nL fr lo) {i : Nat} {x : Int64} (j : Nat) (hl : lv[j]? = some (i, .long x)) (hd : decode cc pc = .ok (.lload i, 2)) (hn : pc + 2 = n) (kk : Ge w adr k n lv (.long x :: st) S F) : Ge w adr k pc lv (st) S F := by
  obtain ⟨p, l, e, R, s, m, args, below, meth, c, nL, kc, ks, Qf, A⟩ := k
  obtain ⟨hx, hb, hml, hnl, hown, hts, hK, hj, hA, hN, hkc, hks, hfr, hlo⟩ := C
  subst hn
  intro r S2 hF H locs ls hP hS hl2
  exact lv_lload hx hb hd (lv_at hl2 j hl) (kk r S2 hF H locs ls hP hS hl2)
theorem ge_aload_n (C : Cx w adr k cc own nL fr lo) {q : Fin 4} {i : Nat} {x : Nat} (j : Nat) (hl : lv[j]? = some (i, .ref x)) (hd : decode cc pc = .ok (.aload_n q, 1)) (hi : (q : Nat) = i) (hn : pc + 1 = n) (kk : Ge w adr k n lv (.ref x :: st) S F) : Ge w adr k pc lv (st) S F := by
  obtain ⟨p, l, e, R, s, m, args, below, meth, c, nL, kc, ks, Qf, A⟩ := k
  obtain ⟨hx, hb, hml, hnl, hown, hts, hK, hj, hA, hN, hkc, hks, hfr, hlo⟩ := C
  subst hn
  intro r S2 hF H locs ls hP hS hl2
  exact lv_aload_n hx hb hd hi (lv_at hl2 j hl) (kk r S2 hF H locs ls hP hS hl2)
theorem ge_aload (C : Cx w adr k cc own nL fr lo) {i : Nat} {x : Nat} (j : Nat) (hl : lv[j]? = some (i, .ref x)) (hd : decode cc pc = .ok (.aload i, 2)) (hn : pc + 2 = n) (kk : Ge w adr k n lv (.ref x :: st) S F) : Ge w adr k pc lv (st) S F := by
  obtain ⟨p, l, e, R, s, m, args, below, meth, c, nL, kc, ks, Qf, A⟩ := k
  obtain ⟨hx, hb, hml, hnl, hown, hts, hK, hj, hA, hN, hkc, hks, hfr, hlo⟩ := C
  subst hn
  intro r S2 hF H locs ls hP hS hl2
  exact lv_aload hx hb hd (lv_at hl2 j hl) (kk r S2 hF H locs ls hP hS hl2)
theorem ge_iadd (C : Cx w adr k cc own nL fr lo) {x y : Int32} (hd : decode cc pc = .ok (.iadd, 1)) (hn : pc + 1 = n) (kk : Ge w adr k n lv (.int (x + y) :: st) S F) : Ge w adr k pc lv (.int y :: .int x :: st) S F := by
  obtain ⟨p, l, e, R, s, m, args, below, meth, c, nL, kc, ks, Qf, A⟩ := k
  obtain ⟨hx, hb, hml, hnl, hown, hts, hK, hj, hA, hN, hkc, hks, hfr, hlo⟩ := C
  subst hn
  intro r S2 hF H locs ls hP hS hl
  exact lv_iadd hx hb hd (kk r S2 hF H locs ls hP hS hl)
theorem ge_isub (C : Cx w adr k cc own nL fr lo) {x y : Int32} (hd : decode cc pc = .ok (.isub, 1)) (hn : pc + 1 = n) (kk : Ge w adr k n lv (.int (x - y) :: st) S F) : Ge w adr k pc lv (.int y :: .int x :: st) S F := by
  obtain ⟨p, l, e, R, s, m, args, below, meth, c, nL, kc, ks, Qf, A⟩ := k
  obtain ⟨hx, hb, hml, hnl, hown, hts, hK, hj, hA, hN, hkc, hks, hfr, hlo⟩ := C
  subst hn
  intro r S2 hF H locs ls hP hS hl
  exact lv_isub hx hb hd (kk r S2 hF H locs ls hP hS hl)
theorem ge_imul (C : Cx w adr k cc own nL fr lo) {x y : Int32} (hd : decode cc pc = .ok (.imul, 1)) (hn : pc + 1 = n) (kk : Ge w adr k n lv (.int (x * y) :: st) S F) : Ge w adr k pc lv (.int y :: .int x :: st) S F := by
  obtain ⟨p, l, e, R, s, m, args, below, meth, c, nL, kc, ks, Qf, A⟩ := k
  obtain ⟨hx, hb, hml, hnl, hown, hts, hK, hj, hA, hN, hkc, hks, hfr, hlo⟩ := C
  subst hn
  intro r S2 hF H locs ls hP hS hl
  exact lv_imul hx hb hd (kk r S2 hF H locs ls hP hS hl)
theorem ge_iand (C : Cx w adr k cc own nL fr lo) {x y : Int32} (hd : decode cc pc = .ok (.iand, 1)) (hn : pc + 1 = n) (kk : Ge w adr k n lv (.int (x &&& y) :: st) S F) : Ge w adr k pc lv (.int y :: .int x :: st) S F := by
  obtain ⟨p, l, e, R, s, m, args, below, meth, c, nL, kc, ks, Qf, A⟩ := k
  obtain ⟨hx, hb, hml, hnl, hown, hts, hK, hj, hA, hN, hkc, hks, hfr, hlo⟩ := C
  subst hn
  intro r S2 hF H locs ls hP hS hl
  exact lv_iand hx hb hd (kk r S2 hF H locs ls hP hS hl)
theorem ge_ior (C : Cx w adr k cc own nL fr lo) {x y : Int32} (hd : decode cc pc = .ok (.ior, 1)) (hn : pc + 1 = n) (kk : Ge w adr k n lv (.int (x ||| y) :: st) S F) : Ge w adr k pc lv (.int y :: .int x :: st) S F := by
  obtain ⟨p, l, e, R, s, m, args, below, meth, c, nL, kc, ks, Qf, A⟩ := k
  obtain ⟨hx, hb, hml, hnl, hown, hts, hK, hj, hA, hN, hkc, hks, hfr, hlo⟩ := C
  subst hn
  intro r S2 hF H locs ls hP hS hl
  exact lv_ior hx hb hd (kk r S2 hF H locs ls hP hS hl)
theorem ge_ixor (C : Cx w adr k cc own nL fr lo) {x y : Int32} (hd : decode cc pc = .ok (.ixor, 1)) (hn : pc + 1 = n) (kk : Ge w adr k n lv (.int (x ^^^ y) :: st) S F) : Ge w adr k pc lv (.int y :: .int x :: st) S F := by
  obtain ⟨p, l, e, R, s, m, args, below, meth, c, nL, kc, ks, Qf, A⟩ := k
  obtain ⟨hx, hb, hml, hnl, hown, hts, hK, hj, hA, hN, hkc, hks, hfr, hlo⟩ := C
  subst hn
  intro r S2 hF H locs ls hP hS hl
  exact lv_ixor hx hb hd (kk r S2 hF H locs ls hP hS hl)
theorem ge_ishl (C : Cx w adr k cc own nL fr lo) {x y : Int32} (hd : decode cc pc = .ok (.ishl, 1)) (hn : pc + 1 = n) (kk : Ge w adr k n lv (.int (x <<< (y &&& 31)) :: st) S F) : Ge w adr k pc lv (.int y :: .int x :: st) S F := by
  obtain ⟨p, l, e, R, s, m, args, below, meth, c, nL, kc, ks, Qf, A⟩ := k
  obtain ⟨hx, hb, hml, hnl, hown, hts, hK, hj, hA, hN, hkc, hks, hfr, hlo⟩ := C
  subst hn
  intro r S2 hF H locs ls hP hS hl
  exact lv_ishl hx hb hd (kk r S2 hF H locs ls hP hS hl)
theorem ge_ishr (C : Cx w adr k cc own nL fr lo) {x y : Int32} (hd : decode cc pc = .ok (.ishr, 1)) (hn : pc + 1 = n) (kk : Ge w adr k n lv (.int (x >>> (y &&& 31)) :: st) S F) : Ge w adr k pc lv (.int y :: .int x :: st) S F := by
  obtain ⟨p, l, e, R, s, m, args, below, meth, c, nL, kc, ks, Qf, A⟩ := k
  obtain ⟨hx, hb, hml, hnl, hown, hts, hK, hj, hA, hN, hkc, hks, hfr, hlo⟩ := C
  subst hn
  intro r S2 hF H locs ls hP hS hl
  exact lv_ishr hx hb hd (kk r S2 hF H locs ls hP hS hl)
theorem ge_ladd (C : Cx w adr k cc own nL fr lo) {x y : Int64} (hd : decode cc pc = .ok (.ladd, 1)) (hn : pc + 1 = n) (kk : Ge w adr k n lv (.long (x + y) :: st) S F) : Ge w adr k pc lv (.long y :: .long x :: st) S F := by
  obtain ⟨p, l, e, R, s, m, args, below, meth, c, nL, kc, ks, Qf, A⟩ := k
  obtain ⟨hx, hb, hml, hnl, hown, hts, hK, hj, hA, hN, hkc, hks, hfr, hlo⟩ := C
  subst hn
  intro r S2 hF H locs ls hP hS hl
  exact lv_ladd hx hb hd (kk r S2 hF H locs ls hP hS hl)
theorem ge_lmul (C : Cx w adr k cc own nL fr lo) {x y : Int64} (hd : decode cc pc = .ok (.lmul, 1)) (hn : pc + 1 = n) (kk : Ge w adr k n lv (.long (x * y) :: st) S F) : Ge w adr k pc lv (.long y :: .long x :: st) S F := by
  obtain ⟨p, l, e, R, s, m, args, below, meth, c, nL, kc, ks, Qf, A⟩ := k
  obtain ⟨hx, hb, hml, hnl, hown, hts, hK, hj, hA, hN, hkc, hks, hfr, hlo⟩ := C
  subst hn
  intro r S2 hF H locs ls hP hS hl
  exact lv_lmul hx hb hd (kk r S2 hF H locs ls hP hS hl)
theorem ge_land (C : Cx w adr k cc own nL fr lo) {x y : Int64} (hd : decode cc pc = .ok (.land, 1)) (hn : pc + 1 = n) (kk : Ge w adr k n lv (.long (x &&& y) :: st) S F) : Ge w adr k pc lv (.long y :: .long x :: st) S F := by
  obtain ⟨p, l, e, R, s, m, args, below, meth, c, nL, kc, ks, Qf, A⟩ := k
  obtain ⟨hx, hb, hml, hnl, hown, hts, hK, hj, hA, hN, hkc, hks, hfr, hlo⟩ := C
  subst hn
  intro r S2 hF H locs ls hP hS hl
  exact lv_land hx hb hd (kk r S2 hF H locs ls hP hS hl)
theorem ge_ldiv (C : Cx w adr k cc own nL fr lo) {x y : Int64} (h0 : ¬ y = 0) (hd : decode cc pc = .ok (.ldiv, 1)) (hn : pc + 1 = n) (kk : Ge w adr k n lv (.long (x / y) :: st) S F) : Ge w adr k pc lv (.long y :: .long x :: st) S F := by
  obtain ⟨p, l, e, R, s, m, args, below, meth, c, nL, kc, ks, Qf, A⟩ := k
  obtain ⟨hx, hb, hml, hnl, hown, hts, hK, hj, hA, hN, hkc, hks, hfr, hlo⟩ := C
  subst hn
  intro r S2 hF H locs ls hP hS hl
  exact lv_ldiv hx hb hd h0 (kk r S2 hF H locs ls hP hS hl)
theorem ge_lrem (C : Cx w adr k cc own nL fr lo) {x y : Int64} (h0 : ¬ y = 0) (hd : decode cc pc = .ok (.lrem, 1)) (hn : pc + 1 = n) (kk : Ge w adr k n lv (.long (lrm x y) :: st) S F) : Ge w adr k pc lv (.long y :: .long x :: st) S F := by
  obtain ⟨p, l, e, R, s, m, args, below, meth, c, nL, kc, ks, Qf, A⟩ := k
  obtain ⟨hx, hb, hml, hnl, hown, hts, hK, hj, hA, hN, hkc, hks, hfr, hlo⟩ := C
  subst hn
  intro r S2 hF H locs ls hP hS hl
  exact lv_lrem hx hb hd h0 (kk r S2 hF H locs ls hP hS hl)
theorem ge_idiv0 (C : Cx w adr k cc own nL fr lo) {x y : Int32} (h0 : ¬ y = 0) (hd : decode cc pc = .ok (.idiv, 1)) (hn : pc + 1 = n) (kk : Ge w adr k n lv (.int (x / y) :: st) S F) : Ge w adr k pc lv (.int y :: .int x :: st) S F := by
  obtain ⟨p, l, e, R, s, m, args, below, meth, c, nL, kc, ks, Qf, A⟩ := k
  obtain ⟨hx, hb, hml, hnl, hown, hts, hK, hj, hA, hN, hkc, hks, hfr, hlo⟩ := C
  subst hn
  intro r S2 hF H locs ls hP hS hl
  exact lv_idiv hx hb hd h0 (kk r S2 hF H locs ls hP hS hl)
theorem ge_irem0 (C : Cx w adr k cc own nL fr lo) {x y : Int32} (h0 : ¬ y = 0) (hd : decode cc pc = .ok (.irem, 1)) (hn : pc + 1 = n) (kk : Ge w adr k n lv (.int (irm x y) :: st) S F) : Ge w adr k pc lv (.int y :: .int x :: st) S F := by
  obtain ⟨p, l, e, R, s, m, args, below, meth, c, nL, kc, ks, Qf, A⟩ := k
  obtain ⟨hx, hb, hml, hnl, hown, hts, hK, hj, hA, hN, hkc, hks, hfr, hlo⟩ := C
  subst hn
  intro r S2 hF H locs ls hP hS hl
  exact lv_irem hx hb hd h0 (kk r S2 hF H locs ls hP hS hl)
theorem ge_iushr (C : Cx w adr k cc own nL fr lo) {x y : Int32} (hd : decode cc pc = .ok (.iushr, 1)) (hn : pc + 1 = n) (kk : Ge w adr k n lv (.int (ius x y) :: st) S F) : Ge w adr k pc lv (.int y :: .int x :: st) S F := by
  obtain ⟨p, l, e, R, s, m, args, below, meth, c, nL, kc, ks, Qf, A⟩ := k
  obtain ⟨hx, hb, hml, hnl, hown, hts, hK, hj, hA, hN, hkc, hks, hfr, hlo⟩ := C
  subst hn
  intro r S2 hF H locs ls hP hS hl
  exact lv_iushr hx hb hd rfl (kk r S2 hF H locs ls hP hS hl)
theorem ge_i2l (C : Cx w adr k cc own nL fr lo) {x : Int32} (hd : decode cc pc = .ok (.i2l, 1)) (hn : pc + 1 = n) (kk : Ge w adr k n lv (.long x.toInt64 :: st) S F) : Ge w adr k pc lv (.int x :: st) S F := by
  obtain ⟨p, l, e, R, s, m, args, below, meth, c, nL, kc, ks, Qf, A⟩ := k
  obtain ⟨hx, hb, hml, hnl, hown, hts, hK, hj, hA, hN, hkc, hks, hfr, hlo⟩ := C
  subst hn
  intro r S2 hF H locs ls hP hS hl
  exact lv_i2l hx hb hd rfl (kk r S2 hF H locs ls hP hS hl)
theorem ge_l2i (C : Cx w adr k cc own nL fr lo) {x : Int64} (hd : decode cc pc = .ok (.l2i, 1)) (hn : pc + 1 = n) (kk : Ge w adr k n lv (.int x.toInt32 :: st) S F) : Ge w adr k pc lv (.long x :: st) S F := by
  obtain ⟨p, l, e, R, s, m, args, below, meth, c, nL, kc, ks, Qf, A⟩ := k
  obtain ⟨hx, hb, hml, hnl, hown, hts, hK, hj, hA, hN, hkc, hks, hfr, hlo⟩ := C
  subst hn
  intro r S2 hF H locs ls hP hS hl
  exact lv_l2i hx hb hd rfl (kk r S2 hF H locs ls hP hS hl)
theorem ge_lcmp (C : Cx w adr k cc own nL fr lo) {x y : Int64} (hd : decode cc pc = .ok (.lcmp, 1)) (hn : pc + 1 = n) (kk : Ge w adr k n lv (.int (lg_cmp x y) :: st) S F) : Ge w adr k pc lv (.long y :: .long x :: st) S F := by
  obtain ⟨p, l, e, R, s, m, args, below, meth, c, nL, kc, ks, Qf, A⟩ := k
  obtain ⟨hx, hb, hml, hnl, hown, hts, hK, hj, hA, hN, hkc, hks, hfr, hlo⟩ := C
  subst hn
  intro r S2 hF H locs ls hP hS hl
  exact W.lcmp hx hb hd (kk r S2 hF H locs ls hP hS hl)
theorem ge_dup (C : Cx w adr k cc own nL fr lo) {v : Value} (hd : decode cc pc = .ok (.dup, 1)) (hv : v.category = 1) (hn : pc + 1 = n) (kk : Ge w adr k n lv (v :: v :: st) S F) : Ge w adr k pc lv (v :: st) S F := by
  obtain ⟨p, l, e, R, s, m, args, below, meth, c, nL, kc, ks, Qf, A⟩ := k
  obtain ⟨hx, hb, hml, hnl, hown, hts, hK, hj, hA, hN, hkc, hks, hfr, hlo⟩ := C
  subst hn
  intro r S2 hF H locs ls hP hS hl
  exact lv_dup hx hb hd hv (kk r S2 hF H locs ls hP hS hl)
theorem ge_dup2 (C : Cx w adr k cc own nL fr lo) {v u : Value} (hd : decode cc pc = .ok (.dup2, 1)) (hv : v.category = 1) (hu : u.category = 1) (hn : pc + 1 = n) (kk : Ge w adr k n lv (v :: u :: v :: u :: st) S F) : Ge w adr k pc lv (v :: u :: st) S F := by
  obtain ⟨p, l, e, R, s, m, args, below, meth, c, nL, kc, ks, Qf, A⟩ := k
  obtain ⟨hx, hb, hml, hnl, hown, hts, hK, hj, hA, hN, hkc, hks, hfr, hlo⟩ := C
  subst hn
  intro r S2 hF H locs ls hP hS hl
  exact lv_dup2_11 hx hb hd hv hu (kk r S2 hF H locs ls hP hS hl)
theorem ge_pop (C : Cx w adr k cc own nL fr lo) {v : Value} (hd : decode cc pc = .ok (.pop, 1)) (hv : v.category = 1) (hn : pc + 1 = n) (kk : Ge w adr k n lv (st) S F) : Ge w adr k pc lv (v :: st) S F := by
  obtain ⟨p, l, e, R, s, m, args, below, meth, c, nL, kc, ks, Qf, A⟩ := k
  obtain ⟨hx, hb, hml, hnl, hown, hts, hK, hj, hA, hN, hkc, hks, hfr, hlo⟩ := C
  subst hn
  intro r S2 hF H locs ls hP hS hl
  exact lv_pop hx hb hd hv (kk r S2 hF H locs ls hP hS hl)
theorem ge_mmax (C : Cx w adr k cc own nL fr lo) {x y : Int32} {i : Nat} (hl : Cond.methodLink own i Lib.Math.max.name ∈ tz) (h1 : 1 ≤ fr) (h2 : (st.map fun v => v.category).sum + 13 ≤ lo) (hd : decode cc pc = .ok (.invokestatic i, 3)) (hn : pc + 3 = n) (kk : Ge w adr k n lv (.int (imax x y) :: st) S F) : Ge w adr k pc lv (.int y :: .int x :: st) S F := by
  obtain ⟨p, l, e, R, s, m, args, below, meth, c, nL, kc, ks, Qf, A⟩ := k
  obtain ⟨hx, hb, hml, hnl, hown, hts, hK, hj, hA, hN, hkc, hks, hfr, hlo⟩ := C
  subst hn
  intro r S2 hF H locs ls hP hS hl2
  exact va_mmax hx hb (by rw [hml, hnl]; exact (hl2.1.trans hnl).symm) hown (hts _ hl) (hts _ st_mmax) (hts _ in_math) (hts _ cd_mmax) (Nat.le_trans h1 hfr) (Nat.le_trans h2 hlo) hkc hks hd (kk r S2 hF H locs ls hP hS hl2)
theorem ge_mmin (C : Cx w adr k cc own nL fr lo) {x y : Int32} {i : Nat} (hl : Cond.methodLink own i Lib.Math.min.name ∈ tz) (h1 : 1 ≤ fr) (h2 : (st.map fun v => v.category).sum + 13 ≤ lo) (hd : decode cc pc = .ok (.invokestatic i, 3)) (hn : pc + 3 = n) (kk : Ge w adr k n lv (.int (imin x y) :: st) S F) : Ge w adr k pc lv (.int y :: .int x :: st) S F := by
  obtain ⟨p, l, e, R, s, m, args, below, meth, c, nL, kc, ks, Qf, A⟩ := k
  obtain ⟨hx, hb, hml, hnl, hown, hts, hK, hj, hA, hN, hkc, hks, hfr, hlo⟩ := C
  subst hn
  intro r S2 hF H locs ls hP hS hl2
  exact va_mmin hx hb (by rw [hml, hnl]; exact (hl2.1.trans hnl).symm) hown (hts _ hl) (hts _ st_mmin) (hts _ in_math) (hts _ cd_mmin) (Nat.le_trans h1 hfr) (Nat.le_trans h2 hlo) hkc hks hd (kk r S2 hF H locs ls hP hS hl2)
theorem ge_goto (C : Cx w adr k cc own nL fr lo) {off : Int} (hd : decode cc pc = .ok (.goto off, 3)) (hn : (pc : Int) + off = (n : Int)) (kk : Ge w adr k n lv st S F) : Ge w adr k pc lv st S F := by
  obtain ⟨p, l, e, R, s, m, args, below, meth, c, nL, kc, ks, Qf, A⟩ := k
  obtain ⟨hx, hb, hml, hnl, hown, hts, hK, hj, hA, hN, hkc, hks, hfr, hlo⟩ := C
  intro r S2 hF H locs ls hP hS hl
  exact lv_goto hx hb hd hn (kk r S2 hF H locs ls hP hS hl)
theorem ge_icmp_eq (C : Cx w adr k cc own nL fr lo) {t : Nat} {off : Int} {A1 A2 : Op} {x y : Int32} (hd : decode cc pc = .ok (.if_icmp .eq off, 3)) (ht : (pc : Int) + off = (t : Int)) (hn : pc + 3 = n) (kt : x = y → Ge w adr k t lv st S A1) (kf : ¬ x = y → Ge w adr k n lv st S A2) : Ge w adr k pc lv (.int y :: .int x :: st) S (if x = y then A1 else A2) := by
  obtain ⟨p, l, e, R, s, m, args, below, meth, c, nL, kc, ks, Qf, A⟩ := k
  obtain ⟨hx, hb, hml, hnl, hown, hts, hK, hj, hA, hN, hkc, hks, hfr, hlo⟩ := C
  subst hn
  intro r S2 hF H locs ls hP hS hl
  refine lv_icmp_eq hx hb hd ht (fun h => kt h r S2 (by rw [if_pos h] at hF; exact hF) H locs ls hP hS hl) (fun h => kf h r S2 (by rw [if_neg h] at hF; exact hF) H locs ls hP hS hl)
theorem ge_icmp_ne (C : Cx w adr k cc own nL fr lo) {t : Nat} {off : Int} {A1 A2 : Op} {x y : Int32} (hd : decode cc pc = .ok (.if_icmp .ne off, 3)) (ht : (pc : Int) + off = (t : Int)) (hn : pc + 3 = n) (kt : ¬ x = y → Ge w adr k t lv st S A1) (kf : x = y → Ge w adr k n lv st S A2) : Ge w adr k pc lv (.int y :: .int x :: st) S (if x = y then A2 else A1) := by
  obtain ⟨p, l, e, R, s, m, args, below, meth, c, nL, kc, ks, Qf, A⟩ := k
  obtain ⟨hx, hb, hml, hnl, hown, hts, hK, hj, hA, hN, hkc, hks, hfr, hlo⟩ := C
  subst hn
  intro r S2 hF H locs ls hP hS hl
  refine lv_icmp_ne hx hb hd ht (fun h => kt h r S2 (by rw [if_neg h] at hF; exact hF) H locs ls hP hS hl) (fun h => kf h r S2 (by rw [if_pos h] at hF; exact hF) H locs ls hP hS hl)
theorem ge_icmp_lt (C : Cx w adr k cc own nL fr lo) {t : Nat} {off : Int} {A1 A2 : Op} {x y : Int32} (hd : decode cc pc = .ok (.if_icmp .lt off, 3)) (ht : (pc : Int) + off = (t : Int)) (hn : pc + 3 = n) (kt : x < y → Ge w adr k t lv st S A1) (kf : ¬ x < y → Ge w adr k n lv st S A2) : Ge w adr k pc lv (.int y :: .int x :: st) S (if x < y then A1 else A2) := by
  obtain ⟨p, l, e, R, s, m, args, below, meth, c, nL, kc, ks, Qf, A⟩ := k
  obtain ⟨hx, hb, hml, hnl, hown, hts, hK, hj, hA, hN, hkc, hks, hfr, hlo⟩ := C
  subst hn
  intro r S2 hF H locs ls hP hS hl
  refine lv_icmp_lt hx hb hd ht (fun h => kt h r S2 (by rw [if_pos h] at hF; exact hF) H locs ls hP hS hl) (fun h => kf h r S2 (by rw [if_neg h] at hF; exact hF) H locs ls hP hS hl)
theorem ge_icmp_ge (C : Cx w adr k cc own nL fr lo) {t : Nat} {off : Int} {A1 A2 : Op} {x y : Int32} (hd : decode cc pc = .ok (.if_icmp .ge off, 3)) (ht : (pc : Int) + off = (t : Int)) (hn : pc + 3 = n) (kt : y ≤ x → Ge w adr k t lv st S A1) (kf : ¬ y ≤ x → Ge w adr k n lv st S A2) : Ge w adr k pc lv (.int y :: .int x :: st) S (if y ≤ x then A1 else A2) := by
  obtain ⟨p, l, e, R, s, m, args, below, meth, c, nL, kc, ks, Qf, A⟩ := k
  obtain ⟨hx, hb, hml, hnl, hown, hts, hK, hj, hA, hN, hkc, hks, hfr, hlo⟩ := C
  subst hn
  intro r S2 hF H locs ls hP hS hl
  refine lv_icmp_ge hx hb hd ht (fun h => kt h r S2 (by rw [if_pos h] at hF; exact hF) H locs ls hP hS hl) (fun h => kf h r S2 (by rw [if_neg h] at hF; exact hF) H locs ls hP hS hl)
theorem ge_icmp_gt (C : Cx w adr k cc own nL fr lo) {t : Nat} {off : Int} {A1 A2 : Op} {x y : Int32} (hd : decode cc pc = .ok (.if_icmp .gt off, 3)) (ht : (pc : Int) + off = (t : Int)) (hn : pc + 3 = n) (kt : y < x → Ge w adr k t lv st S A1) (kf : ¬ y < x → Ge w adr k n lv st S A2) : Ge w adr k pc lv (.int y :: .int x :: st) S (if y < x then A1 else A2) := by
  obtain ⟨p, l, e, R, s, m, args, below, meth, c, nL, kc, ks, Qf, A⟩ := k
  obtain ⟨hx, hb, hml, hnl, hown, hts, hK, hj, hA, hN, hkc, hks, hfr, hlo⟩ := C
  subst hn
  intro r S2 hF H locs ls hP hS hl
  refine lv_icmp_gt hx hb hd ht (fun h => kt h r S2 (by rw [if_pos h] at hF; exact hF) H locs ls hP hS hl) (fun h => kf h r S2 (by rw [if_neg h] at hF; exact hF) H locs ls hP hS hl)
theorem ge_icmp_le (C : Cx w adr k cc own nL fr lo) {t : Nat} {off : Int} {A1 A2 : Op} {x y : Int32} (hd : decode cc pc = .ok (.if_icmp .le off, 3)) (ht : (pc : Int) + off = (t : Int)) (hn : pc + 3 = n) (kt : x ≤ y → Ge w adr k t lv st S A1) (kf : ¬ x ≤ y → Ge w adr k n lv st S A2) : Ge w adr k pc lv (.int y :: .int x :: st) S (if x ≤ y then A1 else A2) := by
  obtain ⟨p, l, e, R, s, m, args, below, meth, c, nL, kc, ks, Qf, A⟩ := k
  obtain ⟨hx, hb, hml, hnl, hown, hts, hK, hj, hA, hN, hkc, hks, hfr, hlo⟩ := C
  subst hn
  intro r S2 hF H locs ls hP hS hl
  refine lv_icmp_le hx hb hd ht (fun h => kt h r S2 (by rw [if_pos h] at hF; exact hF) H locs ls hP hS hl) (fun h => kf h r S2 (by rw [if_neg h] at hF; exact hF) H locs ls hP hS hl)
theorem ge_if_eq (C : Cx w adr k cc own nL fr lo) {t : Nat} {off : Int} {A1 A2 : Op} {x : Int32} (hd : decode cc pc = .ok (.ifCond .eq off, 3)) (ht : (pc : Int) + off = (t : Int)) (hn : pc + 3 = n) (kt : x = 0 → Ge w adr k t lv st S A1) (kf : ¬ x = 0 → Ge w adr k n lv st S A2) : Ge w adr k pc lv (.int x :: st) S (if x = 0 then A1 else A2) := by
  obtain ⟨p, l, e, R, s, m, args, below, meth, c, nL, kc, ks, Qf, A⟩ := k
  obtain ⟨hx, hb, hml, hnl, hown, hts, hK, hj, hA, hN, hkc, hks, hfr, hlo⟩ := C
  subst hn
  intro r S2 hF H locs ls hP hS hl
  refine lv_if_eq hx hb hd ht (fun h => kt h r S2 (by rw [if_pos h] at hF; exact hF) H locs ls hP hS hl) (fun h => kf h r S2 (by rw [if_neg h] at hF; exact hF) H locs ls hP hS hl)
theorem ge_if_ne (C : Cx w adr k cc own nL fr lo) {t : Nat} {off : Int} {A1 A2 : Op} {x : Int32} (hd : decode cc pc = .ok (.ifCond .ne off, 3)) (ht : (pc : Int) + off = (t : Int)) (hn : pc + 3 = n) (kt : ¬ x = 0 → Ge w adr k t lv st S A1) (kf : x = 0 → Ge w adr k n lv st S A2) : Ge w adr k pc lv (.int x :: st) S (if x = 0 then A2 else A1) := by
  obtain ⟨p, l, e, R, s, m, args, below, meth, c, nL, kc, ks, Qf, A⟩ := k
  obtain ⟨hx, hb, hml, hnl, hown, hts, hK, hj, hA, hN, hkc, hks, hfr, hlo⟩ := C
  subst hn
  intro r S2 hF H locs ls hP hS hl
  refine lv_if_ne hx hb hd ht (fun h => kt h r S2 (by rw [if_neg h] at hF; exact hF) H locs ls hP hS hl) (fun h => kf h r S2 (by rw [if_pos h] at hF; exact hF) H locs ls hP hS hl)
theorem ge_if_lt (C : Cx w adr k cc own nL fr lo) {t : Nat} {off : Int} {A1 A2 : Op} {x : Int32} (hd : decode cc pc = .ok (.ifCond .lt off, 3)) (ht : (pc : Int) + off = (t : Int)) (hn : pc + 3 = n) (kt : x < 0 → Ge w adr k t lv st S A1) (kf : ¬ x < 0 → Ge w adr k n lv st S A2) : Ge w adr k pc lv (.int x :: st) S (if x < 0 then A1 else A2) := by
  obtain ⟨p, l, e, R, s, m, args, below, meth, c, nL, kc, ks, Qf, A⟩ := k
  obtain ⟨hx, hb, hml, hnl, hown, hts, hK, hj, hA, hN, hkc, hks, hfr, hlo⟩ := C
  subst hn
  intro r S2 hF H locs ls hP hS hl
  refine lv_if_lt hx hb hd ht (fun h => kt h r S2 (by rw [if_pos h] at hF; exact hF) H locs ls hP hS hl) (fun h => kf h r S2 (by rw [if_neg h] at hF; exact hF) H locs ls hP hS hl)
theorem ge_if_ge (C : Cx w adr k cc own nL fr lo) {t : Nat} {off : Int} {A1 A2 : Op} {x : Int32} (hd : decode cc pc = .ok (.ifCond .ge off, 3)) (ht : (pc : Int) + off = (t : Int)) (hn : pc + 3 = n) (kt : 0 ≤ x → Ge w adr k t lv st S A1) (kf : ¬ 0 ≤ x → Ge w adr k n lv st S A2) : Ge w adr k pc lv (.int x :: st) S (if 0 ≤ x then A1 else A2) := by
  obtain ⟨p, l, e, R, s, m, args, below, meth, c, nL, kc, ks, Qf, A⟩ := k
  obtain ⟨hx, hb, hml, hnl, hown, hts, hK, hj, hA, hN, hkc, hks, hfr, hlo⟩ := C
  subst hn
  intro r S2 hF H locs ls hP hS hl
  refine lv_if_ge hx hb hd ht (fun h => kt h r S2 (by rw [if_pos h] at hF; exact hF) H locs ls hP hS hl) (fun h => kf h r S2 (by rw [if_neg h] at hF; exact hF) H locs ls hP hS hl)
theorem ge_if_gt (C : Cx w adr k cc own nL fr lo) {t : Nat} {off : Int} {A1 A2 : Op} {x : Int32} (hd : decode cc pc = .ok (.ifCond .gt off, 3)) (ht : (pc : Int) + off = (t : Int)) (hn : pc + 3 = n) (kt : 0 < x → Ge w adr k t lv st S A1) (kf : ¬ 0 < x → Ge w adr k n lv st S A2) : Ge w adr k pc lv (.int x :: st) S (if 0 < x then A1 else A2) := by
  obtain ⟨p, l, e, R, s, m, args, below, meth, c, nL, kc, ks, Qf, A⟩ := k
  obtain ⟨hx, hb, hml, hnl, hown, hts, hK, hj, hA, hN, hkc, hks, hfr, hlo⟩ := C
  subst hn
  intro r S2 hF H locs ls hP hS hl
  refine lv_if_gt hx hb hd ht (fun h => kt h r S2 (by rw [if_pos h] at hF; exact hF) H locs ls hP hS hl) (fun h => kf h r S2 (by rw [if_neg h] at hF; exact hF) H locs ls hP hS hl)
theorem ge_if_le (C : Cx w adr k cc own nL fr lo) {t : Nat} {off : Int} {A1 A2 : Op} {x : Int32} (hd : decode cc pc = .ok (.ifCond .le off, 3)) (ht : (pc : Int) + off = (t : Int)) (hn : pc + 3 = n) (kt : x ≤ 0 → Ge w adr k t lv st S A1) (kf : ¬ x ≤ 0 → Ge w adr k n lv st S A2) : Ge w adr k pc lv (.int x :: st) S (if x ≤ 0 then A1 else A2) := by
  obtain ⟨p, l, e, R, s, m, args, below, meth, c, nL, kc, ks, Qf, A⟩ := k
  obtain ⟨hx, hb, hml, hnl, hown, hts, hK, hj, hA, hN, hkc, hks, hfr, hlo⟩ := C
  subst hn
  intro r S2 hF H locs ls hP hS hl
  refine lv_if_le hx hb hd ht (fun h => kt h r S2 (by rw [if_pos h] at hF; exact hF) H locs ls hP hS hl) (fun h => kf h r S2 (by rw [if_neg h] at hF; exact hF) H locs ls hP hS hl)
theorem ge_istore_n (C : Cx w adr k cc own nL fr lo) {q0 : Fin 4} {i : Nat} {x : Int32} {lv2 : List (Nat × Value)} (hd : decode cc pc = .ok (.istore_n q0, 1)) (hn : pc + 1 = n) (hi : (q0 : Nat) = i) (hb0 : i < nL) (hl0 : (i, Value.int x) :: lv.filter (fun q => !(q.1 == i) && !(q.1 + 1 == i && q.2.category == 2)) = lv2) (kk : Ge w adr k n lv2 st S F) : Ge w adr k pc lv (.int x :: st) S F := by
  obtain ⟨p, l, e, R, s, m, args, below, meth, c, nL, kc, ks, Qf, A⟩ := k
  obtain ⟨hx, hb, hml, hnl, hown, hts, hK, hj, hA, hN, hkc, hks, hfr, hlo⟩ := C
  subst hn
  subst hnl
  intro r S2 hF H locs ls hP hS hl
  exact lv_istore_n hx hb hd hi hl hb0 hl0 (fun ls2 hl2 => kk r S2 hF H locs ls2 hP hS hl2)
theorem ge_istore (C : Cx w adr k cc own nL fr lo) {i : Nat} {x : Int32} {lv2 : List (Nat × Value)} (hd : decode cc pc = .ok (.istore i, 2)) (hn : pc + 2 = n) (hb0 : i < nL) (hl0 : (i, Value.int x) :: lv.filter (fun q => !(q.1 == i) && !(q.1 + 1 == i && q.2.category == 2)) = lv2) (kk : Ge w adr k n lv2 st S F) : Ge w adr k pc lv (.int x :: st) S F := by
  obtain ⟨p, l, e, R, s, m, args, below, meth, c, nL, kc, ks, Qf, A⟩ := k
  obtain ⟨hx, hb, hml, hnl, hown, hts, hK, hj, hA, hN, hkc, hks, hfr, hlo⟩ := C
  subst hn
  subst hnl
  intro r S2 hF H locs ls hP hS hl
  exact lv_istore hx hb hd hl hb0 hl0 (fun ls2 hl2 => kk r S2 hF H locs ls2 hP hS hl2)
theorem ge_astore_n (C : Cx w adr k cc own nL fr lo) {q0 : Fin 4} {i : Nat} {x : Nat} {lv2 : List (Nat × Value)} (hd : decode cc pc = .ok (.astore_n q0, 1)) (hn : pc + 1 = n) (hi : (q0 : Nat) = i) (hb0 : i < nL) (hl0 : (i, Value.ref x) :: lv.filter (fun q => !(q.1 == i) && !(q.1 + 1 == i && q.2.category == 2)) = lv2) (kk : Ge w adr k n lv2 st S F) : Ge w adr k pc lv (.ref x :: st) S F := by
  obtain ⟨p, l, e, R, s, m, args, below, meth, c, nL, kc, ks, Qf, A⟩ := k
  obtain ⟨hx, hb, hml, hnl, hown, hts, hK, hj, hA, hN, hkc, hks, hfr, hlo⟩ := C
  subst hn
  subst hnl
  intro r S2 hF H locs ls hP hS hl
  exact lv_astore_n hx hb hd hi hl hb0 hl0 (fun ls2 hl2 => kk r S2 hF H locs ls2 hP hS hl2)
theorem ge_astore (C : Cx w adr k cc own nL fr lo) {i : Nat} {x : Nat} {lv2 : List (Nat × Value)} (hd : decode cc pc = .ok (.astore i, 2)) (hn : pc + 2 = n) (hb0 : i < nL) (hl0 : (i, Value.ref x) :: lv.filter (fun q => !(q.1 == i) && !(q.1 + 1 == i && q.2.category == 2)) = lv2) (kk : Ge w adr k n lv2 st S F) : Ge w adr k pc lv (.ref x :: st) S F := by
  obtain ⟨p, l, e, R, s, m, args, below, meth, c, nL, kc, ks, Qf, A⟩ := k
  obtain ⟨hx, hb, hml, hnl, hown, hts, hK, hj, hA, hN, hkc, hks, hfr, hlo⟩ := C
  subst hn
  subst hnl
  intro r S2 hF H locs ls hP hS hl
  exact lv_astore hx hb hd hl hb0 hl0 (fun ls2 hl2 => kk r S2 hF H locs ls2 hP hS hl2)
theorem ge_lstore_n (C : Cx w adr k cc own nL fr lo) {q0 : Fin 4} {i : Nat} {x : Int64} {lv2 : List (Nat × Value)} (hd : decode cc pc = .ok (.lstore_n q0, 1)) (hn : pc + 1 = n) (hi : (q0 : Nat) = i) (hb0 : i + 1 < nL) (hl0 : (i, Value.long x) :: lv.filter (fun q => !(q.1 == i) && (!(q.1 == i + 1) && !(q.1 + 1 == i && q.2.category == 2))) = lv2) (kk : Ge w adr k n lv2 st S F) : Ge w adr k pc lv (.long x :: st) S F := by
  obtain ⟨p, l, e, R, s, m, args, below, meth, c, nL, kc, ks, Qf, A⟩ := k
  obtain ⟨hx, hb, hml, hnl, hown, hts, hK, hj, hA, hN, hkc, hks, hfr, hlo⟩ := C
  subst hn
  subst hnl
  intro r S2 hF H locs ls hP hS hl
  exact lv_lstore_n hx hb hd hi hl hb0 hl0 (fun ls2 hl2 => kk r S2 hF H locs ls2 hP hS hl2)
theorem ge_lstore (C : Cx w adr k cc own nL fr lo) {i : Nat} {x : Int64} {lv2 : List (Nat × Value)} (hd : decode cc pc = .ok (.lstore i, 2)) (hn : pc + 2 = n) (hb0 : i + 1 < nL) (hl0 : (i, Value.long x) :: lv.filter (fun q => !(q.1 == i) && (!(q.1 == i + 1) && !(q.1 + 1 == i && q.2.category == 2))) = lv2) (kk : Ge w adr k n lv2 st S F) : Ge w adr k pc lv (.long x :: st) S F := by
  obtain ⟨p, l, e, R, s, m, args, below, meth, c, nL, kc, ks, Qf, A⟩ := k
  obtain ⟨hx, hb, hml, hnl, hown, hts, hK, hj, hA, hN, hkc, hks, hfr, hlo⟩ := C
  subst hn
  subst hnl
  intro r S2 hF H locs ls hP hS hl
  exact lv_lstore hx hb hd hl hb0 hl0 (fun ls2 hl2 => kk r S2 hF H locs ls2 hP hS hl2)
theorem ge_iinc (C : Cx w adr k cc own nL fr lo) {i : Nat} {q : Int} {x v : Int32} {lv2 : List (Nat × Value)} (j : Nat) (hk : lv[j]? = some (i, .int x)) (hd : decode cc pc = .ok (.iinc i q, 3)) (hn : pc + 3 = n) (hv : x + Int32.ofInt q = v) (hb0 : i < nL) (hl0 : (i, Value.int v) :: lv.filter (fun q => !(q.1 == i) && !(q.1 + 1 == i && q.2.category == 2)) = lv2) (kk : Ge w adr k n lv2 st S F) : Ge w adr k pc lv st S F := by
  obtain ⟨p, l, e, R, s, m, args, below, meth, c, nL, kc, ks, Qf, A⟩ := k
  obtain ⟨hx, hb, hml, hnl, hown, hts, hK, hj, hA, hN, hkc, hks, hfr, hlo⟩ := C
  subst hn
  subst hnl
  intro r S2 hF H locs ls hP hS hl
  exact lv_iinc hx hb hd hl hk hv hb0 hl0 (fun ls2 hl2 => kk r S2 hF H locs ls2 hP hS hl2)
theorem ge_sub {lv2 : List (Nat × Value)} (ps : List Nat) (h : lv_pick lv ps = lv2) (kk : Ge w adr k pc lv2 st S F) : Ge w adr k pc lv st S F := by
  obtain ⟨p, l, e, R, s, m, args, below, meth, c, nL, kc, ks, Qf, A⟩ := k
  intro r S2 hF H locs ls hP hS hl
  exact kk r S2 hF H locs ls hP hS (lv_sub hl ps h)
theorem ge_none : Ge w adr k pc lv st S none := by
  obtain ⟨p, l, e, R, s, m, args, below, meth, c, nL, kc, ks, Qf, A⟩ := k
  intro r S2 hF
  cases hF
theorem ge_bi {v : Int32} {f : Int32 → Op} (h : ∀ x : Int32, Ge w adr k pc lv (.int x :: st) S (f x)) : Ge w adr k pc lv (.int v :: st) S (bi v f) := h v
theorem ge_bl {v : Int64} {f : Int64 → Op} (h : ∀ x : Int64, Ge w adr k pc lv (.long x :: st) S (f x)) : Ge w adr k pc lv (.long v :: st) S (bl v f) := h v
theorem ge_if {c : Prop} [Decidable c] {A B : Op} (ht : c → Ge w adr k pc lv st S A) (hf : ¬ c → Ge w adr k pc lv st S B) : Ge w adr k pc lv st S (if c then A else B) := by
  by_cases h : c
  · rw [if_pos h]; exact ht h
  · rw [if_neg h]; exact hf h
theorem ge_jn {α : Type} {rest : α} {f : α → Op} (P : α → Prop) (h1 : P rest) (h2 : ∀ j : α, P j → Ge w adr k pc lv st S (f j)) : Ge w adr k pc lv st S (jn rest f) := h2 rest h1
theorem ge_idiv (C : Cx w adr k cc own nL fr lo) {x y : Int32} (hd : decode cc pc = .ok (.idiv, 1)) (hn : pc + 1 = n) (kk : ¬ y = 0 → Ge w adr k n lv (.int (x / y) :: st) S F) : Ge w adr k pc lv (.int y :: .int x :: st) S (dz y F) := by
  unfold dz
  exact ge_if (fun _ => ge_none) (fun h => ge_idiv0 C h hd hn (kk h))
theorem ge_irem (C : Cx w adr k cc own nL fr lo) {x y : Int32} (hd : decode cc pc = .ok (.irem, 1)) (hn : pc + 1 = n) (kk : ¬ y = 0 → Ge w adr k n lv (.int (irm x y) :: st) S F) : Ge w adr k pc lv (.int y :: .int x :: st) S (dz y F) := by
  unfold dz
  exact ge_if (fun _ => ge_none) (fun h => ge_irem0 C h hd hn (kk h))
theorem ge_tsIn (C : Cx w adr k cc own nL fr lo) {dflt a b : Int} {offs : Array Int} {len t : Nat} {x : Int32} {off : Int} (hd : decode cc pc = .ok (.tableswitch dflt a b offs, len)) (h1 : ¬ x.toInt < a) (h2 : ¬ b < x.toInt) (ho : offs[(x.toInt - a).toNat]? = some off) (ht : (pc : Int) + off = (t : Int)) (kk : Ge w adr k t lv st S F) : Ge w adr k pc lv (.int x :: st) S F := by
  obtain ⟨p, l, e, R, s, m, args, below, meth, c, nL, kc, ks, Qf, A⟩ := k
  obtain ⟨hx, hb, hml, hnl, hown, hts, hK, hj, hA, hN, hkc, hks, hfr, hlo⟩ := C
  intro r S2 hF H locs ls hP hS hl
  exact lv_tableIn hx hb hd h1 h2 ho ht (kk r S2 hF H locs ls hP hS hl)
theorem ge_tsOut (C : Cx w adr k cc own nL fr lo) {dflt a b : Int} {offs : Array Int} {len t : Nat} {x : Int32} (hd : decode cc pc = .ok (.tableswitch dflt a b offs, len)) (h : x.toInt < a ∨ b < x.toInt) (ht : (pc : Int) + dflt = (t : Int)) (kk : Ge w adr k t lv st S F) : Ge w adr k pc lv (.int x :: st) S F := by
  obtain ⟨p, l, e, R, s, m, args, below, meth, c, nL, kc, ks, Qf, A⟩ := k
  obtain ⟨hx, hb, hml, hnl, hown, hts, hK, hj, hA, hN, hkc, hks, hfr, hlo⟩ := C
  intro r S2 hF H locs ls hP hS hl
  exact lv_tableOut hx hb hd h ht (kk r S2 hF H locs ls hP hS hl)
theorem ge_get (C : Cx w adr k cc own nL fr lo) {a o ci j i N : Nat} {fs : List Value} {v : Value} {Cn : String} {T : u_T} (hq : (a, o) ∈ cls) (he : en w.2 adr a o (S a o) = .inr (ci, fs)) (hc : vwCl[ci]? = some (Cn, T, N)) (hj0 : j < N) (hin : ∀ x ∈ u_ws Cn T N, x ∈ tz) (hlk : Cond.fieldLink own i (T j).1 (T j).2.1 (T j).2.2.1 ∈ tz) (hv : fs[j]? = some v) (hd : decode cc pc = .ok (.getfield i, 3)) (hn : pc + 3 = n) (kk : Ge w adr k n lv (v :: st) S F) : Ge w adr k pc lv (.ref (adr a o) :: st) S F := by
  obtain ⟨p, l, e, R, s, m, args, below, meth, c, nL, kc, ks, Qf, A⟩ := k
  obtain ⟨hx, hb, hml, hnl, hown, hts, hK, hj, hA, hN, hkc, hks, hfr, hlo⟩ := C
  subst hn
  intro r S2 hF H locs ls hP hS hl
  obtain ⟨q0, hq0, hq1⟩ := wld_in (cy := w.2) (adr := adr) (S := S) hq
  rw [he] at hq1
  exact va_get hx hb hts hin hown hK hP q0 hq1 hc j hj0 (hts _ hlk) (fun _ h9 => h9) hv hd (kk r S2 hF H locs ls hP hS hl)
theorem ge_putg (C : Cx w adr k cc own nL fr lo) {a o ci j i N : Nat} {fs : List Value} {x : Int32} {v : Value} {ty : FieldType} {Cn : String} {T : u_T} {ty0 : Nat → FieldType} {f : St → Op} (hq : (a, o) ∈ cls) (he : en w.2 adr a o (S a o) = .inr (ci, fs)) (he2 : en w.2 adr a o (upd (S a o) j x) = .inr (ci, fs.set j v)) (hc : vwCl[ci]? = some (Cn, T, N)) (hj0 : j < N) (hin : ∀ x ∈ u_ws Cn T N, x ∈ tz) (hty : ∀ k, k < N → parseFieldDescriptor (T k).2.2.1 = some (ty0 k)) (hnm : ∀ a, a < N → ∀ b, b < N → a ≠ b → (T a).2.1 ≠ (T b).2.1) (hlk : Cond.fieldLink own i (T j).1 (T j).2.1 (T j).2.2.1 ∈ tz) (hfin : (T j).2.2.2 = false) (hd0 : parseFieldDescriptor (T j).2.2.1 = some ty) (hn0 : narrow ty v = v) (hf0 : fits ty v = true) (hlen : j < fs.length) (hd : decode cc pc = .ok (.putfield i, 3)) (hn : pc + 3 = n) (kk : ∀ S1 : St, Ge w adr k n lv st S1 (f S1)) : Ge w adr k pc lv (v :: .ref (adr a o) :: st) S (bs (wr S a o j x) f) := by
  obtain ⟨p, l, e, R, s, m, args, below, meth, c, nL, kc, ks, Qf, A⟩ := k
  obtain ⟨hx, hb, hml, hnl, hown, hts, hK, hj, hA, hN, hkc, hks, hfr, hlo⟩ := C
  subst hn
  intro r S2 hF H locs ls hP hS hl
  obtain ⟨q0, hq0, hq1⟩ := wld_in (cy := w.2) (adr := adr) (S := S) hq
  rw [he] at hq1
  refine va_put hx hb hts hin ty0 hty hnm hown hK hP (wld_D hj hA S) hS q0 hq1 hc j hj0 (hts _ hlk) (fun _ h9 => h9) hfin hd0 hn0 hf0 hlen hd (fun H1 locs1 hP1 _ hS1 => ?_)
  rw [wld_set hq0 he2] at hP1
  exact kk _ r S2 hF H1 locs1 ls hP1 hS1 hl
theorem vp_ck {i : Int32} {N : Nat} (h : ¬ (i < 0 ∨ N ≤ i.toNatClampNeg)) : vp_in i N := h
theorem ge_iald (C : Cx w adr k cc own nL fr lo) {a o N : Nat} {i : Int32} (hq : (a, o) ∈ cls) (he : en w.2 adr a o (S a o) = .inl (w.2 0, N, .inl (S a o))) (hd : decode cc pc = .ok (.iaload, 1)) (hn : pc + 1 = n) (kk : ¬ (i < 0 ∨ N ≤ i.toNatClampNeg) → Ge w adr k n lv (.int (S a o i.toNatClampNeg) :: st) S F) : Ge w adr k pc lv (.int i :: .ref (adr a o) :: st) S (ck i N F) := by
  unfold ck
  refine ge_if (fun _ => ge_none) (fun h => ?_)
  have kk := kk h
  obtain ⟨p, l, e, R, s, m, args, below, meth, c, nL, kc, ks, Qf, A⟩ := k
  obtain ⟨hx, hb, hml, hnl, hown, hts, hK, hj, hA, hN, hkc, hks, hfr, hlo⟩ := C
  subst hn
  intro r S2 hF H locs ls hP hS hl
  obtain ⟨q0, hq0, hq1⟩ := wld_in (cy := w.2) (adr := adr) (S := S) hq
  rw [he] at hq1
  exact va_iald hx hb hK hP q0 0 hq1 rfl (vp_ck h) hd (kk r S2 hF H locs ls hP hS hl)
theorem ge_zald (C : Cx w adr k cc own nL fr lo) {a o N : Nat} {i : Int32} (hq : (a, o) ∈ cls) (he : en w.2 adr a o (S a o) = .inl (w.2 1, N, .inl (S a o))) (hd : decode cc pc = .ok (.baload, 1)) (hn : pc + 1 = n) (kk : ¬ (i < 0 ∨ N ≤ i.toNatClampNeg) → Ge w adr k n lv (.int (S a o i.toNatClampNeg) :: st) S F) : Ge w adr k pc lv (.int i :: .ref (adr a o) :: st) S (ck i N F) := by
  unfold ck
  refine ge_if (fun _ => ge_none) (fun h => ?_)
  have kk := kk h
  obtain ⟨p, l, e, R, s, m, args, below, meth, c, nL, kc, ks, Qf, A⟩ := k
  obtain ⟨hx, hb, hml, hnl, hown, hts, hK, hj, hA, hN, hkc, hks, hfr, hlo⟩ := C
  subst hn
  intro r S2 hF H locs ls hP hS hl
  obtain ⟨q0, hq0, hq1⟩ := wld_in (cy := w.2) (adr := adr) (S := S) hq
  rw [he] at hq1
  exact va_zald hx hb hK hP q0 1 hq1 rfl (vp_ck h) hd (kk r S2 hF H locs ls hP hS hl)
theorem ge_iast (C : Cx w adr k cc own nL fr lo) {a o N : Nat} {i x : Int32} {f : St → Op} (hq : (a, o) ∈ cls) (he : ∀ g : Nat → Int32, en w.2 adr a o g = .inl (w.2 0, N, .inl g)) (hd : decode cc pc = .ok (.iastore, 1)) (hn : pc + 1 = n) (kk : ∀ S1 : St, Ge w adr k n lv st S1 (f S1)) : Ge w adr k pc lv (.int x :: .int i :: .ref (adr a o) :: st) S (ck i N (bs (wr S a o i.toNatClampNeg x) f)) := by
  unfold ck
  refine ge_if (fun _ => ge_none) (fun h => ?_)
  obtain ⟨p, l, e, R, s, m, args, below, meth, c, nL, kc, ks, Qf, A⟩ := k
  obtain ⟨hx, hb, hml, hnl, hown, hts, hK, hj, hA, hN, hkc, hks, hfr, hlo⟩ := C
  subst hn
  intro r S2 hF H locs ls hP hS hl
  obtain ⟨q0, hq0, hq1⟩ := wld_in (cy := w.2) (adr := adr) (S := S) hq
  rw [he] at hq1
  refine va_iast hx hb hK hP (wld_D hj hA S) hS q0 0 hq1 rfl (vp_ck h) hd (fun H1 locs1 hP1 _ hS1 => ?_)
  rw [wld_set hq0 (he _)] at hP1
  exact kk _ r S2 hF H1 locs1 ls hP1 hS1 hl
theorem ge_zast (C : Cx w adr k cc own nL fr lo) {a o N : Nat} {i x : Int32} {f : St → Op} (hq : (a, o) ∈ cls) (he : ∀ g : Nat → Int32, en w.2 adr a o g = .inl (w.2 1, N, .inl g)) (hd : decode cc pc = .ok (.bastore, 1)) (hn : pc + 1 = n) (kk : ∀ S1 : St, Ge w adr k n lv st S1 (f S1)) : Ge w adr k pc lv (.int x :: .int i :: .ref (adr a o) :: st) S (ck i N (bs (wr S a o i.toNatClampNeg (vp_nar .boolean x)) f)) := by
  unfold ck
  refine ge_if (fun _ => ge_none) (fun h => ?_)
  obtain ⟨p, l, e, R, s, m, args, below, meth, c, nL, kc, ks, Qf, A⟩ := k
  obtain ⟨hx, hb, hml, hnl, hown, hts, hK, hj, hA, hN, hkc, hks, hfr, hlo⟩ := C
  subst hn
  intro r S2 hF H locs ls hP hS hl
  obtain ⟨q0, hq0, hq1⟩ := wld_in (cy := w.2) (adr := adr) (S := S) hq
  rw [he] at hq1
  refine va_zast hx hb hK hP (wld_D hj hA S) hS q0 1 hq1 rfl (vp_ck h) hd (fun H1 locs1 hP1 _ hS1 => ?_)
  rw [wld_set hq0 (he _)] at hP1
  exact kk _ r S2 hF H1 locs1 ls hP1 hS1 hl
theorem ge_aald (C : Cx w adr k cc own nL fr lo) {a o N t0 : Nat} {i : Int32} {g : Nat → Nat} {cA : ClassId} {ty : FieldType} (hq : (a, o) ∈ cls) (he : en w.2 adr a o (S a o) = .inl (cA, N, .inr (.inr (.inr (.inr (fun j => some (g j))))))) (ht : (tyl w.2)[t0]? = some (cA, ty)) (hty : ty.isReference = true) (hd : decode cc pc = .ok (.aaload, 1)) (hn : pc + 1 = n) (kk : ¬ (i < 0 ∨ N ≤ i.toNatClampNeg) → Ge w adr k n lv (.ref (g i.toNatClampNeg) :: st) S F) : Ge w adr k pc lv (.int i :: .ref (adr a o) :: st) S (ck i N F) := by
  unfold ck
  refine ge_if (fun _ => ge_none) (fun h => ?_)
  have kk := kk h
  obtain ⟨p, l, e, R, s, m, args, below, meth, c, nL, kc, ks, Qf, A⟩ := k
  obtain ⟨hx, hb, hml, hnl, hown, hts, hK, hj, hA, hN, hkc, hks, hfr, hlo⟩ := C
  subst hn
  intro r S2 hF H locs ls hP hS hl
  obtain ⟨q0, hq0, hq1⟩ := wld_in (cy := w.2) (adr := adr) (S := S) hq
  rw [he] at hq1
  have hlt : i.toNatClampNeg < N := Nat.not_le.mp fun q => h (Or.inr q)
  exact W.aald (v := .ref (g i.toNatClampNeg)) (ty := ty) hx hb (hP q0 _ hq1) ((hK.2 t0 _ ht).1 N (fun j => va_rf (some (g j)))) hty (fun q => by cases q) (by show ¬ (i < 0 ∨ (arrV _ _ _).slots.size ≤ _); rw [arrV_size]; exact h) (by show (arrV _ _ _).slots[_]? = _; rw [arrV_read _ _ hlt]; rfl) rfl rfl hd (kk r S2 hF H locs ls hP hS hl)
theorem ge_iret (C : Cx w adr k cc own nL fr lo) (Rr : Ri w adr k .int) {v : Int32} (hd : decode cc pc = .ok (.ireturn, 1)) : Ge w adr k pc lv [.int v] S (some (v, S)) := by
  obtain ⟨p, l, e, R, s, m, args, below, meth, c, nL, kc, ks, Qf, A⟩ := k
  obtain ⟨hx, hb, hml, hnl, hown, hts, hK, hj, hA, hN, hkc, hks, hfr, hlo⟩ := C
  obtain ⟨hr, hlocks, rfl, rfl, rfl, rfl⟩ := Rr
  intro r S2 hF H locs ls hP hS hl
  cases hF
  exact W.iret (v := v) hx hb hr (fun t ht hW => ⟨⟨v, S, rfl, ⟨rfl, rfl⟩, by rw [ht]; exact hP, va_K.moved hW.alike hK, hN.warm hW⟩, hS.F ht⟩) hS.2.2 hd
theorem ge_zret (C : Cx w adr k cc own nL fr lo) (Rr : Ri w adr k .boolean) {v : Int32} (hv : narrow .boolean (.int v) = .int v) (hd : decode cc pc = .ok (.ireturn, 1)) : Ge w adr k pc lv [.int v] S (some (v, S)) := by
  obtain ⟨p, l, e, R, s, m, args, below, meth, c, nL, kc, ks, Qf, A⟩ := k
  obtain ⟨hx, hb, hml, hnl, hown, hts, hK, hj, hA, hN, hkc, hks, hfr, hlo⟩ := C
  obtain ⟨hr, hlocks, rfl, rfl, rfl, rfl⟩ := Rr
  intro r S2 hF H locs ls hP hS hl
  cases hF
  exact W.zret (v := v) hx hb hr hv (fun t ht hW => ⟨⟨v, S, rfl, ⟨rfl, rfl⟩, by rw [ht]; exact hP, va_K.moved hW.alike hK, hN.warm hW⟩, hS.F ht⟩) hS.2.2 hd
theorem ge_vret (C : Cx w adr k cc own nL fr lo) (Rr : Rv w adr k) (hd : decode cc pc = .ok (.return_, 1)) : Ge w adr k pc lv [] S (some (0, S)) := by
  obtain ⟨p, l, e, R, s, m, args, below, meth, c, nL, kc, ks, Qf, A⟩ := k
  obtain ⟨hx, hb, hml, hnl, hown, hts, hK, hj, hA, hN, hkc, hks, hfr, hlo⟩ := C
  obtain ⟨hr, hlocks, rfl, rfl, rfl, rfl⟩ := Rr
  intro r S2 hF H locs ls hP hS hl
  cases hF
  exact W.vret hx hb hr (fun t ht hW => ⟨⟨S, rfl, rfl, by rw [ht]; exact hP, va_K.moved hW.alike hK, hN.warm hW⟩, hS.F ht⟩) hS.2.2 hd
theorem cal_some {g : Op} {f : Int32 → St → Op} {r : Int32} {S2 : St} (h : cal g f = some (r, S2)) : ∃ (r1 : Int32) (S1 : St), g = some (r1, S1) ∧ f r1 S1 = some (r, S2) := by
  cases g with
  | none => cases h
  | some q => exact ⟨q.1, q.2, rfl, h⟩
theorem rest8 {m : MethodId} {ls : Array Slot} {a : List Value} (h : (st.map fun v => v.category).sum ≤ 8) : 2 * (F0 m pc ls a).monitorRoom + (st.map fun v => v.category).sum ≤ 8 := lv_room h
theorem bz_of {U : State} {s : State} {H : Heap} (hU : U.heap = H) (hW : s.WarmedH U.vm) (hP : va_P w.1 vwCl (wld w.2 adr S) H) (hK : va_K w.1 vwCl (tyl w.2) s) (hN : Nw s) : Bz w adr S U := ⟨by rw [hU]; exact hP, va_K.moved hW.alike hK, hN.warm hW⟩
/-- calls of methods that answer an int -/
theorem ge_callVi (C : Cx w adr k cc own nL fr lo) {a o ci N i nA mL f2 l2 : Nat} {fs : List Value} {T : u_T} {Cn : String} {y : MethodName} {b : ByteArray} {ret : Option FieldType} {g : Op} {f : Int32 → St → Op} {As st0 : List Value} (hM : ∀ (l : Launch) (r : Int32) (S1 : St), g = some (r, S1) → Mi l w adr y b mL ret f2 l2 (.ref (adr a o) :: As) S r S1) (hG : GoodIn tz (wsV own i Cn y (wz y b mL ret))) (hq : (a, o) ∈ cls) (he : en w.2 adr a o (S a o) = .inr (ci, fs)) (hc : vwCl[ci]? = some (Cn, T, N)) (hcn : y.cls = Cn ∧ y.cls ≠ "java/lang/invoke/MethodHandle" ∧ y.cls ≠ "java/lang/invoke/VarHandle" ∧ (parseMethodDescriptor y.desc).map (fun d => d.parameters.length) = some nA) (hR : f2 + 1 ≤ fr ∧ 8 + (mL + 11) + l2 ≤ lo) (hna : As.length = nA) (hst : st0 = As.reverse ++ .ref (adr a o) :: st) (hr8 : (st.map fun v => v.category).sum ≤ 8) (hd : decode cc pc = .ok (.invokevirtual i, 3)) (hn : pc + 3 = n) (kk : ∀ (r : Int32) (S1 : St), Ge w adr k n lv (.int r :: st) S1 (f r S1)) : Ge w adr k pc lv st0 S (cal g f) := by
  obtain ⟨p, l, e, R, s, m, args, below, meth, c, nL, kc, ks, Qf, A⟩ := k
  obtain ⟨hx, hb, hml, hnl, hown, hts, hK, hj, hA, hN, hkc, hks, hfr, hlo⟩ := C
  subst hn
  subst hnl
  intro r S2 hF H locs ls hP hS hl
  obtain ⟨r1, S1, hg, hf⟩ := cal_some hF
  obtain ⟨q0, hq0, hq1⟩ := wld_in (cy := w.2) (adr := adr) (S := S) hq
  rw [he] at hq1
  refine va_calli (A1 := Az adr) (va_runV (As := As) (rest := st) ⟨hx, hb, hml, hown, hts⟩ (hM l r1 S1 hg) (cwV nA hts hG rfl rfl rfl hcn ⟨Nat.le_trans hR.1 hfr, Nat.le_trans hR.2 hlo⟩) ⟨bz_blind, va_recv hK hP hc hq1, fun U hU hW => ⟨rfl, bz_of hU hW hP hK hN⟩⟩ rfl hna hl.1 hst (rest8 hr8) hd ⟨hkc, hks⟩) hS (fun q _ h => hA q h) (fun q h => hA q h) (fun r2 u t H1 locs1 ht hvm hw hB hz1 hk1 hS1 => ?_)
  obtain ⟨rfl, rfl⟩ := hw
  exact kk r2 u r S2 hf H1 locs1 ls (by have := hB.1; rw [ht] at this; exact this) hS1 hl
theorem ge_callVv (C : Cx w adr k cc own nL fr lo) {a o ci N i nA mL f2 l2 : Nat} {fs : List Value} {T : u_T} {Cn : String} {y : MethodName} {b : ByteArray} {ret : Option FieldType} {g : Op} {f : Int32 → St → Op} {As st0 : List Value} (hM : ∀ (l : Launch) (r : Int32) (S1 : St), g = some (r, S1) → Mv l w adr y b mL ret f2 l2 (.ref (adr a o) :: As) S S1) (hG : GoodIn tz (wsV own i Cn y (wz y b mL ret))) (hq : (a, o) ∈ cls) (he : en w.2 adr a o (S a o) = .inr (ci, fs)) (hc : vwCl[ci]? = some (Cn, T, N)) (hcn : y.cls = Cn ∧ y.cls ≠ "java/lang/invoke/MethodHandle" ∧ y.cls ≠ "java/lang/invoke/VarHandle" ∧ (parseMethodDescriptor y.desc).map (fun d => d.parameters.length) = some nA) (hR : f2 + 1 ≤ fr ∧ 8 + (mL + 11) + l2 ≤ lo) (hna : As.length = nA) (hst : st0 = As.reverse ++ .ref (adr a o) :: st) (hr8 : (st.map fun v => v.category).sum ≤ 8) (hd : decode cc pc = .ok (.invokevirtual i, 3)) (hn : pc + 3 = n) (kk : ∀ (r : Int32) (S1 : St), Ge w adr k n lv st S1 (f r S1)) : Ge w adr k pc lv st0 S (cal g f) := by
  obtain ⟨p, l, e, R, s, m, args, below, meth, c, nL, kc, ks, Qf, A⟩ := k
  obtain ⟨hx, hb, hml, hnl, hown, hts, hK, hj, hA, hN, hkc, hks, hfr, hlo⟩ := C
  subst hn
  subst hnl
  intro r S2 hF H locs ls hP hS hl
  obtain ⟨r1, S1, hg, hf⟩ := cal_some hF
  obtain ⟨q0, hq0, hq1⟩ := wld_in (cy := w.2) (adr := adr) (S := S) hq
  rw [he] at hq1
  refine va_callv (A1 := Az adr) (va_runV (As := As) (rest := st) ⟨hx, hb, hml, hown, hts⟩ (hM l r1 S1 hg) (cwV nA hts hG rfl rfl rfl hcn ⟨Nat.le_trans hR.1 hfr, Nat.le_trans hR.2 hlo⟩) ⟨bz_blind, va_recv hK hP hc hq1, fun U hU hW => ⟨rfl, bz_of hU hW hP hK hN⟩⟩ rfl hna hl.1 hst (rest8 hr8) hd ⟨hkc, hks⟩) hS (fun q _ h => hA q h) (fun q h => hA q h) (fun u t H1 locs1 ht hvm hw hB hz1 hk1 hS1 => ?_)
  obtain rfl := hw
  exact kk r1 u r S2 hf H1 locs1 ls (by have := hB.1; rw [ht] at this; exact this) hS1 hl
theorem ge_callSi (C : Cx w adr k cc own nL fr lo) {i nA mL f2 l2 : Nat} {y : MethodName} {b : ByteArray} {ret : Option FieldType} {g : Op} {f : Int32 → St → Op} {As st0 : List Value} (hM : ∀ (l : Launch) (r : Int32) (S1 : St), g = some (r, S1) → Mi l w adr y b mL ret f2 l2 As S r S1) (hG : GoodIn tz (va_wsS own i y (wz y b mL ret))) (hcn : y.cls ≠ "java/lang/invoke/MethodHandle" ∧ y.cls ≠ "java/lang/invoke/VarHandle" ∧ (parseMethodDescriptor y.desc).map (fun d => d.parameters.length) = some nA) (hR : f2 + 1 ≤ fr ∧ 8 + (mL + 11) + l2 ≤ lo) (hna : As.length = nA) (hst : st0 = As.reverse ++ st) (hr8 : (st.map fun v => v.category).sum ≤ 8) (hd : decode cc pc = .ok (.invokestatic i, 3)) (hn : pc + 3 = n) (kk : ∀ (r : Int32) (S1 : St), Ge w adr k n lv (.int r :: st) S1 (f r S1)) : Ge w adr k pc lv st0 S (cal g f) := by
  obtain ⟨p, l, e, R, s, m, args, below, meth, c, nL, kc, ks, Qf, A⟩ := k
  obtain ⟨hx, hb, hml, hnl, hown, hts, hK, hj, hA, hN, hkc, hks, hfr, hlo⟩ := C
  subst hn
  subst hnl
  intro r S2 hF H locs ls hP hS hl
  obtain ⟨r1, S1, hg, hf⟩ := cal_some hF
  refine va_calli (A1 := Az adr) (va_runS (As := As) (rest := st) ⟨hx, hb, hml, hown, hts⟩ (hM l r1 S1 hg) (va_cwS nA hts hG rfl rfl rfl hcn ⟨Nat.le_trans hR.1 hfr, Nat.le_trans hR.2 hlo⟩) ⟨bz_blind, fun U hU hW => ⟨rfl, bz_of hU hW hP hK hN⟩⟩ rfl hna hl.1 hst (rest8 hr8) hd ⟨hkc, hks⟩) hS (fun q _ h => hA q h) (fun q h => hA q h) (fun r2 u t H1 locs1 ht hvm hw hB hz1 hk1 hS1 => ?_)
  obtain ⟨rfl, rfl⟩ := hw
  exact kk r2 u r S2 hf H1 locs1 ls (by have := hB.1; rw [ht] at this; exact this) hS1 hl
/-- the one call of a nest mate's private method -/
theorem ge_callNi (C : Cx w adr k cc RX8 nL fr lo) {mL f2 l2 : Nat} {b : ByteArray} {ret : Option FieldType} {g : Op} {f : Int32 → St → Op} {As st0 : List Value} (hM : ∀ (l : Launch) (r : Int32) (S1 : St), g = some (r, S1) → Mi l w adr yX10_isOutside b mL ret f2 l2 As S r S1) (hG : Cond.code yX10_isOutside b mL ret ∈ tz) (hst1 : Cond.static yX10_isOutside ∈ tz) (hini : Cond.initialized yX10_isOutside.cls ∈ tz) (hR : f2 + 1 ≤ fr ∧ 8 + (mL + 11) + l2 ≤ lo) (hna : As.length = 3) (hst : st0 = As.reverse ++ st) (hr8 : (st.map fun v => v.category).sum ≤ 8) (hd : decode cc pc = .ok (.invokestatic 102, 3)) (hn : pc + 3 = n) (kk : ∀ (r : Int32) (S1 : St), Ge w adr k n lv (.int r :: st) S1 (f r S1)) : Ge w adr k pc lv st0 S (cal g f) := by
  obtain ⟨p, l, e, R, s, m, args, below, meth, c, nL, kc, ks, Qf, A⟩ := k
  obtain ⟨hx, hb, hml, hnl, hown, hts, hK, hj, hA, hN, hkc, hks, hfr, hlo⟩ := C
  subst hn
  subst hnl
  intro r S2 hF H locs ls hP hS hl
  obtain ⟨r1, S1, hg, hf⟩ := cal_some hF
  refine va_calli (A1 := Az adr) (va_runSN (As := As) (rest := st) (host := RX10) ⟨hx, hb, hml, hown, hts⟩ (hM l r1 S1 hg) ⟨va_cnB 3 hts (gdZ hG) rfl rfl rfl hN (hts _ hini) ⟨by decide +kernel, by decide +kernel, by decide +kernel⟩ ⟨Nat.le_trans hR.1 hfr, Nat.le_trans hR.2 hlo⟩, hts _ hst1, trivial⟩ ⟨bz_blind, fun U hU hW => ⟨rfl, bz_of hU hW hP hK hN⟩⟩ rfl hna hl.1 hst (rest8 hr8) hd ⟨hkc, hks⟩) hS (fun q _ h => hA q h) (fun q h => hA q h) (fun r2 u t H1 locs1 ht hvm hw hB hz1 hk1 hS1 => ?_)
  obtain ⟨rfl, rfl⟩ := hw
  exact kk r2 u r S2 hf H1 locs1 ls (by have := hB.1; rw [ht] at this; exact this) hS1 hl
end GE
theorem ge_lop {α : Type} {z : α} {b : α → α} (P : α → Prop) (h0 : P z) (hs : ∀ ag : α, P ag → P (b ag)) : ∀ n : Nat, P (lop z b n)
  | 0 => h0
  | n + 1 => hs _ (ge_lop P h0 hs n)
theorem metF {l : Launch} {y : MethodName} {ws ws2 : List Cond} {rm : Room} {Pc : Array Value → State → Prop} {Qc : Array Value → State → Outcome → State → Prop} {mc ms : Nat} {free : Addr → Prop} {cc : ByteArray} {maxL : Nat} {ret : Option FieldType}
    (hy : plainFor y = true) (hw : ws = Cond.code y cc maxL ret :: ws2)
    (body : ∀ p e s m args below meth c s1, BodyLoose p l y (headSpec ws rm) cc maxL ret e s m args below meth c s1 → c.maxLocals = maxL → Pc args s →
      W p l e (headSpec ws rm).room s m args below meth c s.heap [] 0 0 (MQ below Qc args s mc ms free) (entryFrame m args maxL)) : Met l y ws rm Pc Qc mc ms free := by
  refine MetFree.of_bodySF (code := cc) (maxLocals := maxL) (ret := ret) hy ?_ ?_
  · intro args s m h hn
    obtain ⟨meth, c, h1, h2, h3, h4, h5, h6, -, -⟩ := Cond.code_spec hn (atoms_spec (ws := ws) h _ (by rw [hw]; exact List.mem_cons_self))
    exact ⟨meth, c, h1, h2, h3, h4, h5, h6⟩
  · intro p e s m args below meth c s1 B hml hP _
    have hh0 : s1.heap = s.heap := by rw [B.state]; rfl
    obtain ⟨t, a1, o, b1, b2, b3⟩ := body p e s m args below meth c s1 B hml hP s1 hh0 (Stand.of_body B)
    exact ⟨t, o, a1, b1, b2, ⟨b3.1, b3.2⟩⟩
/-- a method's contract out of the walk of its body -/
theorem mi_of {w : WX} {adr : Nat → Nat → Nat} {y : MethodName} {b : ByteArray} {mL : Nat} {ty : FieldType} {fr lo : Nat} {av : List Value} {lv : List (Nat × Value)} {S : St} {F : Op} (hj : Ij adr) (hy : plainFor y = true) (hlv : lv_args 0 av = lv) (hlen : (lg_sl av).length ≤ mL) (body : ∀ k : KX, Cx w adr k b y.cls mL fr lo → Ri w adr k ty → Ge w adr k 0 lv [] S F) : ∀ (l : Launch) (r : Int32) (S2 : St), F = some (r, S2) → Mi l w adr y b mL (some ty) fr lo av S r S2 := by
  intro l r S2 hF
  refine metF (cc := b) (maxL := mL) (ret := some ty) hy rfl ?_
  intro p e s m args below meth c s1 B hml hv
  obtain ⟨rfl, hP, hK, hN⟩ := hv
  have hts0 := atoms_spec (ws := wz y b mL (some ty)) B.pre
  have hts : ∀ x ∈ tz, x.before av.toArray s = true := fun x hx => hts0 x (List.mem_cons_of_mem _ hx)
  have hown : s.vm.findClass y.cls = some m.cls := findClass_of_methodNamed B.named
  have hl := lv_entry av (n := mL) hlen
  rw [lg_entry_eq]
  rw [hlv] at hl
  generalize (lg_sl av ++ List.replicate (mL - (lg_sl av).length) Slot.unset).toArray = ls at hl ⊢
  exact body (p, l, e, _, s, m, av.toArray, below, meth, c, mL, 0, 0, _, Az adr) ⟨B.exec, B.bytes, hml, rfl, hown, hts, hK, hj, fun _ h => h, hN, Nat.zero_le _, Nat.zero_le _, Nat.le_refl fr, Nat.le_refl lo⟩ ⟨B.returns, B.notSynchronized, rfl, rfl, rfl, rfl⟩ r S2 hF s.heap [] ls hP va_S.rf hl
theorem mv_of {w : WX} {adr : Nat → Nat → Nat} {y : MethodName} {b : ByteArray} {mL : Nat} {fr lo : Nat} {av : List Value} {lv : List (Nat × Value)} {S : St} {F : Op} (hj : Ij adr) (hy : plainFor y = true) (hlv : lv_args 0 av = lv) (hlen : (lg_sl av).length ≤ mL) (body : ∀ k : KX, Cx w adr k b y.cls mL fr lo → Rv w adr k → Ge w adr k 0 lv [] S F) : ∀ (l : Launch) (r : Int32) (S2 : St), F = some (r, S2) → Mv l w adr y b mL none fr lo av S S2 := by
  intro l r S2 hF
  refine metF (cc := b) (maxL := mL) (ret := none) hy rfl ?_
  intro p e s m args below meth c s1 B hml hv
  obtain ⟨rfl, hP, hK, hN⟩ := hv
  have hts0 := atoms_spec (ws := wz y b mL none) B.pre
  have hts : ∀ x ∈ tz, x.before av.toArray s = true := fun x hx => hts0 x (List.mem_cons_of_mem _ hx)
  have hown : s.vm.findClass y.cls = some m.cls := findClass_of_methodNamed B.named
  have hl := lv_entry av (n := mL) hlen
  rw [lg_entry_eq]
  rw [hlv] at hl
  generalize (lg_sl av ++ List.replicate (mL - (lg_sl av).length) Slot.unset).toArray = ls at hl ⊢
  exact body (p, l, e, _, s, m, av.toArray, below, meth, c, mL, 0, 0, _, Az adr) ⟨B.exec, B.bytes, hml, rfl, hown, hts, hK, hj, fun _ h => h, hN, Nat.zero_le _, Nat.zero_le _, Nat.le_refl fr, Nat.le_refl lo⟩ ⟨B.returns, B.notSynchronized, rfl, rfl, rfl, rfl⟩ r S2 hF s.heap [] ls hP va_S.rf hl
theorem ts_out {x : Int32} {n : Nat} {b : Int} (hn : n < 2 ^ 31) (hb : (n : Int) - 1 = b) (h : ∀ i : Nat, i < n → ¬ x = nI i) : x.toInt < 0 ∨ b < x.toInt := by
  subst hb
  by_cases h0 : x < 0
  · exact Or.inl (by simpa using Int32.lt_iff_toInt_lt.mp h0)
  · obtain ⟨j, hj, rfl⟩ := nI_of h0
    right
    rw [nI_toInt hj]
    have : ¬ j < n := fun q => h j q rfl
    omega
theorem bd_c {i : Int32} {N M : Nat} (h : ¬ (i < 0 ∨ N ≤ i.toNatClampNeg)) (hM : N ≤ M) : i.toNatClampNeg < M := Nat.lt_of_lt_of_le (Nat.not_le.mp fun q => h (Or.inr q)) hM
theorem bd_pls {o : Nat} {i : Int32} (ho : o < 2) (h : ¬ (i < 0 ∨ 6 ≤ i.toNatClampNeg)) : 6 * o + i.toNatClampNeg < 12 := by
  have := bd_c (M := 6) h (Nat.le_refl 6)
  omega
theorem bd_pai {i : Int32} (h : ¬ (i < 0 ∨ 2 ≤ i.toNatClampNeg)) : 16 + i.toNatClampNeg < 18 := by
  have := bd_c (M := 2) h (Nat.le_refl 2)
  omega
end
section
theorem inX0z : ∀ w ∈ u_ws RX0 TX0 3, w ∈ tz := tz_ws [285, 287, 289] (by decide +kernel) (by decide +kernel)
theorem inX1z : ∀ w ∈ u_ws RX1 TX1 1, w ∈ tz := tz_ws [240] (by decide +kernel) (by decide +kernel)
theorem inX2z : ∀ w ∈ u_ws RX2 TX2 8, w ∈ tz := tz_ws [258, 260, 262, 264, 266, 268, 270, 272] (by decide +kernel) (by decide +kernel)
theorem inX3z : ∀ w ∈ u_ws RX3 TX3 5, w ∈ tz := tz_ws [168, 170, 172, 174, 176] (by decide +kernel) (by decide +kernel)
theorem inX4z : ∀ w ∈ u_ws RX4 TX4 6, w ∈ tz := tz_ws [218, 220, 222, 224, 226, 228] (by decide +kernel) (by decide +kernel)
theorem inX5z : ∀ w ∈ u_ws RX5 TX5 3, w ∈ tz := tz_ws [330, 332, 334] (by decide +kernel) (by decide +kernel)
theorem inX6z : ∀ w ∈ u_ws RX6 TX6 8, w ∈ tz := tz_ws [121, 123, 125, 127, 129, 131, 133, 135] (by decide +kernel) (by decide +kernel)
theorem inX7z : ∀ w ∈ u_ws RX7 TX7 5, w ∈ tz := tz_ws [192, 194, 196, 198, 200] (by decide +kernel) (by decide +kernel)
theorem inX8z : ∀ w ∈ u_ws RX8 TX8 5, w ∈ tz := tz_ws [72, 74, 76, 78, 80] (by decide +kernel) (by decide +kernel)
theorem inX9z : ∀ w ∈ u_ws RX9 TX9 6, w ∈ tz := tz_ws [307, 309, 311, 313, 315, 317] (by decide +kernel) (by decide +kernel)
theorem inX10z : ∀ w ∈ u_ws RX10 TX10 10, w ∈ tz := tz_ws [347, 349, 351, 353, 355, 357, 359, 361, 363, 365] (by decide +kernel) (by decide +kernel)
theorem inX11z : ∀ w ∈ u_ws RX11 TX11 42, w ∈ tz := tz_ws [908, 910, 912, 914, 916, 918, 920, 922, 924, 926, 928, 930, 932, 934, 936, 938, 940, 942, 944, 946, 948, 950, 952, 954, 956, 958, 960, 962, 964, 966, 968, 970, 972, 974, 976, 978, 980, 982, 984, 986, 988, 990] (by decide +kernel) (by decide +kernel)
theorem fl_X10_12 : Cond.fieldLink RX10 12 (TX10 0).1 (TX10 0).2.1 (TX10 0).2.2.1 ∈ tz := tz_in 337 (by decide +kernel) (by decide +kernel)
theorem fl_X10_19 : Cond.fieldLink RX10 19 (TX10 1).1 (TX10 1).2.1 (TX10 1).2.2.1 ∈ tz := tz_in 338 (by decide +kernel) (by decide +kernel)
theorem fl_X10_23 : Cond.fieldLink RX10 23 (TX10 2).1 (TX10 2).2.1 (TX10 2).2.2.1 ∈ tz := tz_in 339 (by decide +kernel) (by decide +kernel)
theorem fl_X10_31 : Cond.fieldLink RX10 31 (TX10 3).1 (TX10 3).2.1 (TX10 3).2.2.1 ∈ tz := tz_in 340 (by decide +kernel) (by decide +kernel)
theorem fl_X10_38 : Cond.fieldLink RX10 38 (TX10 4).1 (TX10 4).2.1 (TX10 4).2.2.1 ∈ tz := tz_in 341 (by decide +kernel) (by decide +kernel)
theorem fl_X10_45 : Cond.fieldLink RX10 45 (TX10 5).1 (TX10 5).2.1 (TX10 5).2.2.1 ∈ tz := tz_in 342 (by decide +kernel) (by decide +kernel)
theorem fl_X10_52 : Cond.fieldLink RX10 52 (TX10 6).1 (TX10 6).2.1 (TX10 6).2.2.1 ∈ tz := tz_in 343 (by decide +kernel) (by decide +kernel)
theorem fl_X10_59 : Cond.fieldLink RX10 59 (TX10 7).1 (TX10 7).2.1 (TX10 7).2.2.1 ∈ tz := tz_in 344 (by decide +kernel) (by decide +kernel)
theorem fl_X10_66 : Cond.fieldLink RX10 66 (TX10 8).1 (TX10 8).2.1 (TX10 8).2.2.1 ∈ tz := tz_in 345 (by decide +kernel) (by decide +kernel)
theorem fl_X10_73 : Cond.fieldLink RX10 73 (TX10 9).1 (TX10 9).2.1 (TX10 9).2.2.1 ∈ tz := tz_in 346 (by decide +kernel) (by decide +kernel)
theorem fl_X10_82 : Cond.fieldLink RX10 82 (TX8 1).1 (TX8 1).2.1 (TX8 1).2.2.1 ∈ tz := tz_in 66 (by decide +kernel) (by decide +kernel)
theorem fl_X10_94 : Cond.fieldLink RX10 94 (TX8 3).1 (TX8 3).2.1 (TX8 3).2.2.1 ∈ tz := tz_in 69 (by decide +kernel) (by decide +kernel)
theorem fl_X10_100 : Cond.fieldLink RX10 100 (TX4 2).1 (TX4 2).2.1 (TX4 2).2.2.1 ∈ tz := tz_in 213 (by decide +kernel) (by decide +kernel)
theorem fl_X10_103 : Cond.fieldLink RX10 103 (TX4 5).1 (TX4 5).2.1 (TX4 5).2.2.1 ∈ tz := tz_in 216 (by decide +kernel) (by decide +kernel)
theorem fl_X10_106 : Cond.fieldLink RX10 106 (TX2 3).1 (TX2 3).2.1 (TX2 3).2.2.1 ∈ tz := tz_in 253 (by decide +kernel) (by decide +kernel)
theorem fl_X10_107 : Cond.fieldLink RX10 107 (TX0 2).1 (TX0 2).2.1 (TX0 2).2.2.1 ∈ tz := tz_in 284 (by decide +kernel) (by decide +kernel)
theorem fl_X10_108 : Cond.fieldLink RX10 108 (TX6 2).1 (TX6 2).2.1 (TX6 2).2.2.1 ∈ tz := tz_in 102 (by decide +kernel) (by decide +kernel)
theorem fl_X10_111 : Cond.fieldLink RX10 111 (TX8 4).1 (TX8 4).2.1 (TX8 4).2.2.1 ∈ tz := tz_in 71 (by decide +kernel) (by decide +kernel)
theorem fl_X10_114 : Cond.fieldLink RX10 114 (TX6 0).1 (TX6 0).2.1 (TX6 0).2.2.1 ∈ tz := tz_in 94 (by decide +kernel) (by decide +kernel)
theorem fl_X10_117 : Cond.fieldLink RX10 117 (TX7 2).1 (TX7 2).2.1 (TX7 2).2.2.1 ∈ tz := tz_in 185 (by decide +kernel) (by decide +kernel)
theorem fl_X10_120 : Cond.fieldLink RX10 120 (TX6 3).1 (TX6 3).2.1 (TX6 3).2.2.1 ∈ tz := tz_in 106 (by decide +kernel) (by decide +kernel)
theorem fl_X10_123 : Cond.fieldLink RX10 123 (TX7 1).1 (TX7 1).2.1 (TX7 1).2.2.1 ∈ tz := tz_in 182 (by decide +kernel) (by decide +kernel)
theorem fl_X10_130 : Cond.fieldLink RX10 130 (TX7 3).1 (TX7 3).2.1 (TX7 3).2.2.1 ∈ tz := tz_in 187 (by decide +kernel) (by decide +kernel)
theorem fl_X10_150 : Cond.fieldLink RX10 150 (TX7 4).1 (TX7 4).2.1 (TX7 4).2.2.1 ∈ tz := tz_in 191 (by decide +kernel) (by decide +kernel)
theorem fl_X10_153 : Cond.fieldLink RX10 153 (TX3 0).1 (TX3 0).2.1 (TX3 0).2.2.1 ∈ tz := tz_in 152 (by decide +kernel) (by decide +kernel)
theorem fl_X10_158 : Cond.fieldLink RX10 158 (TX3 1).1 (TX3 1).2.1 (TX3 1).2.2.1 ∈ tz := tz_in 155 (by decide +kernel) (by decide +kernel)
theorem fl_X10_161 : Cond.fieldLink RX10 161 (TX3 2).1 (TX3 2).2.1 (TX3 2).2.2.1 ∈ tz := tz_in 159 (by decide +kernel) (by decide +kernel)
theorem fl_X10_171 : Cond.fieldLink RX10 171 (TX3 3).1 (TX3 3).2.1 (TX3 3).2.2.1 ∈ tz := tz_in 162 (by decide +kernel) (by decide +kernel)
theorem fl_X10_175 : Cond.fieldLink RX10 175 (TX3 4).1 (TX3 4).2.1 (TX3 4).2.2.1 ∈ tz := tz_in 165 (by decide +kernel) (by decide +kernel)
theorem fl_X10_181 : Cond.fieldLink RX10 181 (TX6 6).1 (TX6 6).2.1 (TX6 6).2.2.1 ∈ tz := tz_in 116 (by decide +kernel) (by decide +kernel)
theorem fl_X10_184 : Cond.fieldLink RX10 184 (TX6 7).1 (TX6 7).2.1 (TX6 7).2.2.1 ∈ tz := tz_in 119 (by decide +kernel) (by decide +kernel)
theorem fl_X10_229 : Cond.fieldLink RX10 229 (TX9 0).1 (TX9 0).2.1 (TX9 0).2.2.1 ∈ tz := tz_in 301 (by decide +kernel) (by decide +kernel)
theorem fl_X10_260 : Cond.fieldLink RX10 260 (TX5 0).1 (TX5 0).2.1 (TX5 0).2.2.1 ∈ tz := tz_in 327 (by decide +kernel) (by decide +kernel)
theorem fl_X10_314 : Cond.fieldLink RX10 314 (TX1 0).1 (TX1 0).2.1 (TX1 0).2.2.1 ∈ tz := tz_in 239 (by decide +kernel) (by decide +kernel)
theorem fl_X0_9 : Cond.fieldLink RX0 9 (TX0 0).1 (TX0 0).2.1 (TX0 0).2.2.1 ∈ tz := tz_in 281 (by decide +kernel) (by decide +kernel)
theorem fl_X0_15 : Cond.fieldLink RX0 15 (TX0 1).1 (TX0 1).2.1 (TX0 1).2.2.1 ∈ tz := tz_in 282 (by decide +kernel) (by decide +kernel)
theorem fl_X0_18 : Cond.fieldLink RX0 18 (TX0 2).1 (TX0 2).2.1 (TX0 2).2.2.1 ∈ tz := tz_in 283 (by decide +kernel) (by decide +kernel)
theorem fl_X0_22 : Cond.fieldLink RX0 22 (TX7 4).1 (TX7 4).2.1 (TX7 4).2.2.1 ∈ tz := tz_in 190 (by decide +kernel) (by decide +kernel)
theorem fl_X0_28 : Cond.fieldLink RX0 28 (TX3 2).1 (TX3 2).2.1 (TX3 2).2.2.1 ∈ tz := tz_in 157 (by decide +kernel) (by decide +kernel)
theorem fl_X1_7 : Cond.fieldLink RX1 7 (TX1 0).1 (TX1 0).2.1 (TX1 0).2.2.1 ∈ tz := tz_in 237 (by decide +kernel) (by decide +kernel)
theorem fl_X2_9 : Cond.fieldLink RX2 9 (TX2 0).1 (TX2 0).2.1 (TX2 0).2.2.1 ∈ tz := tz_in 249 (by decide +kernel) (by decide +kernel)
theorem fl_X2_15 : Cond.fieldLink RX2 15 (TX2 1).1 (TX2 1).2.1 (TX2 1).2.2.1 ∈ tz := tz_in 250 (by decide +kernel) (by decide +kernel)
theorem fl_X2_18 : Cond.fieldLink RX2 18 (TX2 2).1 (TX2 2).2.1 (TX2 2).2.2.1 ∈ tz := tz_in 251 (by decide +kernel) (by decide +kernel)
theorem fl_X2_21 : Cond.fieldLink RX2 21 (TX2 5).1 (TX2 5).2.1 (TX2 5).2.2.1 ∈ tz := tz_in 255 (by decide +kernel) (by decide +kernel)
theorem fl_X2_24 : Cond.fieldLink RX2 24 (TX2 6).1 (TX2 6).2.1 (TX2 6).2.2.1 ∈ tz := tz_in 256 (by decide +kernel) (by decide +kernel)
theorem fl_X2_27 : Cond.fieldLink RX2 27 (TX2 7).1 (TX2 7).2.1 (TX2 7).2.2.1 ∈ tz := tz_in 257 (by decide +kernel) (by decide +kernel)
theorem fl_X2_30 : Cond.fieldLink RX2 30 (TX2 3).1 (TX2 3).2.1 (TX2 3).2.2.1 ∈ tz := tz_in 252 (by decide +kernel) (by decide +kernel)
theorem fl_X2_39 : Cond.fieldLink RX2 39 (TX2 4).1 (TX2 4).2.1 (TX2 4).2.2.1 ∈ tz := tz_in 254 (by decide +kernel) (by decide +kernel)
theorem fl_X2_42 : Cond.fieldLink RX2 42 (TX6 3).1 (TX6 3).2.1 (TX6 3).2.2.1 ∈ tz := tz_in 105 (by decide +kernel) (by decide +kernel)
theorem fl_X3_9 : Cond.fieldLink RX3 9 (TX3 3).1 (TX3 3).2.1 (TX3 3).2.2.1 ∈ tz := tz_in 160 (by decide +kernel) (by decide +kernel)
theorem fl_X3_15 : Cond.fieldLink RX3 15 (TX3 4).1 (TX3 4).2.1 (TX3 4).2.2.1 ∈ tz := tz_in 164 (by decide +kernel) (by decide +kernel)
theorem fl_X3_18 : Cond.fieldLink RX3 18 (TX6 4).1 (TX6 4).2.1 (TX6 4).2.2.1 ∈ tz := tz_in 110 (by decide +kernel) (by decide +kernel)
theorem fl_X3_23 : Cond.fieldLink RX3 23 (TX3 0).1 (TX3 0).2.1 (TX3 0).2.2.1 ∈ tz := tz_in 151 (by decide +kernel) (by decide +kernel)
theorem fl_X3_26 : Cond.fieldLink RX3 26 (TX3 1).1 (TX3 1).2.1 (TX3 1).2.2.1 ∈ tz := tz_in 153 (by decide +kernel) (by decide +kernel)
theorem fl_X3_29 : Cond.fieldLink RX3 29 (TX3 2).1 (TX3 2).2.1 (TX3 2).2.2.1 ∈ tz := tz_in 156 (by decide +kernel) (by decide +kernel)
theorem fl_X3_32 : Cond.fieldLink RX3 32 (TX6 5).1 (TX6 5).2.1 (TX6 5).2.2.1 ∈ tz := tz_in 113 (by decide +kernel) (by decide +kernel)
theorem fl_X4_11 : Cond.fieldLink RX4 11 (TX4 0).1 (TX4 0).2.1 (TX4 0).2.2.1 ∈ tz := tz_in 210 (by decide +kernel) (by decide +kernel)
theorem fl_X4_16 : Cond.fieldLink RX4 16 (TX4 3).1 (TX4 3).2.1 (TX4 3).2.2.1 ∈ tz := tz_in 214 (by decide +kernel) (by decide +kernel)
theorem fl_X4_19 : Cond.fieldLink RX4 19 (TX4 4).1 (TX4 4).2.1 (TX4 4).2.2.1 ∈ tz := tz_in 215 (by decide +kernel) (by decide +kernel)
theorem fl_X4_23 : Cond.fieldLink RX4 23 (TX4 1).1 (TX4 1).2.1 (TX4 1).2.2.1 ∈ tz := tz_in 211 (by decide +kernel) (by decide +kernel)
theorem fl_X4_33 : Cond.fieldLink RX4 33 (TX4 2).1 (TX4 2).2.1 (TX4 2).2.2.1 ∈ tz := tz_in 212 (by decide +kernel) (by decide +kernel)
theorem fl_X4_45 : Cond.fieldLink RX4 45 (TX4 5).1 (TX4 5).2.1 (TX4 5).2.2.1 ∈ tz := tz_in 217 (by decide +kernel) (by decide +kernel)
theorem fl_X4_48 : Cond.fieldLink RX4 48 (TX1 0).1 (TX1 0).2.1 (TX1 0).2.2.1 ∈ tz := tz_in 238 (by decide +kernel) (by decide +kernel)
theorem fl_X5_9 : Cond.fieldLink RX5 9 (TX5 0).1 (TX5 0).2.1 (TX5 0).2.2.1 ∈ tz := tz_in 326 (by decide +kernel) (by decide +kernel)
theorem fl_X5_15 : Cond.fieldLink RX5 15 (TX5 1).1 (TX5 1).2.1 (TX5 1).2.2.1 ∈ tz := tz_in 328 (by decide +kernel) (by decide +kernel)
theorem fl_X5_18 : Cond.fieldLink RX5 18 (TX5 2).1 (TX5 2).2.1 (TX5 2).2.2.1 ∈ tz := tz_in 329 (by decide +kernel) (by decide +kernel)
theorem fl_X6_9 : Cond.fieldLink RX6 9 (TX6 4).1 (TX6 4).2.1 (TX6 4).2.2.1 ∈ tz := tz_in 109 (by decide +kernel) (by decide +kernel)
theorem fl_X6_17 : Cond.fieldLink RX6 17 (TX6 5).1 (TX6 5).2.1 (TX6 5).2.2.1 ∈ tz := tz_in 112 (by decide +kernel) (by decide +kernel)
theorem fl_X6_20 : Cond.fieldLink RX6 20 (TX6 6).1 (TX6 6).2.1 (TX6 6).2.2.1 ∈ tz := tz_in 115 (by decide +kernel) (by decide +kernel)
theorem fl_X6_23 : Cond.fieldLink RX6 23 (TX6 7).1 (TX6 7).2.1 (TX6 7).2.2.1 ∈ tz := tz_in 118 (by decide +kernel) (by decide +kernel)
theorem fl_X6_26 : Cond.fieldLink RX6 26 (TX6 0).1 (TX6 0).2.1 (TX6 0).2.2.1 ∈ tz := tz_in 92 (by decide +kernel) (by decide +kernel)
theorem fl_X6_30 : Cond.fieldLink RX6 30 (TX6 1).1 (TX6 1).2.1 (TX6 1).2.2.1 ∈ tz := tz_in 96 (by decide +kernel) (by decide +kernel)
theorem fl_X6_33 : Cond.fieldLink RX6 33 (TX6 2).1 (TX6 2).2.1 (TX6 2).2.2.1 ∈ tz := tz_in 100 (by decide +kernel) (by decide +kernel)
theorem fl_X6_36 : Cond.fieldLink RX6 36 (TX6 3).1 (TX6 3).2.1 (TX6 3).2.2.1 ∈ tz := tz_in 104 (by decide +kernel) (by decide +kernel)
theorem fl_X6_39 : Cond.fieldLink RX6 39 (TX3 3).1 (TX3 3).2.1 (TX3 3).2.2.1 ∈ tz := tz_in 163 (by decide +kernel) (by decide +kernel)
theorem fl_X6_43 : Cond.fieldLink RX6 43 (TX3 4).1 (TX3 4).2.1 (TX3 4).2.2.1 ∈ tz := tz_in 166 (by decide +kernel) (by decide +kernel)
theorem fl_X7_11 : Cond.fieldLink RX7 11 (TX7 4).1 (TX7 4).2.1 (TX7 4).2.2.1 ∈ tz := tz_in 188 (by decide +kernel) (by decide +kernel)
theorem fl_X7_17 : Cond.fieldLink RX7 17 (TX7 0).1 (TX7 0).2.1 (TX7 0).2.2.1 ∈ tz := tz_in 179 (by decide +kernel) (by decide +kernel)
theorem fl_X7_22 : Cond.fieldLink RX7 22 (TX7 1).1 (TX7 1).2.1 (TX7 1).2.2.1 ∈ tz := tz_in 180 (by decide +kernel) (by decide +kernel)
theorem fl_X7_26 : Cond.fieldLink RX7 26 (TX6 1).1 (TX6 1).2.1 (TX6 1).2.2.1 ∈ tz := tz_in 97 (by decide +kernel) (by decide +kernel)
theorem fl_X7_31 : Cond.fieldLink RX7 31 (TX7 2).1 (TX7 2).2.1 (TX7 2).2.2.1 ∈ tz := tz_in 183 (by decide +kernel) (by decide +kernel)
theorem fl_X7_32 : Cond.fieldLink RX7 32 (TX7 3).1 (TX7 3).2.1 (TX7 3).2.2.1 ∈ tz := tz_in 186 (by decide +kernel) (by decide +kernel)
theorem fl_X7_35 : Cond.fieldLink RX7 35 (TX6 2).1 (TX6 2).2.1 (TX6 2).2.2.1 ∈ tz := tz_in 101 (by decide +kernel) (by decide +kernel)
theorem fl_X7_41 : Cond.fieldLink RX7 41 (TX3 1).1 (TX3 1).2.1 (TX3 1).2.2.1 ∈ tz := tz_in 154 (by decide +kernel) (by decide +kernel)
theorem fl_X7_48 : Cond.fieldLink RX7 48 (TX6 0).1 (TX6 0).2.1 (TX6 0).2.2.1 ∈ tz := tz_in 93 (by decide +kernel) (by decide +kernel)
theorem fl_X7_61 : Cond.fieldLink RX7 61 (TX3 2).1 (TX3 2).2.1 (TX3 2).2.2.1 ∈ tz := tz_in 158 (by decide +kernel) (by decide +kernel)
theorem fl_X7_64 : Cond.fieldLink RX7 64 (TX3 3).1 (TX3 3).2.1 (TX3 3).2.2.1 ∈ tz := tz_in 161 (by decide +kernel) (by decide +kernel)
theorem fl_X7_88 : Cond.fieldLink RX7 88 (TX6 3).1 (TX6 3).2.1 (TX6 3).2.2.1 ∈ tz := tz_in 108 (by decide +kernel) (by decide +kernel)
theorem fl_X7_111 : Cond.fieldLink RX7 111 (TX3 4).1 (TX3 4).2.1 (TX3 4).2.2.1 ∈ tz := tz_in 167 (by decide +kernel) (by decide +kernel)
theorem fl_X8_9 : Cond.fieldLink RX8 9 (TX8 0).1 (TX8 0).2.1 (TX8 0).2.2.1 ∈ tz := tz_in 64 (by decide +kernel) (by decide +kernel)
theorem fl_X8_15 : Cond.fieldLink RX8 15 (TX8 4).1 (TX8 4).2.1 (TX8 4).2.2.1 ∈ tz := tz_in 70 (by decide +kernel) (by decide +kernel)
theorem fl_X8_19 : Cond.fieldLink RX8 19 (TX8 1).1 (TX8 1).2.1 (TX8 1).2.2.1 ∈ tz := tz_in 65 (by decide +kernel) (by decide +kernel)
theorem fl_X8_27 : Cond.fieldLink RX8 27 (TX8 2).1 (TX8 2).2.1 (TX8 2).2.2.1 ∈ tz := tz_in 67 (by decide +kernel) (by decide +kernel)
theorem fl_X8_30 : Cond.fieldLink RX8 30 (TX8 3).1 (TX8 3).2.1 (TX8 3).2.2.1 ∈ tz := tz_in 68 (by decide +kernel) (by decide +kernel)
theorem fl_X8_69 : Cond.fieldLink RX8 69 (TX6 2).1 (TX6 2).2.1 (TX6 2).2.2.1 ∈ tz := tz_in 103 (by decide +kernel) (by decide +kernel)
theorem fl_X8_72 : Cond.fieldLink RX8 72 (TX6 3).1 (TX6 3).2.1 (TX6 3).2.2.1 ∈ tz := tz_in 107 (by decide +kernel) (by decide +kernel)
theorem fl_X8_79 : Cond.fieldLink RX8 79 (TX6 0).1 (TX6 0).2.1 (TX6 0).2.2.1 ∈ tz := tz_in 95 (by decide +kernel) (by decide +kernel)
theorem fl_X8_82 : Cond.fieldLink RX8 82 (TX6 1).1 (TX6 1).2.1 (TX6 1).2.2.1 ∈ tz := tz_in 99 (by decide +kernel) (by decide +kernel)
theorem fl_X8_85 : Cond.fieldLink RX8 85 (TX6 4).1 (TX6 4).2.1 (TX6 4).2.2.1 ∈ tz := tz_in 111 (by decide +kernel) (by decide +kernel)
theorem fl_X8_88 : Cond.fieldLink RX8 88 (TX6 5).1 (TX6 5).2.1 (TX6 5).2.2.1 ∈ tz := tz_in 114 (by decide +kernel) (by decide +kernel)
theorem fl_X8_92 : Cond.fieldLink RX8 92 (TX6 6).1 (TX6 6).2.1 (TX6 6).2.2.1 ∈ tz := tz_in 117 (by decide +kernel) (by decide +kernel)
theorem fl_X8_95 : Cond.fieldLink RX8 95 (TX6 7).1 (TX6 7).2.1 (TX6 7).2.2.1 ∈ tz := tz_in 120 (by decide +kernel) (by decide +kernel)
theorem fl_X9_12 : Cond.fieldLink RX9 12 (TX9 0).1 (TX9 0).2.1 (TX9 0).2.2.1 ∈ tz := tz_in 300 (by decide +kernel) (by decide +kernel)
theorem fl_X9_18 : Cond.fieldLink RX9 18 (TX7 4).1 (TX7 4).2.1 (TX7 4).2.2.1 ∈ tz := tz_in 189 (by decide +kernel) (by decide +kernel)
theorem fl_X9_28 : Cond.fieldLink RX9 28 (TX7 2).1 (TX7 2).2.1 (TX7 2).2.2.1 ∈ tz := tz_in 184 (by decide +kernel) (by decide +kernel)
theorem fl_X9_32 : Cond.fieldLink RX9 32 (TX9 1).1 (TX9 1).2.1 (TX9 1).2.2.1 ∈ tz := tz_in 302 (by decide +kernel) (by decide +kernel)
theorem fl_X9_33 : Cond.fieldLink RX9 33 (TX7 1).1 (TX7 1).2.1 (TX7 1).2.2.1 ∈ tz := tz_in 181 (by decide +kernel) (by decide +kernel)
theorem fl_X9_36 : Cond.fieldLink RX9 36 (TX9 2).1 (TX9 2).2.1 (TX9 2).2.2.1 ∈ tz := tz_in 303 (by decide +kernel) (by decide +kernel)
theorem fl_X9_44 : Cond.fieldLink RX9 44 (TX6 1).1 (TX6 1).2.1 (TX6 1).2.2.1 ∈ tz := tz_in 98 (by decide +kernel) (by decide +kernel)
theorem fl_X9_47 : Cond.fieldLink RX9 47 (TX9 3).1 (TX9 3).2.1 (TX9 3).2.2.1 ∈ tz := tz_in 304 (by decide +kernel) (by decide +kernel)
theorem fl_X9_50 : Cond.fieldLink RX9 50 (TX9 4).1 (TX9 4).2.1 (TX9 4).2.2.1 ∈ tz := tz_in 305 (by decide +kernel) (by decide +kernel)
theorem fl_X9_53 : Cond.fieldLink RX9 53 (TX9 5).1 (TX9 5).2.1 (TX9 5).2.2.1 ∈ tz := tz_in 306 (by decide +kernel) (by decide +kernel)
theorem fl_X11_7 : Cond.fieldLink RX11 7 (TX11 3).1 (TX11 3).2.1 (TX11 3).2.2.1 ∈ tz := tz_in 869 (by decide +kernel) (by decide +kernel)
theorem fl_X11_13 : Cond.fieldLink RX11 13 (TX11 4).1 (TX11 4).2.1 (TX11 4).2.2.1 ∈ tz := tz_in 870 (by decide +kernel) (by decide +kernel)
theorem fl_X11_16 : Cond.fieldLink RX11 16 (TX11 6).1 (TX11 6).2.1 (TX11 6).2.2.1 ∈ tz := tz_in 872 (by decide +kernel) (by decide +kernel)
theorem fl_X11_19 : Cond.fieldLink RX11 19 (TX11 7).1 (TX11 7).2.1 (TX11 7).2.2.1 ∈ tz := tz_in 873 (by decide +kernel) (by decide +kernel)
theorem fl_X11_22 : Cond.fieldLink RX11 22 (TX11 8).1 (TX11 8).2.1 (TX11 8).2.2.1 ∈ tz := tz_in 874 (by decide +kernel) (by decide +kernel)
theorem fl_X11_25 : Cond.fieldLink RX11 25 (TX11 11).1 (TX11 11).2.1 (TX11 11).2.2.1 ∈ tz := tz_in 877 (by decide +kernel) (by decide +kernel)
theorem fl_X11_28 : Cond.fieldLink RX11 28 (TX11 12).1 (TX11 12).2.1 (TX11 12).2.2.1 ∈ tz := tz_in 878 (by decide +kernel) (by decide +kernel)
theorem fl_X11_31 : Cond.fieldLink RX11 31 (TX11 13).1 (TX11 13).2.1 (TX11 13).2.2.1 ∈ tz := tz_in 879 (by decide +kernel) (by decide +kernel)
theorem fl_X11_34 : Cond.fieldLink RX11 34 (TX11 15).1 (TX11 15).2.1 (TX11 15).2.2.1 ∈ tz := tz_in 881 (by decide +kernel) (by decide +kernel)
theorem fl_X11_37 : Cond.fieldLink RX11 37 (TX11 16).1 (TX11 16).2.1 (TX11 16).2.2.1 ∈ tz := tz_in 882 (by decide +kernel) (by decide +kernel)
theorem fl_X11_40 : Cond.fieldLink RX11 40 (TX11 17).1 (TX11 17).2.1 (TX11 17).2.2.1 ∈ tz := tz_in 883 (by decide +kernel) (by decide +kernel)
theorem fl_X11_43 : Cond.fieldLink RX11 43 (TX11 19).1 (TX11 19).2.1 (TX11 19).2.2.1 ∈ tz := tz_in 885 (by decide +kernel) (by decide +kernel)
theorem fl_X11_47 : Cond.fieldLink RX11 47 (TX11 26).1 (TX11 26).2.1 (TX11 26).2.2.1 ∈ tz := tz_in 892 (by decide +kernel) (by decide +kernel)
theorem fl_X11_50 : Cond.fieldLink RX11 50 (TX11 27).1 (TX11 27).2.1 (TX11 27).2.2.1 ∈ tz := tz_in 893 (by decide +kernel) (by decide +kernel)
theorem fl_X11_53 : Cond.fieldLink RX11 53 (TX11 29).1 (TX11 29).2.1 (TX11 29).2.2.1 ∈ tz := tz_in 895 (by decide +kernel) (by decide +kernel)
theorem fl_X11_56 : Cond.fieldLink RX11 56 (TX11 30).1 (TX11 30).2.1 (TX11 30).2.2.1 ∈ tz := tz_in 896 (by decide +kernel) (by decide +kernel)
theorem fl_X11_59 : Cond.fieldLink RX11 59 (TX11 31).1 (TX11 31).2.1 (TX11 31).2.2.1 ∈ tz := tz_in 897 (by decide +kernel) (by decide +kernel)
theorem fl_X11_62 : Cond.fieldLink RX11 62 (TX11 32).1 (TX11 32).2.1 (TX11 32).2.2.1 ∈ tz := tz_in 898 (by decide +kernel) (by decide +kernel)
theorem fl_X11_65 : Cond.fieldLink RX11 65 (TX11 33).1 (TX11 33).2.1 (TX11 33).2.2.1 ∈ tz := tz_in 899 (by decide +kernel) (by decide +kernel)
theorem fl_X11_68 : Cond.fieldLink RX11 68 (TX11 35).1 (TX11 35).2.1 (TX11 35).2.2.1 ∈ tz := tz_in 901 (by decide +kernel) (by decide +kernel)
theorem fl_X11_71 : Cond.fieldLink RX11 71 (TX11 36).1 (TX11 36).2.1 (TX11 36).2.2.1 ∈ tz := tz_in 902 (by decide +kernel) (by decide +kernel)
theorem fl_X11_74 : Cond.fieldLink RX11 74 (TX11 37).1 (TX11 37).2.1 (TX11 37).2.2.1 ∈ tz := tz_in 903 (by decide +kernel) (by decide +kernel)
theorem fl_X11_77 : Cond.fieldLink RX11 77 (TX11 38).1 (TX11 38).2.1 (TX11 38).2.2.1 ∈ tz := tz_in 904 (by decide +kernel) (by decide +kernel)
theorem fl_X11_81 : Cond.fieldLink RX11 81 (TX11 39).1 (TX11 39).2.1 (TX11 39).2.2.1 ∈ tz := tz_in 905 (by decide +kernel) (by decide +kernel)
theorem fl_X11_84 : Cond.fieldLink RX11 84 (TX11 40).1 (TX11 40).2.1 (TX11 40).2.2.1 ∈ tz := tz_in 906 (by decide +kernel) (by decide +kernel)
theorem fl_X11_87 : Cond.fieldLink RX11 87 (TX11 41).1 (TX11 41).2.1 (TX11 41).2.2.1 ∈ tz := tz_in 907 (by decide +kernel) (by decide +kernel)
theorem fl_X11_90 : Cond.fieldLink RX11 90 (TX11 0).1 (TX11 0).2.1 (TX11 0).2.2.1 ∈ tz := tz_in 866 (by decide +kernel) (by decide +kernel)
theorem fl_X11_93 : Cond.fieldLink RX11 93 (TX11 2).1 (TX11 2).2.1 (TX11 2).2.2.1 ∈ tz := tz_in 868 (by decide +kernel) (by decide +kernel)
theorem fl_X11_100 : Cond.fieldLink RX11 100 (TX11 5).1 (TX11 5).2.1 (TX11 5).2.2.1 ∈ tz := tz_in 871 (by decide +kernel) (by decide +kernel)
theorem fl_X11_108 : Cond.fieldLink RX11 108 (TX11 18).1 (TX11 18).2.1 (TX11 18).2.2.1 ∈ tz := tz_in 884 (by decide +kernel) (by decide +kernel)
theorem fl_X11_112 : Cond.fieldLink RX11 112 (TX11 20).1 (TX11 20).2.1 (TX11 20).2.2.1 ∈ tz := tz_in 886 (by decide +kernel) (by decide +kernel)
theorem fl_X11_127 : Cond.fieldLink RX11 127 (TX11 22).1 (TX11 22).2.1 (TX11 22).2.2.1 ∈ tz := tz_in 888 (by decide +kernel) (by decide +kernel)
theorem fl_X11_130 : Cond.fieldLink RX11 130 (TX11 21).1 (TX11 21).2.1 (TX11 21).2.2.1 ∈ tz := tz_in 887 (by decide +kernel) (by decide +kernel)
theorem fl_X11_136 : Cond.fieldLink RX11 136 (TX11 23).1 (TX11 23).2.1 (TX11 23).2.2.1 ∈ tz := tz_in 889 (by decide +kernel) (by decide +kernel)
theorem fl_X11_139 : Cond.fieldLink RX11 139 (TX11 24).1 (TX11 24).2.1 (TX11 24).2.2.1 ∈ tz := tz_in 890 (by decide +kernel) (by decide +kernel)
theorem fl_X11_142 : Cond.fieldLink RX11 142 (TX11 25).1 (TX11 25).2.1 (TX11 25).2.2.1 ∈ tz := tz_in 891 (by decide +kernel) (by decide +kernel)
theorem fl_X11_145 : Cond.fieldLink RX11 145 (TX11 28).1 (TX11 28).2.1 (TX11 28).2.2.1 ∈ tz := tz_in 894 (by decide +kernel) (by decide +kernel)
theorem fl_X11_165 : Cond.fieldLink RX11 165 (TX11 1).1 (TX11 1).2.1 (TX11 1).2.2.1 ∈ tz := tz_in 867 (by decide +kernel) (by decide +kernel)
theorem fl_X11_174 : Cond.fieldLink RX11 174 (TX11 10).1 (TX11 10).2.1 (TX11 10).2.2.1 ∈ tz := tz_in 876 (by decide +kernel) (by decide +kernel)
theorem fl_X11_177 : Cond.fieldLink RX11 177 (TX11 14).1 (TX11 14).2.1 (TX11 14).2.2.1 ∈ tz := tz_in 880 (by decide +kernel) (by decide +kernel)
theorem fl_X11_180 : Cond.fieldLink RX11 180 (TX11 34).1 (TX11 34).2.1 (TX11 34).2.2.1 ∈ tz := tz_in 900 (by decide +kernel) (by decide +kernel)
theorem fl_X11_265 : Cond.fieldLink RX11 265 (TX11 9).1 (TX11 9).2.1 (TX11 9).2.2.1 ∈ tz := tz_in 875 (by decide +kernel) (by decide +kernel)
theorem kc_X10_81 : Cond.constant RX10 81 (-1000000002) ∈ tz := tz_in 375 (by decide +kernel) (by decide +kernel)
theorem kc_X10_86 : Cond.constant RX10 86 (-1000000004) ∈ tz := tz_in 376 (by decide +kernel) (by decide +kernel)
theorem kc_X10_149 : Cond.constant RX10 149 (-1000000001) ∈ tz := tz_in 504 (by decide +kernel) (by decide +kernel)
theorem kc_X10_201 : Cond.constant RX10 201 (-1000000003) ∈ tz := tz_in 539 (by decide +kernel) (by decide +kernel)
theorem kc_X10_307 : Cond.constant RX10 307 (99999) ∈ tz := tz_in 819 (by decide +kernel) (by decide +kernel)
theorem kc_X1_19 : Cond.constant RX1 19 (65536) ∈ tz := tz_in 636 (by decide +kernel) (by decide +kernel)
theorem kc_X7_68 : Cond.constant RX7 68 (999999) ∈ tz := tz_in 606 (by decide +kernel) (by decide +kernel)
theorem kc_X7_75 : Cond.constant RX7 75 (99999) ∈ tz := tz_in 616 (by decide +kernel) (by decide +kernel)
theorem kc_X11_107 : Cond.constant RX11 107 (-1000000002) ∈ tz := tz_in 1002 (by decide +kernel) (by decide +kernel)
theorem kc_X11_111 : Cond.constant RX11 111 (-1000000004) ∈ tz := tz_in 1003 (by decide +kernel) (by decide +kernel)
theorem kc_X11_193 : Cond.constant RX11 193 (1000000) ∈ tz := tz_in 1066 (by decide +kernel) (by decide +kernel)
theorem kc_X11_197 : Cond.constant RX11 197 (-1000000) ∈ tz := tz_in 1087 (by decide +kernel) (by decide +kernel)
theorem kc_X11_213 : Cond.constant RX11 213 (-1000000001) ∈ tz := tz_in 1096 (by decide +kernel) (by decide +kernel)
theorem kc_X11_236 : Cond.constant RX11 236 (-1000000003) ∈ tz := tz_in 1134 (by decide +kernel) (by decide +kernel)
theorem kc_X11_252 : Cond.constant RX11 252 (999999) ∈ tz := tz_in 1177 (by decide +kernel) (by decide +kernel)
theorem kc_X11_258 : Cond.constant RX11 258 (99999) ∈ tz := tz_in 1186 (by decide +kernel) (by decide +kernel)
theorem kc_X11_274 : Cond.constant RX11 274 (65536) ∈ tz := tz_in 1207 (by decide +kernel) (by decide +kernel)
theorem kc_J6_265 : Cond.constant RJ6 265 (1431655765) ∈ tz := tz_in 591 (by decide +kernel) (by decide +kernel)
theorem kc_J6_266 : Cond.constant RJ6 266 (858993459) ∈ tz := tz_in 592 (by decide +kernel) (by decide +kernel)
theorem kc_J6_267 : Cond.constant RJ6 267 (252645135) ∈ tz := tz_in 593 (by decide +kernel) (by decide +kernel)
theorem kl_X10_282 : Cond.constantLong RX10 282 (1000000000) ∈ tz := tz_in 774 (by decide +kernel) (by decide +kernel)
theorem kl_X10_284 : Cond.constantLong RX10 284 (100) ∈ tz := tz_in 775 (by decide +kernel) (by decide +kernel)
theorem kl_X1_13 : Cond.constantLong RX1 13 (1103515245) ∈ tz := tz_in 633 (by decide +kernel) (by decide +kernel)
theorem kl_X1_15 : Cond.constantLong RX1 15 (12345) ∈ tz := tz_in 634 (by decide +kernel) (by decide +kernel)
theorem kl_X1_17 : Cond.constantLong RX1 17 (2147483647) ∈ tz := tz_in 635 (by decide +kernel) (by decide +kernel)
theorem kl_X11_103 : Cond.constantLong RX11 103 (4) ∈ tz := tz_in 1112 (by decide +kernel) (by decide +kernel)
theorem kl_X11_105 : Cond.constantLong RX11 105 (255) ∈ tz := tz_in 998 (by decide +kernel) (by decide +kernel)
theorem kl_X11_119 : Cond.constantLong RX11 119 (48) ∈ tz := tz_in 1036 (by decide +kernel) (by decide +kernel)
theorem kl_X11_121 : Cond.constantLong RX11 121 (57) ∈ tz := tz_in 1037 (by decide +kernel) (by decide +kernel)
theorem kl_X11_234 : Cond.constantLong RX11 234 (60) ∈ tz := tz_in 1133 (by decide +kernel) (by decide +kernel)
theorem kl_X11_253 : Cond.constantLong RX11 253 (30) ∈ tz := tz_in 1172 (by decide +kernel) (by decide +kernel)
theorem kl_X11_263 : Cond.constantLong RX11 263 (9) ∈ tz := tz_in 1191 (by decide +kernel) (by decide +kernel)
theorem kl_X11_268 : Cond.constantLong RX11 268 (1103515245) ∈ tz := tz_in 1204 (by decide +kernel) (by decide +kernel)
theorem kl_X11_270 : Cond.constantLong RX11 270 (12345) ∈ tz := tz_in 1205 (by decide +kernel) (by decide +kernel)
theorem kl_X11_272 : Cond.constantLong RX11 272 (2147483648) ∈ tz := tz_in 1206 (by decide +kernel) (by decide +kernel)
theorem kl_X11_281 : Cond.constantLong RX11 281 (200) ∈ tz := tz_in 1216 (by decide +kernel) (by decide +kernel)
theorem kl_X11_286 : Cond.constantLong RX11 286 (2) ∈ tz := tz_in 1229 (by decide +kernel) (by decide +kernel)
theorem kl_X11_291 : Cond.constantLong RX11 291 (100) ∈ tz := tz_in 1250 (by decide +kernel) (by decide +kernel)
theorem kl_X11_293 : Cond.constantLong RX11 293 (1000000000) ∈ tz := tz_in 1251 (by decide +kernel) (by decide +kernel)
theorem kl_X11_295 : Cond.constantLong RX11 295 (99) ∈ tz := tz_in 1256 (by decide +kernel) (by decide +kernel)
theorem kl_X11_303 : Cond.constantLong RX11 303 (99999) ∈ tz := tz_in 1277 (by decide +kernel) (by decide +kernel)
theorem cd_X0_add : Cond.code yX0_add cX0_add 3 (some .int) ∈ tz := tz_in 823 (by decide +kernel) (by decide +kernel)
theorem im_X0_add : Cond.instanceMethod yX0_add ∈ tz := tz_in 821 (by decide +kernel) (by decide +kernel)
theorem se_X0_add : Cond.selects RX0 yX0_add yX0_add ∈ tz := tz_in 822 (by decide +kernel) (by decide +kernel)
theorem hc_X0_add : yX0_add.cls = RX0 ∧ yX0_add.cls ≠ "java/lang/invoke/MethodHandle" ∧ yX0_add.cls ≠ "java/lang/invoke/VarHandle" ∧ (parseMethodDescriptor yX0_add.desc).map (fun d => d.parameters.length) = some 2 := by decide +kernel
theorem cd_X0_firstWrong : Cond.code yX0_firstWrong cX0_firstWrong 3 (some .int) ∈ tz := tz_in 835 (by decide +kernel) (by decide +kernel)
theorem im_X0_firstWrong : Cond.instanceMethod yX0_firstWrong ∈ tz := tz_in 833 (by decide +kernel) (by decide +kernel)
theorem se_X0_firstWrong : Cond.selects RX0 yX0_firstWrong yX0_firstWrong ∈ tz := tz_in 834 (by decide +kernel) (by decide +kernel)
theorem hc_X0_firstWrong : yX0_firstWrong.cls = RX0 ∧ yX0_firstWrong.cls ≠ "java/lang/invoke/MethodHandle" ∧ yX0_firstWrong.cls ≠ "java/lang/invoke/VarHandle" ∧ (parseMethodDescriptor yX0_firstWrong.desc).map (fun d => d.parameters.length) = some 1 := by decide +kernel
theorem cd_X1_next : Cond.code yX1_next cX1_next 2 (some .int) ∈ tz := tz_in 632 (by decide +kernel) (by decide +kernel)
theorem im_X1_next : Cond.instanceMethod yX1_next ∈ tz := tz_in 630 (by decide +kernel) (by decide +kernel)
theorem se_X1_next : Cond.selects RX1 yX1_next yX1_next ∈ tz := tz_in 631 (by decide +kernel) (by decide +kernel)
theorem hc_X1_next : yX1_next.cls = RX1 ∧ yX1_next.cls ≠ "java/lang/invoke/MethodHandle" ∧ yX1_next.cls ≠ "java/lang/invoke/VarHandle" ∧ (parseMethodDescriptor yX1_next.desc).map (fun d => d.parameters.length) = some 1 := by decide +kernel
theorem cd_X2_add : Cond.code yX2_add cX2_add 4 (some .int) ∈ tz := tz_in 783 (by decide +kernel) (by decide +kernel)
theorem im_X2_add : Cond.instanceMethod yX2_add ∈ tz := tz_in 781 (by decide +kernel) (by decide +kernel)
theorem se_X2_add : Cond.selects RX2 yX2_add yX2_add ∈ tz := tz_in 782 (by decide +kernel) (by decide +kernel)
theorem hc_X2_add : yX2_add.cls = RX2 ∧ yX2_add.cls ≠ "java/lang/invoke/MethodHandle" ∧ yX2_add.cls ≠ "java/lang/invoke/VarHandle" ∧ (parseMethodDescriptor yX2_add.desc).map (fun d => d.parameters.length) = some 3 := by decide +kernel
theorem cd_X2_agree : Cond.code yX2_agree cX2_agree 5 (some .boolean) ∈ tz := tz_in 796 (by decide +kernel) (by decide +kernel)
theorem im_X2_agree : Cond.instanceMethod yX2_agree ∈ tz := tz_in 794 (by decide +kernel) (by decide +kernel)
theorem se_X2_agree : Cond.selects RX2 yX2_agree yX2_agree ∈ tz := tz_in 795 (by decide +kernel) (by decide +kernel)
theorem hc_X2_agree : yX2_agree.cls = RX2 ∧ yX2_agree.cls ≠ "java/lang/invoke/MethodHandle" ∧ yX2_agree.cls ≠ "java/lang/invoke/VarHandle" ∧ (parseMethodDescriptor yX2_agree.desc).map (fun d => d.parameters.length) = some 3 := by decide +kernel
theorem cd_X2_clearParts : Cond.code yX2_clearParts cX2_clearParts 2 none ∈ tz := tz_in 805 (by decide +kernel) (by decide +kernel)
theorem im_X2_clearParts : Cond.instanceMethod yX2_clearParts ∈ tz := tz_in 803 (by decide +kernel) (by decide +kernel)
theorem se_X2_clearParts : Cond.selects RX2 yX2_clearParts yX2_clearParts ∈ tz := tz_in 804 (by decide +kernel) (by decide +kernel)
theorem hc_X2_clearParts : yX2_clearParts.cls = RX2 ∧ yX2_clearParts.cls ≠ "java/lang/invoke/MethodHandle" ∧ yX2_clearParts.cls ≠ "java/lang/invoke/VarHandle" ∧ (parseMethodDescriptor yX2_clearParts.desc).map (fun d => d.parameters.length) = some 0 := by decide +kernel
theorem cd_X2_part : Cond.code yX2_part cX2_part 5 none ∈ tz := tz_in 809 (by decide +kernel) (by decide +kernel)
theorem im_X2_part : Cond.instanceMethod yX2_part ∈ tz := tz_in 807 (by decide +kernel) (by decide +kernel)
theorem se_X2_part : Cond.selects RX2 yX2_part yX2_part ∈ tz := tz_in 808 (by decide +kernel) (by decide +kernel)
theorem hc_X2_part : yX2_part.cls = RX2 ∧ yX2_part.cls ≠ "java/lang/invoke/MethodHandle" ∧ yX2_part.cls ≠ "java/lang/invoke/VarHandle" ∧ (parseMethodDescriptor yX2_part.desc).map (fun d => d.parameters.length) = some 2 := by decide +kernel
theorem cd_X2_bestParting : Cond.code yX2_bestParting cX2_bestParting 5 (some .int) ∈ tz := tz_in 814 (by decide +kernel) (by decide +kernel)
theorem im_X2_bestParting : Cond.instanceMethod yX2_bestParting ∈ tz := tz_in 812 (by decide +kernel) (by decide +kernel)
theorem se_X2_bestParting : Cond.selects RX2 yX2_bestParting yX2_bestParting ∈ tz := tz_in 813 (by decide +kernel) (by decide +kernel)
theorem hc_X2_bestParting : yX2_bestParting.cls = RX2 ∧ yX2_bestParting.cls ≠ "java/lang/invoke/MethodHandle" ∧ yX2_bestParting.cls ≠ "java/lang/invoke/VarHandle" ∧ (parseMethodDescriptor yX2_bestParting.desc).map (fun d => d.parameters.length) = some 1 := by decide +kernel
theorem cd_X3_begin : Cond.code yX3_begin cX3_begin 4 none ∈ tz := tz_in 447 (by decide +kernel) (by decide +kernel)
theorem im_X3_begin : Cond.instanceMethod yX3_begin ∈ tz := tz_in 445 (by decide +kernel) (by decide +kernel)
theorem se_X3_begin : Cond.selects RX3 yX3_begin yX3_begin ∈ tz := tz_in 446 (by decide +kernel) (by decide +kernel)
theorem hc_X3_begin : yX3_begin.cls = RX3 ∧ yX3_begin.cls ≠ "java/lang/invoke/MethodHandle" ∧ yX3_begin.cls ≠ "java/lang/invoke/VarHandle" ∧ (parseMethodDescriptor yX3_begin.desc).map (fun d => d.parameters.length) = some 2 := by decide +kernel
theorem cd_X3_copySkin : Cond.code yX3_copySkin cX3_copySkin 3 none ∈ tz := tz_in 671 (by decide +kernel) (by decide +kernel)
theorem im_X3_copySkin : Cond.instanceMethod yX3_copySkin ∈ tz := tz_in 669 (by decide +kernel) (by decide +kernel)
theorem se_X3_copySkin : Cond.selects RX3 yX3_copySkin yX3_copySkin ∈ tz := tz_in 670 (by decide +kernel) (by decide +kernel)
theorem hc_X3_copySkin : yX3_copySkin.cls = RX3 ∧ yX3_copySkin.cls ≠ "java/lang/invoke/MethodHandle" ∧ yX3_copySkin.cls ≠ "java/lang/invoke/VarHandle" ∧ (parseMethodDescriptor yX3_copySkin.desc).map (fun d => d.parameters.length) = some 1 := by decide +kernel
theorem cd_X3_tan : Cond.code yX3_tan cX3_tan 3 none ∈ tz := tz_in 562 (by decide +kernel) (by decide +kernel)
theorem im_X3_tan : Cond.instanceMethod yX3_tan ∈ tz := tz_in 560 (by decide +kernel) (by decide +kernel)
theorem se_X3_tan : Cond.selects RX3 yX3_tan yX3_tan ∈ tz := tz_in 561 (by decide +kernel) (by decide +kernel)
theorem hc_X3_tan : yX3_tan.cls = RX3 ∧ yX3_tan.cls ≠ "java/lang/invoke/MethodHandle" ∧ yX3_tan.cls ≠ "java/lang/invoke/VarHandle" ∧ (parseMethodDescriptor yX3_tan.desc).map (fun d => d.parameters.length) = some 2 := by decide +kernel
theorem cd_X3_thickenAll : Cond.code yX3_thickenAll cX3_thickenAll 4 none ∈ tz := tz_in 566 (by decide +kernel) (by decide +kernel)
theorem im_X3_thickenAll : Cond.instanceMethod yX3_thickenAll ∈ tz := tz_in 564 (by decide +kernel) (by decide +kernel)
theorem se_X3_thickenAll : Cond.selects RX3 yX3_thickenAll yX3_thickenAll ∈ tz := tz_in 565 (by decide +kernel) (by decide +kernel)
theorem hc_X3_thickenAll : yX3_thickenAll.cls = RX3 ∧ yX3_thickenAll.cls ≠ "java/lang/invoke/MethodHandle" ∧ yX3_thickenAll.cls ≠ "java/lang/invoke/VarHandle" ∧ (parseMethodDescriptor yX3_thickenAll.desc).map (fun d => d.parameters.length) = some 2 := by decide +kernel
theorem cd_X3_thicken : Cond.code yX3_thicken cX3_thicken 3 none ∈ tz := tz_in 570 (by decide +kernel) (by decide +kernel)
theorem im_X3_thicken : Cond.instanceMethod yX3_thicken ∈ tz := tz_in 568 (by decide +kernel) (by decide +kernel)
theorem se_X3_thicken : Cond.selects RX3 yX3_thicken yX3_thicken ∈ tz := tz_in 569 (by decide +kernel) (by decide +kernel)
theorem hc_X3_thicken : yX3_thicken.cls = RX3 ∧ yX3_thicken.cls ≠ "java/lang/invoke/MethodHandle" ∧ yX3_thicken.cls ≠ "java/lang/invoke/VarHandle" ∧ (parseMethodDescriptor yX3_thicken.desc).map (fun d => d.parameters.length) = some 2 := by decide +kernel
theorem cd_X3_thinnestPlace : Cond.code yX3_thinnestPlace cX3_thinnestPlace 3 (some .int) ∈ tz := tz_in 578 (by decide +kernel) (by decide +kernel)
theorem im_X3_thinnestPlace : Cond.instanceMethod yX3_thinnestPlace ∈ tz := tz_in 576 (by decide +kernel) (by decide +kernel)
theorem se_X3_thinnestPlace : Cond.selects RX3 yX3_thinnestPlace yX3_thinnestPlace ∈ tz := tz_in 577 (by decide +kernel) (by decide +kernel)
theorem hc_X3_thinnestPlace : yX3_thinnestPlace.cls = RX3 ∧ yX3_thinnestPlace.cls ≠ "java/lang/invoke/MethodHandle" ∧ yX3_thinnestPlace.cls ≠ "java/lang/invoke/VarHandle" ∧ (parseMethodDescriptor yX3_thinnestPlace.desc).map (fun d => d.parameters.length) = some 0 := by decide +kernel
theorem cd_X3_isOver : Cond.code yX3_isOver cX3_isOver 4 (some .boolean) ∈ tz := tz_in 766 (by decide +kernel) (by decide +kernel)
theorem im_X3_isOver : Cond.instanceMethod yX3_isOver ∈ tz := tz_in 764 (by decide +kernel) (by decide +kernel)
theorem se_X3_isOver : Cond.selects RX3 yX3_isOver yX3_isOver ∈ tz := tz_in 765 (by decide +kernel) (by decide +kernel)
theorem hc_X3_isOver : yX3_isOver.cls = RX3 ∧ yX3_isOver.cls ≠ "java/lang/invoke/MethodHandle" ∧ yX3_isOver.cls ≠ "java/lang/invoke/VarHandle" ∧ (parseMethodDescriptor yX3_isOver.desc).map (fun d => d.parameters.length) = some 1 := by decide +kernel
theorem cd_X3_saveTo : Cond.code yX3_saveTo cX3_saveTo 4 none ∈ tz := tz_in 551 (by decide +kernel) (by decide +kernel)
theorem im_X3_saveTo : Cond.instanceMethod yX3_saveTo ∈ tz := tz_in 549 (by decide +kernel) (by decide +kernel)
theorem se_X3_saveTo : Cond.selects RX3 yX3_saveTo yX3_saveTo ∈ tz := tz_in 550 (by decide +kernel) (by decide +kernel)
theorem hc_X3_saveTo : yX3_saveTo.cls = RX3 ∧ yX3_saveTo.cls ≠ "java/lang/invoke/MethodHandle" ∧ yX3_saveTo.cls ≠ "java/lang/invoke/VarHandle" ∧ (parseMethodDescriptor yX3_saveTo.desc).map (fun d => d.parameters.length) = some 2 := by decide +kernel
theorem cd_X3_loadFrom : Cond.code yX3_loadFrom cX3_loadFrom 4 none ∈ tz := tz_in 659 (by decide +kernel) (by decide +kernel)
theorem im_X3_loadFrom : Cond.instanceMethod yX3_loadFrom ∈ tz := tz_in 657 (by decide +kernel) (by decide +kernel)
theorem se_X3_loadFrom : Cond.selects RX3 yX3_loadFrom yX3_loadFrom ∈ tz := tz_in 658 (by decide +kernel) (by decide +kernel)
theorem hc_X3_loadFrom : yX3_loadFrom.cls = RX3 ∧ yX3_loadFrom.cls ≠ "java/lang/invoke/MethodHandle" ∧ yX3_loadFrom.cls ≠ "java/lang/invoke/VarHandle" ∧ (parseMethodDescriptor yX3_loadFrom.desc).map (fun d => d.parameters.length) = some 2 := by decide +kernel
theorem cd_X4_push : Cond.code yX4_push cX4_push 2 none ∈ tz := tz_in 543 (by decide +kernel) (by decide +kernel)
theorem im_X4_push : Cond.instanceMethod yX4_push ∈ tz := tz_in 541 (by decide +kernel) (by decide +kernel)
theorem se_X4_push : Cond.selects RX4 yX4_push yX4_push ∈ tz := tz_in 542 (by decide +kernel) (by decide +kernel)
theorem hc_X4_push : yX4_push.cls = RX4 ∧ yX4_push.cls ≠ "java/lang/invoke/MethodHandle" ∧ yX4_push.cls ≠ "java/lang/invoke/VarHandle" ∧ (parseMethodDescriptor yX4_push.desc).map (fun d => d.parameters.length) = some 1 := by decide +kernel
theorem cd_X4_pop : Cond.code yX4_pop cX4_pop 2 none ∈ tz := tz_in 651 (by decide +kernel) (by decide +kernel)
theorem im_X4_pop : Cond.instanceMethod yX4_pop ∈ tz := tz_in 649 (by decide +kernel) (by decide +kernel)
theorem se_X4_pop : Cond.selects RX4 yX4_pop yX4_pop ∈ tz := tz_in 650 (by decide +kernel) (by decide +kernel)
theorem hc_X4_pop : yX4_pop.cls = RX4 ∧ yX4_pop.cls ≠ "java/lang/invoke/MethodHandle" ∧ yX4_pop.cls ≠ "java/lang/invoke/VarHandle" ∧ (parseMethodDescriptor yX4_pop.desc).map (fun d => d.parameters.length) = some 1 := by decide +kernel
theorem cd_X4_hasImage : Cond.code yX4_hasImage cX4_hasImage 2 (some .boolean) ∈ tz := tz_in 855 (by decide +kernel) (by decide +kernel)
theorem im_X4_hasImage : Cond.instanceMethod yX4_hasImage ∈ tz := tz_in 853 (by decide +kernel) (by decide +kernel)
theorem se_X4_hasImage : Cond.selects RX4 yX4_hasImage yX4_hasImage ∈ tz := tz_in 854 (by decide +kernel) (by decide +kernel)
theorem hc_X4_hasImage : yX4_hasImage.cls = RX4 ∧ yX4_hasImage.cls ≠ "java/lang/invoke/MethodHandle" ∧ yX4_hasImage.cls ≠ "java/lang/invoke/VarHandle" ∧ (parseMethodDescriptor yX4_hasImage.desc).map (fun d => d.parameters.length) = some 1 := by decide +kernel
theorem cd_X4_keepImage : Cond.code yX4_keepImage cX4_keepImage 4 none ∈ tz := tz_in 847 (by decide +kernel) (by decide +kernel)
theorem im_X4_keepImage : Cond.instanceMethod yX4_keepImage ∈ tz := tz_in 845 (by decide +kernel) (by decide +kernel)
theorem se_X4_keepImage : Cond.selects RX4 yX4_keepImage yX4_keepImage ∈ tz := tz_in 846 (by decide +kernel) (by decide +kernel)
theorem hc_X4_keepImage : yX4_keepImage.cls = RX4 ∧ yX4_keepImage.cls ≠ "java/lang/invoke/MethodHandle" ∧ yX4_keepImage.cls ≠ "java/lang/invoke/VarHandle" ∧ (parseMethodDescriptor yX4_keepImage.desc).map (fun d => d.parameters.length) = some 3 := by decide +kernel
theorem cd_X4_loadImage : Cond.code yX4_loadImage cX4_loadImage 4 none ∈ tz := tz_in 859 (by decide +kernel) (by decide +kernel)
theorem im_X4_loadImage : Cond.instanceMethod yX4_loadImage ∈ tz := tz_in 857 (by decide +kernel) (by decide +kernel)
theorem se_X4_loadImage : Cond.selects RX4 yX4_loadImage yX4_loadImage ∈ tz := tz_in 858 (by decide +kernel) (by decide +kernel)
theorem hc_X4_loadImage : yX4_loadImage.cls = RX4 ∧ yX4_loadImage.cls ≠ "java/lang/invoke/MethodHandle" ∧ yX4_loadImage.cls ≠ "java/lang/invoke/VarHandle" ∧ (parseMethodDescriptor yX4_loadImage.desc).map (fun d => d.parameters.length) = some 3 := by decide +kernel
theorem cd_X5_fill : Cond.code yX5_fill cX5_fill 4 none ∈ tz := tz_in 743 (by decide +kernel) (by decide +kernel)
theorem im_X5_fill : Cond.instanceMethod yX5_fill ∈ tz := tz_in 741 (by decide +kernel) (by decide +kernel)
theorem se_X5_fill : Cond.selects RX5 yX5_fill yX5_fill ∈ tz := tz_in 742 (by decide +kernel) (by decide +kernel)
theorem hc_X5_fill : yX5_fill.cls = RX5 ∧ yX5_fill.cls ≠ "java/lang/invoke/MethodHandle" ∧ yX5_fill.cls ≠ "java/lang/invoke/VarHandle" ∧ (parseMethodDescriptor yX5_fill.desc).map (fun d => d.parameters.length) = some 2 := by decide +kernel
theorem cd_X5_addMonths : Cond.code yX5_addMonths cX5_addMonths 4 none ∈ tz := tz_in 747 (by decide +kernel) (by decide +kernel)
theorem im_X5_addMonths : Cond.instanceMethod yX5_addMonths ∈ tz := tz_in 745 (by decide +kernel) (by decide +kernel)
theorem se_X5_addMonths : Cond.selects RX5 yX5_addMonths yX5_addMonths ∈ tz := tz_in 746 (by decide +kernel) (by decide +kernel)
theorem hc_X5_addMonths : yX5_addMonths.cls = RX5 ∧ yX5_addMonths.cls ≠ "java/lang/invoke/MethodHandle" ∧ yX5_addMonths.cls ≠ "java/lang/invoke/VarHandle" ∧ (parseMethodDescriptor yX5_addMonths.desc).map (fun d => d.parameters.length) = some 1 := by decide +kernel
theorem cd_X5_fewestPits : Cond.code yX5_fewestPits cX5_fewestPits 5 (some .int) ∈ tz := tz_in 751 (by decide +kernel) (by decide +kernel)
theorem im_X5_fewestPits : Cond.instanceMethod yX5_fewestPits ∈ tz := tz_in 749 (by decide +kernel) (by decide +kernel)
theorem se_X5_fewestPits : Cond.selects RX5 yX5_fewestPits yX5_fewestPits ∈ tz := tz_in 750 (by decide +kernel) (by decide +kernel)
theorem hc_X5_fewestPits : yX5_fewestPits.cls = RX5 ∧ yX5_fewestPits.cls ≠ "java/lang/invoke/MethodHandle" ∧ yX5_fewestPits.cls ≠ "java/lang/invoke/VarHandle" ∧ (parseMethodDescriptor yX5_fewestPits.desc).map (fun d => d.parameters.length) = some 2 := by decide +kernel
theorem cd_X5_mostWithin : Cond.code yX5_mostWithin cX5_mostWithin 5 (some .int) ∈ tz := tz_in 756 (by decide +kernel) (by decide +kernel)
theorem im_X5_mostWithin : Cond.instanceMethod yX5_mostWithin ∈ tz := tz_in 754 (by decide +kernel) (by decide +kernel)
theorem se_X5_mostWithin : Cond.selects RX5 yX5_mostWithin yX5_mostWithin ∈ tz := tz_in 755 (by decide +kernel) (by decide +kernel)
theorem hc_X5_mostWithin : yX5_mostWithin.cls = RX5 ∧ yX5_mostWithin.cls ≠ "java/lang/invoke/MethodHandle" ∧ yX5_mostWithin.cls ≠ "java/lang/invoke/VarHandle" ∧ (parseMethodDescriptor yX5_mostWithin.desc).map (fun d => d.parameters.length) = some 2 := by decide +kernel
theorem cd_X6_clear : Cond.code yX6_clear cX6_clear 1 none ∈ tz := tz_in 392 (by decide +kernel) (by decide +kernel)
theorem im_X6_clear : Cond.instanceMethod yX6_clear ∈ tz := tz_in 390 (by decide +kernel) (by decide +kernel)
theorem se_X6_clear : Cond.selects RX6 yX6_clear yX6_clear ∈ tz := tz_in 391 (by decide +kernel) (by decide +kernel)
theorem hc_X6_clear : yX6_clear.cls = RX6 ∧ yX6_clear.cls ≠ "java/lang/invoke/MethodHandle" ∧ yX6_clear.cls ≠ "java/lang/invoke/VarHandle" ∧ (parseMethodDescriptor yX6_clear.desc).map (fun d => d.parameters.length) = some 0 := by decide +kernel
theorem cd_X6_isNone : Cond.code yX6_isNone cX6_isNone 1 (some .boolean) ∈ tz := tz_in 411 (by decide +kernel) (by decide +kernel)
theorem im_X6_isNone : Cond.instanceMethod yX6_isNone ∈ tz := tz_in 409 (by decide +kernel) (by decide +kernel)
theorem se_X6_isNone : Cond.selects RX6 yX6_isNone yX6_isNone ∈ tz := tz_in 410 (by decide +kernel) (by decide +kernel)
theorem hc_X6_isNone : yX6_isNone.cls = RX6 ∧ yX6_isNone.cls ≠ "java/lang/invoke/MethodHandle" ∧ yX6_isNone.cls ≠ "java/lang/invoke/VarHandle" ∧ (parseMethodDescriptor yX6_isNone.desc).map (fun d => d.parameters.length) = some 0 := by decide +kernel
theorem cd_X6_hasMan : Cond.code yX6_hasMan cX6_hasMan 2 (some .boolean) ∈ tz := tz_in 503 (by decide +kernel) (by decide +kernel)
theorem im_X6_hasMan : Cond.instanceMethod yX6_hasMan ∈ tz := tz_in 501 (by decide +kernel) (by decide +kernel)
theorem se_X6_hasMan : Cond.selects RX6 yX6_hasMan yX6_hasMan ∈ tz := tz_in 502 (by decide +kernel) (by decide +kernel)
theorem hc_X6_hasMan : yX6_hasMan.cls = RX6 ∧ yX6_hasMan.cls ≠ "java/lang/invoke/MethodHandle" ∧ yX6_hasMan.cls ≠ "java/lang/invoke/VarHandle" ∧ (parseMethodDescriptor yX6_hasMan.desc).map (fun d => d.parameters.length) = some 1 := by decide +kernel
theorem cd_X6_hasSaying : Cond.code yX6_hasSaying cX6_hasSaying 2 (some .boolean) ∈ tz := tz_in 524 (by decide +kernel) (by decide +kernel)
theorem im_X6_hasSaying : Cond.instanceMethod yX6_hasSaying ∈ tz := tz_in 522 (by decide +kernel) (by decide +kernel)
theorem se_X6_hasSaying : Cond.selects RX6 yX6_hasSaying yX6_hasSaying ∈ tz := tz_in 523 (by decide +kernel) (by decide +kernel)
theorem hc_X6_hasSaying : yX6_hasSaying.cls = RX6 ∧ yX6_hasSaying.cls ≠ "java/lang/invoke/MethodHandle" ∧ yX6_hasSaying.cls ≠ "java/lang/invoke/VarHandle" ∧ (parseMethodDescriptor yX6_hasSaying.desc).map (fun d => d.parameters.length) = some 1 := by decide +kernel
theorem cd_X6_hasSet : Cond.code yX6_hasSet cX6_hasSet 2 (some .boolean) ∈ tz := tz_in 706 (by decide +kernel) (by decide +kernel)
theorem im_X6_hasSet : Cond.instanceMethod yX6_hasSet ∈ tz := tz_in 704 (by decide +kernel) (by decide +kernel)
theorem se_X6_hasSet : Cond.selects RX6 yX6_hasSet yX6_hasSet ∈ tz := tz_in 705 (by decide +kernel) (by decide +kernel)
theorem hc_X6_hasSet : yX6_hasSet.cls = RX6 ∧ yX6_hasSet.cls ≠ "java/lang/invoke/MethodHandle" ∧ yX6_hasSet.cls ≠ "java/lang/invoke/VarHandle" ∧ (parseMethodDescriptor yX6_hasSet.desc).map (fun d => d.parameters.length) = some 1 := by decide +kernel
theorem cd_X6_everySaying : Cond.code yX6_everySaying cX6_everySaying 1 (some .int) ∈ tz := tz_in 739 (by decide +kernel) (by decide +kernel)
theorem im_X6_everySaying : Cond.instanceMethod yX6_everySaying ∈ tz := tz_in 737 (by decide +kernel) (by decide +kernel)
theorem se_X6_everySaying : Cond.selects RX6 yX6_everySaying yX6_everySaying ∈ tz := tz_in 738 (by decide +kernel) (by decide +kernel)
theorem hc_X6_everySaying : yX6_everySaying.cls = RX6 ∧ yX6_everySaying.cls ≠ "java/lang/invoke/MethodHandle" ∧ yX6_everySaying.cls ≠ "java/lang/invoke/VarHandle" ∧ (parseMethodDescriptor yX6_everySaying.desc).map (fun d => d.parameters.length) = some 0 := by decide +kernel
theorem cd_X6_pain : Cond.code yX6_pain cX6_pain 4 (some .int) ∈ tz := tz_in 475 (by decide +kernel) (by decide +kernel)
theorem im_X6_pain : Cond.instanceMethod yX6_pain ∈ tz := tz_in 473 (by decide +kernel) (by decide +kernel)
theorem se_X6_pain : Cond.selects RX6 yX6_pain yX6_pain ∈ tz := tz_in 474 (by decide +kernel) (by decide +kernel)
theorem hc_X6_pain : yX6_pain.cls = RX6 ∧ yX6_pain.cls ≠ "java/lang/invoke/MethodHandle" ∧ yX6_pain.cls ≠ "java/lang/invoke/VarHandle" ∧ (parseMethodDescriptor yX6_pain.desc).map (fun d => d.parameters.length) = some 2 := by decide +kernel
theorem cd_X6_setBorne : Cond.code yX6_setBorne cX6_setBorne 4 (some .int) ∈ tz := tz_in 508 (by decide +kernel) (by decide +kernel)
theorem im_X6_setBorne : Cond.instanceMethod yX6_setBorne ∈ tz := tz_in 506 (by decide +kernel) (by decide +kernel)
theorem se_X6_setBorne : Cond.selects RX6 yX6_setBorne yX6_setBorne ∈ tz := tz_in 507 (by decide +kernel) (by decide +kernel)
theorem hc_X6_setBorne : yX6_setBorne.cls = RX6 ∧ yX6_setBorne.cls ≠ "java/lang/invoke/MethodHandle" ∧ yX6_setBorne.cls ≠ "java/lang/invoke/VarHandle" ∧ (parseMethodDescriptor yX6_setBorne.desc).map (fun d => d.parameters.length) = some 1 := by decide +kernel
theorem cd_X6_setFelt : Cond.code yX6_setFelt cX6_setFelt 4 (some .int) ∈ tz := tz_in 512 (by decide +kernel) (by decide +kernel)
theorem im_X6_setFelt : Cond.instanceMethod yX6_setFelt ∈ tz := tz_in 510 (by decide +kernel) (by decide +kernel)
theorem se_X6_setFelt : Cond.selects RX6 yX6_setFelt yX6_setFelt ∈ tz := tz_in 511 (by decide +kernel) (by decide +kernel)
theorem hc_X6_setFelt : yX6_setFelt.cls = RX6 ∧ yX6_setFelt.cls ≠ "java/lang/invoke/MethodHandle" ∧ yX6_setFelt.cls ≠ "java/lang/invoke/VarHandle" ∧ (parseMethodDescriptor yX6_setFelt.desc).map (fun d => d.parameters.length) = some 1 := by decide +kernel
theorem cd_X6_bearsAll : Cond.code yX6_bearsAll cX6_bearsAll 4 (some .boolean) ∈ tz := tz_in 692 (by decide +kernel) (by decide +kernel)
theorem im_X6_bearsAll : Cond.instanceMethod yX6_bearsAll ∈ tz := tz_in 690 (by decide +kernel) (by decide +kernel)
theorem se_X6_bearsAll : Cond.selects RX6 yX6_bearsAll yX6_bearsAll ∈ tz := tz_in 691 (by decide +kernel) (by decide +kernel)
theorem hc_X6_bearsAll : yX6_bearsAll.cls = RX6 ∧ yX6_bearsAll.cls ≠ "java/lang/invoke/MethodHandle" ∧ yX6_bearsAll.cls ≠ "java/lang/invoke/VarHandle" ∧ (parseMethodDescriptor yX6_bearsAll.desc).map (fun d => d.parameters.length) = some 2 := by decide +kernel
theorem cd_X6_feelsAll : Cond.code yX6_feelsAll cX6_feelsAll 4 (some .boolean) ∈ tz := tz_in 711 (by decide +kernel) (by decide +kernel)
theorem im_X6_feelsAll : Cond.instanceMethod yX6_feelsAll ∈ tz := tz_in 709 (by decide +kernel) (by decide +kernel)
theorem se_X6_feelsAll : Cond.selects RX6 yX6_feelsAll yX6_feelsAll ∈ tz := tz_in 710 (by decide +kernel) (by decide +kernel)
theorem hc_X6_feelsAll : yX6_feelsAll.cls = RX6 ∧ yX6_feelsAll.cls ≠ "java/lang/invoke/MethodHandle" ∧ yX6_feelsAll.cls ≠ "java/lang/invoke/VarHandle" ∧ (parseMethodDescriptor yX6_feelsAll.desc).map (fun d => d.parameters.length) = some 2 := by decide +kernel
theorem cd_X6_wholePain : Cond.code yX6_wholePain cX6_wholePain 4 (some .int) ∈ tz := tz_in 471 (by decide +kernel) (by decide +kernel)
theorem im_X6_wholePain : Cond.instanceMethod yX6_wholePain ∈ tz := tz_in 469 (by decide +kernel) (by decide +kernel)
theorem se_X6_wholePain : Cond.selects RX6 yX6_wholePain yX6_wholePain ∈ tz := tz_in 470 (by decide +kernel) (by decide +kernel)
theorem hc_X6_wholePain : yX6_wholePain.cls = RX6 ∧ yX6_wholePain.cls ≠ "java/lang/invoke/MethodHandle" ∧ yX6_wholePain.cls ≠ "java/lang/invoke/VarHandle" ∧ (parseMethodDescriptor yX6_wholePain.desc).map (fun d => d.parameters.length) = some 1 := by decide +kernel
theorem cd_X6_leastScraping : Cond.code yX6_leastScraping cX6_leastScraping 6 (some .int) ∈ tz := tz_in 727 (by decide +kernel) (by decide +kernel)
theorem im_X6_leastScraping : Cond.instanceMethod yX6_leastScraping ∈ tz := tz_in 725 (by decide +kernel) (by decide +kernel)
theorem se_X6_leastScraping : Cond.selects RX6 yX6_leastScraping yX6_leastScraping ∈ tz := tz_in 726 (by decide +kernel) (by decide +kernel)
theorem hc_X6_leastScraping : yX6_leastScraping.cls = RX6 ∧ yX6_leastScraping.cls ≠ "java/lang/invoke/MethodHandle" ∧ yX6_leastScraping.cls ≠ "java/lang/invoke/VarHandle" ∧ (parseMethodDescriptor yX6_leastScraping.desc).map (fun d => d.parameters.length) = some 2 := by decide +kernel
theorem cd_X6_scrapingAt : Cond.code yX6_scrapingAt cX6_scrapingAt 6 (some .int) ∈ tz := tz_in 731 (by decide +kernel) (by decide +kernel)
theorem im_X6_scrapingAt : Cond.instanceMethod yX6_scrapingAt ∈ tz := tz_in 729 (by decide +kernel) (by decide +kernel)
theorem se_X6_scrapingAt : Cond.selects RX6 yX6_scrapingAt yX6_scrapingAt ∈ tz := tz_in 730 (by decide +kernel) (by decide +kernel)
theorem hc_X6_scrapingAt : yX6_scrapingAt.cls = RX6 ∧ yX6_scrapingAt.cls ≠ "java/lang/invoke/MethodHandle" ∧ yX6_scrapingAt.cls ≠ "java/lang/invoke/VarHandle" ∧ (parseMethodDescriptor yX6_scrapingAt.desc).map (fun d => d.parameters.length) = some 3 := by decide +kernel
theorem cd_X7_begin : Cond.code yX7_begin cX7_begin 3 none ∈ tz := tz_in 443 (by decide +kernel) (by decide +kernel)
theorem im_X7_begin : Cond.instanceMethod yX7_begin ∈ tz := tz_in 441 (by decide +kernel) (by decide +kernel)
theorem se_X7_begin : Cond.selects RX7 yX7_begin yX7_begin ∈ tz := tz_in 442 (by decide +kernel) (by decide +kernel)
theorem hc_X7_begin : yX7_begin.cls = RX7 ∧ yX7_begin.cls ≠ "java/lang/invoke/MethodHandle" ∧ yX7_begin.cls ≠ "java/lang/invoke/VarHandle" ∧ (parseMethodDescriptor yX7_begin.desc).map (fun d => d.parameters.length) = some 1 := by decide +kernel
theorem cd_X7_passMonth : Cond.code yX7_passMonth cX7_passMonth 2 none ∈ tz := tz_in 558 (by decide +kernel) (by decide +kernel)
theorem im_X7_passMonth : Cond.instanceMethod yX7_passMonth ∈ tz := tz_in 556 (by decide +kernel) (by decide +kernel)
theorem se_X7_passMonth : Cond.selects RX7 yX7_passMonth yX7_passMonth ∈ tz := tz_in 557 (by decide +kernel) (by decide +kernel)
theorem hc_X7_passMonth : yX7_passMonth.cls = RX7 ∧ yX7_passMonth.cls ≠ "java/lang/invoke/MethodHandle" ∧ yX7_passMonth.cls ≠ "java/lang/invoke/VarHandle" ∧ (parseMethodDescriptor yX7_passMonth.desc).map (fun d => d.parameters.length) = some 0 := by decide +kernel
theorem cd_X7_freePits : Cond.code yX7_freePits cX7_freePits 1 (some .int) ∈ tz := tz_in 586 (by decide +kernel) (by decide +kernel)
theorem im_X7_freePits : Cond.instanceMethod yX7_freePits ∈ tz := tz_in 584 (by decide +kernel) (by decide +kernel)
theorem se_X7_freePits : Cond.selects RX7 yX7_freePits yX7_freePits ∈ tz := tz_in 585 (by decide +kernel) (by decide +kernel)
theorem hc_X7_freePits : yX7_freePits.cls = RX7 ∧ yX7_freePits.cls ≠ "java/lang/invoke/MethodHandle" ∧ yX7_freePits.cls ≠ "java/lang/invoke/VarHandle" ∧ (parseMethodDescriptor yX7_freePits.desc).map (fun d => d.parameters.length) = some 0 := by decide +kernel
theorem cd_X7_setInside : Cond.code yX7_setInside cX7_setInside 3 (some .int) ∈ tz := tz_in 459 (by decide +kernel) (by decide +kernel)
theorem im_X7_setInside : Cond.instanceMethod yX7_setInside ∈ tz := tz_in 457 (by decide +kernel) (by decide +kernel)
theorem se_X7_setInside : Cond.selects RX7 yX7_setInside yX7_setInside ∈ tz := tz_in 458 (by decide +kernel) (by decide +kernel)
theorem hc_X7_setInside : yX7_setInside.cls = RX7 ∧ yX7_setInside.cls ≠ "java/lang/invoke/MethodHandle" ∧ yX7_setInside.cls ≠ "java/lang/invoke/VarHandle" ∧ (parseMethodDescriptor yX7_setInside.desc).map (fun d => d.parameters.length) = some 0 := by decide +kernel
theorem cd_X7_allWounds : Cond.code yX7_allWounds cX7_allWounds 3 (some .int) ∈ tz := tz_in 463 (by decide +kernel) (by decide +kernel)
theorem im_X7_allWounds : Cond.instanceMethod yX7_allWounds ∈ tz := tz_in 461 (by decide +kernel) (by decide +kernel)
theorem se_X7_allWounds : Cond.selects RX7 yX7_allWounds yX7_allWounds ∈ tz := tz_in 462 (by decide +kernel) (by decide +kernel)
theorem hc_X7_allWounds : yX7_allWounds.cls = RX7 ∧ yX7_allWounds.cls ≠ "java/lang/invoke/MethodHandle" ∧ yX7_allWounds.cls ≠ "java/lang/invoke/VarHandle" ∧ (parseMethodDescriptor yX7_allWounds.desc).map (fun d => d.parameters.length) = some 0 := by decide +kernel
theorem cd_X7_scrapeOff : Cond.code yX7_scrapeOff cX7_scrapeOff 4 none ∈ tz := tz_in 605 (by decide +kernel) (by decide +kernel)
theorem im_X7_scrapeOff : Cond.instanceMethod yX7_scrapeOff ∈ tz := tz_in 603 (by decide +kernel) (by decide +kernel)
theorem se_X7_scrapeOff : Cond.selects RX7 yX7_scrapeOff yX7_scrapeOff ∈ tz := tz_in 604 (by decide +kernel) (by decide +kernel)
theorem hc_X7_scrapeOff : yX7_scrapeOff.cls = RX7 ∧ yX7_scrapeOff.cls ≠ "java/lang/invoke/MethodHandle" ∧ yX7_scrapeOff.cls ≠ "java/lang/invoke/VarHandle" ∧ (parseMethodDescriptor yX7_scrapeOff.desc).map (fun d => d.parameters.length) = some 3 := by decide +kernel
theorem cd_X7_wound : Cond.code yX7_wound cX7_wound 3 none ∈ tz := tz_in 615 (by decide +kernel) (by decide +kernel)
theorem im_X7_wound : Cond.instanceMethod yX7_wound ∈ tz := tz_in 613 (by decide +kernel) (by decide +kernel)
theorem se_X7_wound : Cond.selects RX7 yX7_wound yX7_wound ∈ tz := tz_in 614 (by decide +kernel) (by decide +kernel)
theorem hc_X7_wound : yX7_wound.cls = RX7 ∧ yX7_wound.cls ≠ "java/lang/invoke/MethodHandle" ∧ yX7_wound.cls ≠ "java/lang/invoke/VarHandle" ∧ (parseMethodDescriptor yX7_wound.desc).map (fun d => d.parameters.length) = some 2 := by decide +kernel
theorem cd_X7_stir : Cond.code yX7_stir cX7_stir 4 none ∈ tz := tz_in 628 (by decide +kernel) (by decide +kernel)
theorem im_X7_stir : Cond.instanceMethod yX7_stir ∈ tz := tz_in 626 (by decide +kernel) (by decide +kernel)
theorem se_X7_stir : Cond.selects RX7 yX7_stir yX7_stir ∈ tz := tz_in 627 (by decide +kernel) (by decide +kernel)
theorem hc_X7_stir : yX7_stir.cls = RX7 ∧ yX7_stir.cls ≠ "java/lang/invoke/MethodHandle" ∧ yX7_stir.cls ≠ "java/lang/invoke/VarHandle" ∧ (parseMethodDescriptor yX7_stir.desc).map (fun d => d.parameters.length) = some 1 := by decide +kernel
theorem cd_X7_scrapeIfSoft : Cond.code yX7_scrapeIfSoft cX7_scrapeIfSoft 3 none ∈ tz := tz_in 642 (by decide +kernel) (by decide +kernel)
theorem im_X7_scrapeIfSoft : Cond.instanceMethod yX7_scrapeIfSoft ∈ tz := tz_in 640 (by decide +kernel) (by decide +kernel)
theorem se_X7_scrapeIfSoft : Cond.selects RX7 yX7_scrapeIfSoft yX7_scrapeIfSoft ∈ tz := tz_in 641 (by decide +kernel) (by decide +kernel)
theorem hc_X7_scrapeIfSoft : yX7_scrapeIfSoft.cls = RX7 ∧ yX7_scrapeIfSoft.cls ≠ "java/lang/invoke/MethodHandle" ∧ yX7_scrapeIfSoft.cls ≠ "java/lang/invoke/VarHandle" ∧ (parseMethodDescriptor yX7_scrapeIfSoft.desc).map (fun d => d.parameters.length) = some 2 := by decide +kernel
theorem cd_X7_best : Cond.code yX7_best cX7_best 5 (some .int) ∈ tz := tz_in 467 (by decide +kernel) (by decide +kernel)
theorem im_X7_best : Cond.instanceMethod yX7_best ∈ tz := tz_in 465 (by decide +kernel) (by decide +kernel)
theorem se_X7_best : Cond.selects RX7 yX7_best yX7_best ∈ tz := tz_in 466 (by decide +kernel) (by decide +kernel)
theorem hc_X7_best : yX7_best.cls = RX7 ∧ yX7_best.cls ≠ "java/lang/invoke/MethodHandle" ∧ yX7_best.cls ≠ "java/lang/invoke/VarHandle" ∧ (parseMethodDescriptor yX7_best.desc).map (fun d => d.parameters.length) = some 0 := by decide +kernel
theorem cd_X7_chosen : Cond.code yX7_chosen cX7_chosen 5 (some .int) ∈ tz := tz_in 482 (by decide +kernel) (by decide +kernel)
theorem im_X7_chosen : Cond.instanceMethod yX7_chosen ∈ tz := tz_in 480 (by decide +kernel) (by decide +kernel)
theorem se_X7_chosen : Cond.selects RX7 yX7_chosen yX7_chosen ∈ tz := tz_in 481 (by decide +kernel) (by decide +kernel)
theorem hc_X7_chosen : yX7_chosen.cls = RX7 ∧ yX7_chosen.cls ≠ "java/lang/invoke/MethodHandle" ∧ yX7_chosen.cls ≠ "java/lang/invoke/VarHandle" ∧ (parseMethodDescriptor yX7_chosen.desc).map (fun d => d.parameters.length) = some 0 := by decide +kernel
theorem cd_X7_votesFor : Cond.code yX7_votesFor cX7_votesFor 4 (some .int) ∈ tz := tz_in 486 (by decide +kernel) (by decide +kernel)
theorem im_X7_votesFor : Cond.instanceMethod yX7_votesFor ∈ tz := tz_in 484 (by decide +kernel) (by decide +kernel)
theorem se_X7_votesFor : Cond.selects RX7 yX7_votesFor yX7_votesFor ∈ tz := tz_in 485 (by decide +kernel) (by decide +kernel)
theorem hc_X7_votesFor : yX7_votesFor.cls = RX7 ∧ yX7_votesFor.cls ≠ "java/lang/invoke/MethodHandle" ∧ yX7_votesFor.cls ≠ "java/lang/invoke/VarHandle" ∧ (parseMethodDescriptor yX7_votesFor.desc).map (fun d => d.parameters.length) = some 1 := by decide +kernel
theorem cd_X7_leastPainedBy : Cond.code yX7_leastPainedBy cX7_leastPainedBy 4 (some .int) ∈ tz := tz_in 490 (by decide +kernel) (by decide +kernel)
theorem im_X7_leastPainedBy : Cond.instanceMethod yX7_leastPainedBy ∈ tz := tz_in 488 (by decide +kernel) (by decide +kernel)
theorem se_X7_leastPainedBy : Cond.selects RX7 yX7_leastPainedBy yX7_leastPainedBy ∈ tz := tz_in 489 (by decide +kernel) (by decide +kernel)
theorem hc_X7_leastPainedBy : yX7_leastPainedBy.cls = RX7 ∧ yX7_leastPainedBy.cls ≠ "java/lang/invoke/MethodHandle" ∧ yX7_leastPainedBy.cls ≠ "java/lang/invoke/VarHandle" ∧ (parseMethodDescriptor yX7_leastPainedBy.desc).map (fun d => d.parameters.length) = some 1 := by decide +kernel
theorem cd_X7_tender : Cond.code yX7_tender cX7_tender 6 (some .int) ∈ tz := tz_in 495 (by decide +kernel) (by decide +kernel)
theorem im_X7_tender : Cond.instanceMethod yX7_tender ∈ tz := tz_in 493 (by decide +kernel) (by decide +kernel)
theorem se_X7_tender : Cond.selects RX7 yX7_tender yX7_tender ∈ tz := tz_in 494 (by decide +kernel) (by decide +kernel)
theorem hc_X7_tender : yX7_tender.cls = RX7 ∧ yX7_tender.cls ≠ "java/lang/invoke/MethodHandle" ∧ yX7_tender.cls ≠ "java/lang/invoke/VarHandle" ∧ (parseMethodDescriptor yX7_tender.desc).map (fun d => d.parameters.length) = some 0 := by decide +kernel
theorem cd_X7_saveTo : Cond.code yX7_saveTo cX7_saveTo 3 none ∈ tz := tz_in 547 (by decide +kernel) (by decide +kernel)
theorem im_X7_saveTo : Cond.instanceMethod yX7_saveTo ∈ tz := tz_in 545 (by decide +kernel) (by decide +kernel)
theorem se_X7_saveTo : Cond.selects RX7 yX7_saveTo yX7_saveTo ∈ tz := tz_in 546 (by decide +kernel) (by decide +kernel)
theorem hc_X7_saveTo : yX7_saveTo.cls = RX7 ∧ yX7_saveTo.cls ≠ "java/lang/invoke/MethodHandle" ∧ yX7_saveTo.cls ≠ "java/lang/invoke/VarHandle" ∧ (parseMethodDescriptor yX7_saveTo.desc).map (fun d => d.parameters.length) = some 1 := by decide +kernel
theorem cd_X7_loadFrom : Cond.code yX7_loadFrom cX7_loadFrom 3 none ∈ tz := tz_in 655 (by decide +kernel) (by decide +kernel)
theorem im_X7_loadFrom : Cond.instanceMethod yX7_loadFrom ∈ tz := tz_in 653 (by decide +kernel) (by decide +kernel)
theorem se_X7_loadFrom : Cond.selects RX7 yX7_loadFrom yX7_loadFrom ∈ tz := tz_in 654 (by decide +kernel) (by decide +kernel)
theorem hc_X7_loadFrom : yX7_loadFrom.cls = RX7 ∧ yX7_loadFrom.cls ≠ "java/lang/invoke/MethodHandle" ∧ yX7_loadFrom.cls ≠ "java/lang/invoke/VarHandle" ∧ (parseMethodDescriptor yX7_loadFrom.desc).map (fun d => d.parameters.length) = some 1 := by decide +kernel
theorem cd_X8_add : Cond.code yX8_add cX8_add 2 (some .int) ∈ tz := tz_in 380 (by decide +kernel) (by decide +kernel)
theorem im_X8_add : Cond.instanceMethod yX8_add ∈ tz := tz_in 378 (by decide +kernel) (by decide +kernel)
theorem se_X8_add : Cond.selects RX8 yX8_add yX8_add ∈ tz := tz_in 379 (by decide +kernel) (by decide +kernel)
theorem hc_X8_add : yX8_add.cls = RX8 ∧ yX8_add.cls ≠ "java/lang/invoke/MethodHandle" ∧ yX8_add.cls ≠ "java/lang/invoke/VarHandle" ∧ (parseMethodDescriptor yX8_add.desc).map (fun d => d.parameters.length) = some 1 := by decide +kernel
theorem cd_X8_readInto : Cond.code yX8_readInto cX8_readInto 3 none ∈ tz := tz_in 388 (by decide +kernel) (by decide +kernel)
theorem im_X8_readInto : Cond.instanceMethod yX8_readInto ∈ tz := tz_in 386 (by decide +kernel) (by decide +kernel)
theorem se_X8_readInto : Cond.selects RX8 yX8_readInto yX8_readInto ∈ tz := tz_in 387 (by decide +kernel) (by decide +kernel)
theorem hc_X8_readInto : yX8_readInto.cls = RX8 ∧ yX8_readInto.cls ≠ "java/lang/invoke/MethodHandle" ∧ yX8_readInto.cls ≠ "java/lang/invoke/VarHandle" ∧ (parseMethodDescriptor yX8_readInto.desc).map (fun d => d.parameters.length) = some 1 := by decide +kernel
theorem cd_X8_mark : Cond.code yX8_mark cX8_mark 3 none ∈ tz := tz_in 415 (by decide +kernel) (by decide +kernel)
theorem im_X8_mark : Cond.instanceMethod yX8_mark ∈ tz := tz_in 413 (by decide +kernel) (by decide +kernel)
theorem se_X8_mark : Cond.selects RX8 yX8_mark yX8_mark ∈ tz := tz_in 414 (by decide +kernel) (by decide +kernel)
theorem hc_X8_mark : yX8_mark.cls = RX8 ∧ yX8_mark.cls ≠ "java/lang/invoke/MethodHandle" ∧ yX8_mark.cls ≠ "java/lang/invoke/VarHandle" ∧ (parseMethodDescriptor yX8_mark.desc).map (fun d => d.parameters.length) = some 2 := by decide +kernel
theorem cd_X8_letter : Cond.code yX8_letter cX8_letter 1 (some .int) ∈ tz := tz_in 404 (by decide +kernel) (by decide +kernel)
theorem im_X8_letter : Cond.instanceMethod yX8_letter ∈ tz := tz_in 402 (by decide +kernel) (by decide +kernel)
theorem se_X8_letter : Cond.selects RX8 yX8_letter yX8_letter ∈ tz := tz_in 403 (by decide +kernel) (by decide +kernel)
theorem hc_X8_letter : yX8_letter.cls = RX8 ∧ yX8_letter.cls ≠ "java/lang/invoke/MethodHandle" ∧ yX8_letter.cls ≠ "java/lang/invoke/VarHandle" ∧ (parseMethodDescriptor yX8_letter.desc).map (fun d => d.parameters.length) = some 0 := by decide +kernel
theorem cd_X8_skipBlanks : Cond.code yX8_skipBlanks cX8_skipBlanks 1 none ∈ tz := tz_in 396 (by decide +kernel) (by decide +kernel)
theorem im_X8_skipBlanks : Cond.instanceMethod yX8_skipBlanks ∈ tz := tz_in 394 (by decide +kernel) (by decide +kernel)
theorem se_X8_skipBlanks : Cond.selects RX8 yX8_skipBlanks yX8_skipBlanks ∈ tz := tz_in 395 (by decide +kernel) (by decide +kernel)
theorem hc_X8_skipBlanks : yX8_skipBlanks.cls = RX8 ∧ yX8_skipBlanks.cls ≠ "java/lang/invoke/MethodHandle" ∧ yX8_skipBlanks.cls ≠ "java/lang/invoke/VarHandle" ∧ (parseMethodDescriptor yX8_skipBlanks.desc).map (fun d => d.parameters.length) = some 0 := by decide +kernel
theorem cd_X8_isFigure : Cond.code yX8_isFigure cX8_isFigure 1 (some .boolean) ∈ tz := tz_in 426 (by decide +kernel) (by decide +kernel)
theorem sm_X8_isFigure : Cond.static yX8_isFigure ∈ tz := tz_in 425 (by decide +kernel) (by decide +kernel)
theorem hc_X8_isFigure : yX8_isFigure.cls ≠ "java/lang/invoke/MethodHandle" ∧ yX8_isFigure.cls ≠ "java/lang/invoke/VarHandle" ∧ (parseMethodDescriptor yX8_isFigure.desc).map (fun d => d.parameters.length) = some 1 := by decide +kernel
theorem cd_X8_readClause : Cond.code yX8_readClause cX8_readClause 4 none ∈ tz := tz_in 400 (by decide +kernel) (by decide +kernel)
theorem im_X8_readClause : Cond.instanceMethod yX8_readClause ∈ tz := tz_in 398 (by decide +kernel) (by decide +kernel)
theorem se_X8_readClause : Cond.selects RX8 yX8_readClause yX8_readClause ∈ tz := tz_in 399 (by decide +kernel) (by decide +kernel)
theorem hc_X8_readClause : yX8_readClause.cls = RX8 ∧ yX8_readClause.cls ≠ "java/lang/invoke/MethodHandle" ∧ yX8_readClause.cls ≠ "java/lang/invoke/VarHandle" ∧ (parseMethodDescriptor yX8_readClause.desc).map (fun d => d.parameters.length) = some 1 := by decide +kernel
theorem cd_X8_faultOfWord : Cond.code yX8_faultOfWord cX8_faultOfWord 2 (some .int) ∈ tz := tz_in 407 (by decide +kernel) (by decide +kernel)
theorem sm_X8_faultOfWord : Cond.static yX8_faultOfWord ∈ tz := tz_in 406 (by decide +kernel) (by decide +kernel)
theorem hc_X8_faultOfWord : yX8_faultOfWord.cls ≠ "java/lang/invoke/MethodHandle" ∧ yX8_faultOfWord.cls ≠ "java/lang/invoke/VarHandle" ∧ (parseMethodDescriptor yX8_faultOfWord.desc).map (fun d => d.parameters.length) = some 2 := by decide +kernel
theorem cd_X8_readPits : Cond.code yX8_readPits cX8_readPits 2 none ∈ tz := tz_in 419 (by decide +kernel) (by decide +kernel)
theorem im_X8_readPits : Cond.instanceMethod yX8_readPits ∈ tz := tz_in 417 (by decide +kernel) (by decide +kernel)
theorem se_X8_readPits : Cond.selects RX8 yX8_readPits yX8_readPits ∈ tz := tz_in 418 (by decide +kernel) (by decide +kernel)
theorem hc_X8_readPits : yX8_readPits.cls = RX8 ∧ yX8_readPits.cls ≠ "java/lang/invoke/MethodHandle" ∧ yX8_readPits.cls ≠ "java/lang/invoke/VarHandle" ∧ (parseMethodDescriptor yX8_readPits.desc).map (fun d => d.parameters.length) = some 1 := by decide +kernel
theorem cd_X8_readMan : Cond.code yX8_readMan cX8_readMan 4 none ∈ tz := tz_in 431 (by decide +kernel) (by decide +kernel)
theorem im_X8_readMan : Cond.instanceMethod yX8_readMan ∈ tz := tz_in 429 (by decide +kernel) (by decide +kernel)
theorem se_X8_readMan : Cond.selects RX8 yX8_readMan yX8_readMan ∈ tz := tz_in 430 (by decide +kernel) (by decide +kernel)
theorem hc_X8_readMan : yX8_readMan.cls = RX8 ∧ yX8_readMan.cls ≠ "java/lang/invoke/MethodHandle" ∧ yX8_readMan.cls ≠ "java/lang/invoke/VarHandle" ∧ (parseMethodDescriptor yX8_readMan.desc).map (fun d => d.parameters.length) = some 1 := by decide +kernel
theorem cd_X8_readSaying : Cond.code yX8_readSaying cX8_readSaying 3 none ∈ tz := tz_in 439 (by decide +kernel) (by decide +kernel)
theorem im_X8_readSaying : Cond.instanceMethod yX8_readSaying ∈ tz := tz_in 437 (by decide +kernel) (by decide +kernel)
theorem se_X8_readSaying : Cond.selects RX8 yX8_readSaying yX8_readSaying ∈ tz := tz_in 438 (by decide +kernel) (by decide +kernel)
theorem hc_X8_readSaying : yX8_readSaying.cls = RX8 ∧ yX8_readSaying.cls ≠ "java/lang/invoke/MethodHandle" ∧ yX8_readSaying.cls ≠ "java/lang/invoke/VarHandle" ∧ (parseMethodDescriptor yX8_readSaying.desc).map (fun d => d.parameters.length) = some 1 := by decide +kernel
theorem cd_X8_readNumber : Cond.code yX8_readNumber cX8_readNumber 6 (some .int) ∈ tz := tz_in 423 (by decide +kernel) (by decide +kernel)
theorem im_X8_readNumber : Cond.instanceMethod yX8_readNumber ∈ tz := tz_in 421 (by decide +kernel) (by decide +kernel)
theorem se_X8_readNumber : Cond.selects RX8 yX8_readNumber yX8_readNumber ∈ tz := tz_in 422 (by decide +kernel) (by decide +kernel)
theorem hc_X8_readNumber : yX8_readNumber.cls = RX8 ∧ yX8_readNumber.cls ≠ "java/lang/invoke/MethodHandle" ∧ yX8_readNumber.cls ≠ "java/lang/invoke/VarHandle" ∧ (parseMethodDescriptor yX8_readNumber.desc).map (fun d => d.parameters.length) = some 2 := by decide +kernel
theorem cd_X8_skipMark : Cond.code yX8_skipMark cX8_skipMark 2 none ∈ tz := tz_in 435 (by decide +kernel) (by decide +kernel)
theorem im_X8_skipMark : Cond.instanceMethod yX8_skipMark ∈ tz := tz_in 433 (by decide +kernel) (by decide +kernel)
theorem se_X8_skipMark : Cond.selects RX8 yX8_skipMark yX8_skipMark ∈ tz := tz_in 434 (by decide +kernel) (by decide +kernel)
theorem hc_X8_skipMark : yX8_skipMark.cls = RX8 ∧ yX8_skipMark.cls ≠ "java/lang/invoke/MethodHandle" ∧ yX8_skipMark.cls ≠ "java/lang/invoke/VarHandle" ∧ (parseMethodDescriptor yX8_skipMark.desc).map (fun d => d.parameters.length) = some 1 := by decide +kernel
theorem cd_X9_startNow : Cond.code yX9_startNow cX9_startNow 3 none ∈ tz := tz_in 667 (by decide +kernel) (by decide +kernel)
theorem im_X9_startNow : Cond.instanceMethod yX9_startNow ∈ tz := tz_in 665 (by decide +kernel) (by decide +kernel)
theorem se_X9_startNow : Cond.selects RX9 yX9_startNow yX9_startNow ∈ tz := tz_in 666 (by decide +kernel) (by decide +kernel)
theorem hc_X9_startNow : yX9_startNow.cls = RX9 ∧ yX9_startNow.cls ≠ "java/lang/invoke/MethodHandle" ∧ yX9_startNow.cls ≠ "java/lang/invoke/VarHandle" ∧ (parseMethodDescriptor yX9_startNow.desc).map (fun d => d.parameters.length) = some 2 := by decide +kernel
theorem cd_X9_startFirst : Cond.code yX9_startFirst cX9_startFirst 3 none ∈ tz := tz_in 791 (by decide +kernel) (by decide +kernel)
theorem im_X9_startFirst : Cond.instanceMethod yX9_startFirst ∈ tz := tz_in 789 (by decide +kernel) (by decide +kernel)
theorem se_X9_startFirst : Cond.selects RX9 yX9_startFirst yX9_startFirst ∈ tz := tz_in 790 (by decide +kernel) (by decide +kernel)
theorem hc_X9_startFirst : yX9_startFirst.cls = RX9 ∧ yX9_startFirst.cls ≠ "java/lang/invoke/MethodHandle" ∧ yX9_startFirst.cls ≠ "java/lang/invoke/VarHandle" ∧ (parseMethodDescriptor yX9_startFirst.desc).map (fun d => d.parameters.length) = some 2 := by decide +kernel
theorem cd_X9_clearNotes : Cond.code yX9_clearNotes cX9_clearNotes 1 none ∈ tz := tz_in 675 (by decide +kernel) (by decide +kernel)
theorem im_X9_clearNotes : Cond.instanceMethod yX9_clearNotes ∈ tz := tz_in 673 (by decide +kernel) (by decide +kernel)
theorem se_X9_clearNotes : Cond.selects RX9 yX9_clearNotes yX9_clearNotes ∈ tz := tz_in 674 (by decide +kernel) (by decide +kernel)
theorem hc_X9_clearNotes : yX9_clearNotes.cls = RX9 ∧ yX9_clearNotes.cls ≠ "java/lang/invoke/MethodHandle" ∧ yX9_clearNotes.cls ≠ "java/lang/invoke/VarHandle" ∧ (parseMethodDescriptor yX9_clearNotes.desc).map (fun d => d.parameters.length) = some 0 := by decide +kernel
theorem cd_X9_note : Cond.code yX9_note cX9_note 2 none ∈ tz := tz_in 715 (by decide +kernel) (by decide +kernel)
theorem im_X9_note : Cond.instanceMethod yX9_note ∈ tz := tz_in 713 (by decide +kernel) (by decide +kernel)
theorem se_X9_note : Cond.selects RX9 yX9_note yX9_note ∈ tz := tz_in 714 (by decide +kernel) (by decide +kernel)
theorem hc_X9_note : yX9_note.cls = RX9 ∧ yX9_note.cls ≠ "java/lang/invoke/MethodHandle" ∧ yX9_note.cls ≠ "java/lang/invoke/VarHandle" ∧ (parseMethodDescriptor yX9_note.desc).map (fun d => d.parameters.length) = some 1 := by decide +kernel
theorem cd_X9_noted : Cond.code yX9_noted cX9_noted 2 (some .int) ∈ tz := tz_in 719 (by decide +kernel) (by decide +kernel)
theorem im_X9_noted : Cond.instanceMethod yX9_noted ∈ tz := tz_in 717 (by decide +kernel) (by decide +kernel)
theorem se_X9_noted : Cond.selects RX9 yX9_noted yX9_noted ∈ tz := tz_in 718 (by decide +kernel) (by decide +kernel)
theorem hc_X9_noted : yX9_noted.cls = RX9 ∧ yX9_noted.cls ≠ "java/lang/invoke/MethodHandle" ∧ yX9_noted.cls ≠ "java/lang/invoke/VarHandle" ∧ (parseMethodDescriptor yX9_noted.desc).map (fun d => d.parameters.length) = some 1 := by decide +kernel
theorem cd_X9_passMonth : Cond.code yX9_passMonth cX9_passMonth 1 none ∈ tz := tz_in 679 (by decide +kernel) (by decide +kernel)
theorem im_X9_passMonth : Cond.instanceMethod yX9_passMonth ∈ tz := tz_in 677 (by decide +kernel) (by decide +kernel)
theorem se_X9_passMonth : Cond.selects RX9 yX9_passMonth yX9_passMonth ∈ tz := tz_in 678 (by decide +kernel) (by decide +kernel)
theorem hc_X9_passMonth : yX9_passMonth.cls = RX9 ∧ yX9_passMonth.cls ≠ "java/lang/invoke/MethodHandle" ∧ yX9_passMonth.cls ≠ "java/lang/invoke/VarHandle" ∧ (parseMethodDescriptor yX9_passMonth.desc).map (fun d => d.parameters.length) = some 0 := by decide +kernel
theorem cd_X9_firstBearing : Cond.code yX9_firstBearing cX9_firstBearing 4 (some .int) ∈ tz := tz_in 688 (by decide +kernel) (by decide +kernel)
theorem im_X9_firstBearing : Cond.instanceMethod yX9_firstBearing ∈ tz := tz_in 686 (by decide +kernel) (by decide +kernel)
theorem se_X9_firstBearing : Cond.selects RX9 yX9_firstBearing yX9_firstBearing ∈ tz := tz_in 687 (by decide +kernel) (by decide +kernel)
theorem hc_X9_firstBearing : yX9_firstBearing.cls = RX9 ∧ yX9_firstBearing.cls ≠ "java/lang/invoke/MethodHandle" ∧ yX9_firstBearing.cls ≠ "java/lang/invoke/VarHandle" ∧ (parseMethodDescriptor yX9_firstBearing.desc).map (fun d => d.parameters.length) = some 2 := by decide +kernel
theorem cd_X9_lastFeeling : Cond.code yX9_lastFeeling cX9_lastFeeling 5 (some .int) ∈ tz := tz_in 697 (by decide +kernel) (by decide +kernel)
theorem im_X9_lastFeeling : Cond.instanceMethod yX9_lastFeeling ∈ tz := tz_in 695 (by decide +kernel) (by decide +kernel)
theorem se_X9_lastFeeling : Cond.selects RX9 yX9_lastFeeling yX9_lastFeeling ∈ tz := tz_in 696 (by decide +kernel) (by decide +kernel)
theorem hc_X9_lastFeeling : yX9_lastFeeling.cls = RX9 ∧ yX9_lastFeeling.cls ≠ "java/lang/invoke/MethodHandle" ∧ yX9_lastFeeling.cls ≠ "java/lang/invoke/VarHandle" ∧ (parseMethodDescriptor yX9_lastFeeling.desc).map (fun d => d.parameters.length) = some 2 := by decide +kernel
theorem cd_X10_feed : Cond.code yX10_feed cX10_feed 2 (some .int) ∈ tz := tz_in 371 (by decide +kernel) (by decide +kernel)
theorem im_X10_feed : Cond.instanceMethod yX10_feed ∈ tz := tz_in 369 (by decide +kernel) (by decide +kernel)
theorem se_X10_feed : Cond.selects RX10 yX10_feed yX10_feed ∈ tz := tz_in 370 (by decide +kernel) (by decide +kernel)
theorem hc_X10_feed : yX10_feed.cls = RX10 ∧ yX10_feed.cls ≠ "java/lang/invoke/MethodHandle" ∧ yX10_feed.cls ≠ "java/lang/invoke/VarHandle" ∧ (parseMethodDescriptor yX10_feed.desc).map (fun d => d.parameters.length) = some 1 := by decide +kernel
theorem cd_X10_yard : Cond.code yX10_yard cX10_yard 2 (some .int) ∈ tz := tz_in 384 (by decide +kernel) (by decide +kernel)
theorem im_X10_yard : Cond.instanceMethod yX10_yard ∈ tz := tz_in 382 (by decide +kernel) (by decide +kernel)
theorem se_X10_yard : Cond.selects RX10 yX10_yard yX10_yard ∈ tz := tz_in 383 (by decide +kernel) (by decide +kernel)
theorem hc_X10_yard : yX10_yard.cls = RX10 ∧ yX10_yard.cls ≠ "java/lang/invoke/MethodHandle" ∧ yX10_yard.cls ≠ "java/lang/invoke/VarHandle" ∧ (parseMethodDescriptor yX10_yard.desc).map (fun d => d.parameters.length) = some 0 := by decide +kernel
theorem cd_X10_fault : Cond.code yX10_fault cX10_fault 1 (some .int) ∈ tz := tz_in 451 (by decide +kernel) (by decide +kernel)
theorem im_X10_fault : Cond.instanceMethod yX10_fault ∈ tz := tz_in 449 (by decide +kernel) (by decide +kernel)
theorem se_X10_fault : Cond.selects RX10 yX10_fault yX10_fault ∈ tz := tz_in 450 (by decide +kernel) (by decide +kernel)
theorem hc_X10_fault : yX10_fault.cls = RX10 ∧ yX10_fault.cls ≠ "java/lang/invoke/MethodHandle" ∧ yX10_fault.cls ≠ "java/lang/invoke/VarHandle" ∧ (parseMethodDescriptor yX10_fault.desc).map (fun d => d.parameters.length) = some 0 := by decide +kernel
theorem cd_X10_told : Cond.code yX10_told cX10_told 2 (some .int) ∈ tz := tz_in 455 (by decide +kernel) (by decide +kernel)
theorem im_X10_told : Cond.instanceMethod yX10_told ∈ tz := tz_in 453 (by decide +kernel) (by decide +kernel)
theorem se_X10_told : Cond.selects RX10 yX10_told yX10_told ∈ tz := tz_in 454 (by decide +kernel) (by decide +kernel)
theorem hc_X10_told : yX10_told.cls = RX10 ∧ yX10_told.cls ≠ "java/lang/invoke/MethodHandle" ∧ yX10_told.cls ≠ "java/lang/invoke/VarHandle" ∧ (parseMethodDescriptor yX10_told.desc).map (fun d => d.parameters.length) = some 1 := by decide +kernel
theorem cd_X10_man : Cond.code yX10_man cX10_man 4 (some .int) ∈ tz := tz_in 499 (by decide +kernel) (by decide +kernel)
theorem im_X10_man : Cond.instanceMethod yX10_man ∈ tz := tz_in 497 (by decide +kernel) (by decide +kernel)
theorem se_X10_man : Cond.selects RX10 yX10_man yX10_man ∈ tz := tz_in 498 (by decide +kernel) (by decide +kernel)
theorem hc_X10_man : yX10_man.cls = RX10 ∧ yX10_man.cls ≠ "java/lang/invoke/MethodHandle" ∧ yX10_man.cls ≠ "java/lang/invoke/VarHandle" ∧ (parseMethodDescriptor yX10_man.desc).map (fun d => d.parameters.length) = some 2 := by decide +kernel
theorem cd_X10_skin : Cond.code yX10_skin cX10_skin 5 (some .int) ∈ tz := tz_in 516 (by decide +kernel) (by decide +kernel)
theorem im_X10_skin : Cond.instanceMethod yX10_skin ∈ tz := tz_in 514 (by decide +kernel) (by decide +kernel)
theorem se_X10_skin : Cond.selects RX10 yX10_skin yX10_skin ∈ tz := tz_in 515 (by decide +kernel) (by decide +kernel)
theorem hc_X10_skin : yX10_skin.cls = RX10 ∧ yX10_skin.cls ≠ "java/lang/invoke/MethodHandle" ∧ yX10_skin.cls ≠ "java/lang/invoke/VarHandle" ∧ (parseMethodDescriptor yX10_skin.desc).map (fun d => d.parameters.length) = some 3 := by decide +kernel
theorem cd_X10_saying : Cond.code yX10_saying cX10_saying 3 (some .int) ∈ tz := tz_in 520 (by decide +kernel) (by decide +kernel)
theorem im_X10_saying : Cond.instanceMethod yX10_saying ∈ tz := tz_in 518 (by decide +kernel) (by decide +kernel)
theorem se_X10_saying : Cond.selects RX10 yX10_saying yX10_saying ∈ tz := tz_in 519 (by decide +kernel) (by decide +kernel)
theorem hc_X10_saying : yX10_saying.cls = RX10 ∧ yX10_saying.cls ≠ "java/lang/invoke/MethodHandle" ∧ yX10_saying.cls ≠ "java/lang/invoke/VarHandle" ∧ (parseMethodDescriptor yX10_saying.desc).map (fun d => d.parameters.length) = some 2 := by decide +kernel
theorem cd_X10_hurt : Cond.code yX10_hurt cX10_hurt 3 (some .int) ∈ tz := tz_in 528 (by decide +kernel) (by decide +kernel)
theorem im_X10_hurt : Cond.instanceMethod yX10_hurt ∈ tz := tz_in 526 (by decide +kernel) (by decide +kernel)
theorem se_X10_hurt : Cond.selects RX10 yX10_hurt yX10_hurt ∈ tz := tz_in 527 (by decide +kernel) (by decide +kernel)
theorem hc_X10_hurt : yX10_hurt.cls = RX10 ∧ yX10_hurt.cls ≠ "java/lang/invoke/MethodHandle" ∧ yX10_hurt.cls ≠ "java/lang/invoke/VarHandle" ∧ (parseMethodDescriptor yX10_hurt.desc).map (fun d => d.parameters.length) = some 2 := by decide +kernel
theorem cd_X10_month : Cond.code yX10_month cX10_month 4 (some .int) ∈ tz := tz_in 533 (by decide +kernel) (by decide +kernel)
theorem im_X10_month : Cond.instanceMethod yX10_month ∈ tz := tz_in 531 (by decide +kernel) (by decide +kernel)
theorem se_X10_month : Cond.selects RX10 yX10_month yX10_month ∈ tz := tz_in 532 (by decide +kernel) (by decide +kernel)
theorem hc_X10_month : yX10_month.cls = RX10 ∧ yX10_month.cls ≠ "java/lang/invoke/MethodHandle" ∧ yX10_month.cls ≠ "java/lang/invoke/VarHandle" ∧ (parseMethodDescriptor yX10_month.desc).map (fun d => d.parameters.length) = some 1 := by decide +kernel
theorem cd_X10_in : Cond.code yX10_in cX10_in 2 (some .int) ∈ tz := tz_in 582 (by decide +kernel) (by decide +kernel)
theorem im_X10_in : Cond.instanceMethod yX10_in ∈ tz := tz_in 580 (by decide +kernel) (by decide +kernel)
theorem se_X10_in : Cond.selects RX10 yX10_in yX10_in ∈ tz := tz_in 581 (by decide +kernel) (by decide +kernel)
theorem hc_X10_in : yX10_in.cls = RX10 ∧ yX10_in.cls ≠ "java/lang/invoke/MethodHandle" ∧ yX10_in.cls ≠ "java/lang/invoke/VarHandle" ∧ (parseMethodDescriptor yX10_in.desc).map (fun d => d.parameters.length) = some 1 := by decide +kernel
theorem cd_X10_out : Cond.code yX10_out cX10_out 2 (some .int) ∈ tz := tz_in 597 (by decide +kernel) (by decide +kernel)
theorem im_X10_out : Cond.instanceMethod yX10_out ∈ tz := tz_in 595 (by decide +kernel) (by decide +kernel)
theorem se_X10_out : Cond.selects RX10 yX10_out yX10_out ∈ tz := tz_in 596 (by decide +kernel) (by decide +kernel)
theorem hc_X10_out : yX10_out.cls = RX10 ∧ yX10_out.cls ≠ "java/lang/invoke/MethodHandle" ∧ yX10_out.cls ≠ "java/lang/invoke/VarHandle" ∧ (parseMethodDescriptor yX10_out.desc).map (fun d => d.parameters.length) = some 1 := by decide +kernel
theorem cd_X10_scrape : Cond.code yX10_scrape cX10_scrape 4 (some .int) ∈ tz := tz_in 601 (by decide +kernel) (by decide +kernel)
theorem im_X10_scrape : Cond.instanceMethod yX10_scrape ∈ tz := tz_in 599 (by decide +kernel) (by decide +kernel)
theorem se_X10_scrape : Cond.selects RX10 yX10_scrape yX10_scrape ∈ tz := tz_in 600 (by decide +kernel) (by decide +kernel)
theorem hc_X10_scrape : yX10_scrape.cls = RX10 ∧ yX10_scrape.cls ≠ "java/lang/invoke/MethodHandle" ∧ yX10_scrape.cls ≠ "java/lang/invoke/VarHandle" ∧ (parseMethodDescriptor yX10_scrape.desc).map (fun d => d.parameters.length) = some 3 := by decide +kernel
theorem cd_X10_say : Cond.code yX10_say cX10_say 3 (some .int) ∈ tz := tz_in 611 (by decide +kernel) (by decide +kernel)
theorem im_X10_say : Cond.instanceMethod yX10_say ∈ tz := tz_in 609 (by decide +kernel) (by decide +kernel)
theorem se_X10_say : Cond.selects RX10 yX10_say yX10_say ∈ tz := tz_in 610 (by decide +kernel) (by decide +kernel)
theorem hc_X10_say : yX10_say.cls = RX10 ∧ yX10_say.cls ≠ "java/lang/invoke/MethodHandle" ∧ yX10_say.cls ≠ "java/lang/invoke/VarHandle" ∧ (parseMethodDescriptor yX10_say.desc).map (fun d => d.parameters.length) = some 2 := by decide +kernel
theorem cd_X10_bark : Cond.code yX10_bark cX10_bark 3 (some .int) ∈ tz := tz_in 620 (by decide +kernel) (by decide +kernel)
theorem im_X10_bark : Cond.instanceMethod yX10_bark ∈ tz := tz_in 618 (by decide +kernel) (by decide +kernel)
theorem se_X10_bark : Cond.selects RX10 yX10_bark yX10_bark ∈ tz := tz_in 619 (by decide +kernel) (by decide +kernel)
theorem hc_X10_bark : yX10_bark.cls = RX10 ∧ yX10_bark.cls ≠ "java/lang/invoke/MethodHandle" ∧ yX10_bark.cls ≠ "java/lang/invoke/VarHandle" ∧ (parseMethodDescriptor yX10_bark.desc).map (fun d => d.parameters.length) = some 1 := by decide +kernel
theorem cd_X10_drift : Cond.code yX10_drift cX10_drift 4 (some .int) ∈ tz := tz_in 624 (by decide +kernel) (by decide +kernel)
theorem im_X10_drift : Cond.instanceMethod yX10_drift ∈ tz := tz_in 622 (by decide +kernel) (by decide +kernel)
theorem se_X10_drift : Cond.selects RX10 yX10_drift yX10_drift ∈ tz := tz_in 623 (by decide +kernel) (by decide +kernel)
theorem hc_X10_drift : yX10_drift.cls = RX10 ∧ yX10_drift.cls ≠ "java/lang/invoke/MethodHandle" ∧ yX10_drift.cls ≠ "java/lang/invoke/VarHandle" ∧ (parseMethodDescriptor yX10_drift.desc).map (fun d => d.parameters.length) = some 1 := by decide +kernel
theorem cd_X10_undo : Cond.code yX10_undo cX10_undo 1 (some .int) ∈ tz := tz_in 647 (by decide +kernel) (by decide +kernel)
theorem im_X10_undo : Cond.instanceMethod yX10_undo ∈ tz := tz_in 645 (by decide +kernel) (by decide +kernel)
theorem se_X10_undo : Cond.selects RX10 yX10_undo yX10_undo ∈ tz := tz_in 646 (by decide +kernel) (by decide +kernel)
theorem hc_X10_undo : yX10_undo.cls = RX10 ∧ yX10_undo.cls ≠ "java/lang/invoke/MethodHandle" ∧ yX10_undo.cls ≠ "java/lang/invoke/VarHandle" ∧ (parseMethodDescriptor yX10_undo.desc).map (fun d => d.parameters.length) = some 0 := by decide +kernel
theorem cd_X10_thick : Cond.code yX10_thick cX10_thick 5 (some .int) ∈ tz := tz_in 663 (by decide +kernel) (by decide +kernel)
theorem im_X10_thick : Cond.instanceMethod yX10_thick ∈ tz := tz_in 661 (by decide +kernel) (by decide +kernel)
theorem se_X10_thick : Cond.selects RX10 yX10_thick yX10_thick ∈ tz := tz_in 662 (by decide +kernel) (by decide +kernel)
theorem hc_X10_thick : yX10_thick.cls = RX10 ∧ yX10_thick.cls ≠ "java/lang/invoke/MethodHandle" ∧ yX10_thick.cls ≠ "java/lang/invoke/VarHandle" ∧ (parseMethodDescriptor yX10_thick.desc).map (fun d => d.parameters.length) = some 3 := by decide +kernel
theorem cd_X10_when : Cond.code yX10_when cX10_when 4 (some .int) ∈ tz := tz_in 684 (by decide +kernel) (by decide +kernel)
theorem im_X10_when : Cond.instanceMethod yX10_when ∈ tz := tz_in 682 (by decide +kernel) (by decide +kernel)
theorem se_X10_when : Cond.selects RX10 yX10_when yX10_when ∈ tz := tz_in 683 (by decide +kernel) (by decide +kernel)
theorem hc_X10_when : yX10_when.cls = RX10 ∧ yX10_when.cls ≠ "java/lang/invoke/MethodHandle" ∧ yX10_when.cls ≠ "java/lang/invoke/VarHandle" ∧ (parseMethodDescriptor yX10_when.desc).map (fun d => d.parameters.length) = some 3 := by decide +kernel
theorem cd_X10_edge : Cond.code yX10_edge cX10_edge 6 (some .int) ∈ tz := tz_in 702 (by decide +kernel) (by decide +kernel)
theorem im_X10_edge : Cond.instanceMethod yX10_edge ∈ tz := tz_in 700 (by decide +kernel) (by decide +kernel)
theorem se_X10_edge : Cond.selects RX10 yX10_edge yX10_edge ∈ tz := tz_in 701 (by decide +kernel) (by decide +kernel)
theorem hc_X10_edge : yX10_edge.cls = RX10 ∧ yX10_edge.cls ≠ "java/lang/invoke/MethodHandle" ∧ yX10_edge.cls ≠ "java/lang/invoke/VarHandle" ∧ (parseMethodDescriptor yX10_edge.desc).map (fun d => d.parameters.length) = some 4 := by decide +kernel
theorem cd_X10_scraping : Cond.code yX10_scraping cX10_scraping 3 (some .int) ∈ tz := tz_in 723 (by decide +kernel) (by decide +kernel)
theorem im_X10_scraping : Cond.instanceMethod yX10_scraping ∈ tz := tz_in 721 (by decide +kernel) (by decide +kernel)
theorem se_X10_scraping : Cond.selects RX10 yX10_scraping yX10_scraping ∈ tz := tz_in 722 (by decide +kernel) (by decide +kernel)
theorem hc_X10_scraping : yX10_scraping.cls = RX10 ∧ yX10_scraping.cls ≠ "java/lang/invoke/MethodHandle" ∧ yX10_scraping.cls ≠ "java/lang/invoke/VarHandle" ∧ (parseMethodDescriptor yX10_scraping.desc).map (fun d => d.parameters.length) = some 2 := by decide +kernel
theorem cd_X10_through : Cond.code yX10_through cX10_through 4 (some .int) ∈ tz := tz_in 735 (by decide +kernel) (by decide +kernel)
theorem im_X10_through : Cond.instanceMethod yX10_through ∈ tz := tz_in 733 (by decide +kernel) (by decide +kernel)
theorem se_X10_through : Cond.selects RX10 yX10_through yX10_through ∈ tz := tz_in 734 (by decide +kernel) (by decide +kernel)
theorem hc_X10_through : yX10_through.cls = RX10 ∧ yX10_through.cls ≠ "java/lang/invoke/MethodHandle" ∧ yX10_through.cls ≠ "java/lang/invoke/VarHandle" ∧ (parseMethodDescriptor yX10_through.desc).map (fun d => d.parameters.length) = some 2 := by decide +kernel
theorem cd_X10_over : Cond.code yX10_over cX10_over 3 (some .int) ∈ tz := tz_in 762 (by decide +kernel) (by decide +kernel)
theorem im_X10_over : Cond.instanceMethod yX10_over ∈ tz := tz_in 760 (by decide +kernel) (by decide +kernel)
theorem se_X10_over : Cond.selects RX10 yX10_over yX10_over ∈ tz := tz_in 761 (by decide +kernel) (by decide +kernel)
theorem hc_X10_over : yX10_over.cls = RX10 ∧ yX10_over.cls ≠ "java/lang/invoke/MethodHandle" ∧ yX10_over.cls ≠ "java/lang/invoke/VarHandle" ∧ (parseMethodDescriptor yX10_over.desc).map (fun d => d.parameters.length) = some 2 := by decide +kernel
theorem cd_X10_quiet : Cond.code yX10_quiet cX10_quiet 6 (some .int) ∈ tz := tz_in 773 (by decide +kernel) (by decide +kernel)
theorem im_X10_quiet : Cond.instanceMethod yX10_quiet ∈ tz := tz_in 771 (by decide +kernel) (by decide +kernel)
theorem se_X10_quiet : Cond.selects RX10 yX10_quiet yX10_quiet ∈ tz := tz_in 772 (by decide +kernel) (by decide +kernel)
theorem hc_X10_quiet : yX10_quiet.cls = RX10 ∧ yX10_quiet.cls ≠ "java/lang/invoke/MethodHandle" ∧ yX10_quiet.cls ≠ "java/lang/invoke/VarHandle" ∧ (parseMethodDescriptor yX10_quiet.desc).map (fun d => d.parameters.length) = some 2 := by decide +kernel
theorem cd_X10_hear : Cond.code yX10_hear cX10_hear 4 (some .int) ∈ tz := tz_in 779 (by decide +kernel) (by decide +kernel)
theorem im_X10_hear : Cond.instanceMethod yX10_hear ∈ tz := tz_in 777 (by decide +kernel) (by decide +kernel)
theorem se_X10_hear : Cond.selects RX10 yX10_hear yX10_hear ∈ tz := tz_in 778 (by decide +kernel) (by decide +kernel)
theorem hc_X10_hear : yX10_hear.cls = RX10 ∧ yX10_hear.cls ≠ "java/lang/invoke/MethodHandle" ∧ yX10_hear.cls ≠ "java/lang/invoke/VarHandle" ∧ (parseMethodDescriptor yX10_hear.desc).map (fun d => d.parameters.length) = some 3 := by decide +kernel
theorem cd_X10_stays : Cond.code yX10_stays cX10_stays 4 (some .int) ∈ tz := tz_in 787 (by decide +kernel) (by decide +kernel)
theorem im_X10_stays : Cond.instanceMethod yX10_stays ∈ tz := tz_in 785 (by decide +kernel) (by decide +kernel)
theorem se_X10_stays : Cond.selects RX10 yX10_stays yX10_stays ∈ tz := tz_in 786 (by decide +kernel) (by decide +kernel)
theorem hc_X10_stays : yX10_stays.cls = RX10 ∧ yX10_stays.cls ≠ "java/lang/invoke/MethodHandle" ∧ yX10_stays.cls ≠ "java/lang/invoke/VarHandle" ∧ (parseMethodDescriptor yX10_stays.desc).map (fun d => d.parameters.length) = some 2 := by decide +kernel
theorem cd_X10_ask : Cond.code yX10_ask cX10_ask 3 (some .int) ∈ tz := tz_in 801 (by decide +kernel) (by decide +kernel)
theorem im_X10_ask : Cond.instanceMethod yX10_ask ∈ tz := tz_in 799 (by decide +kernel) (by decide +kernel)
theorem se_X10_ask : Cond.selects RX10 yX10_ask yX10_ask ∈ tz := tz_in 800 (by decide +kernel) (by decide +kernel)
theorem hc_X10_ask : yX10_ask.cls = RX10 ∧ yX10_ask.cls ≠ "java/lang/invoke/MethodHandle" ∧ yX10_ask.cls ≠ "java/lang/invoke/VarHandle" ∧ (parseMethodDescriptor yX10_ask.desc).map (fun d => d.parameters.length) = some 1 := by decide +kernel
theorem cd_X10_write : Cond.code yX10_write cX10_write 3 (some .int) ∈ tz := tz_in 818 (by decide +kernel) (by decide +kernel)
theorem im_X10_write : Cond.instanceMethod yX10_write ∈ tz := tz_in 816 (by decide +kernel) (by decide +kernel)
theorem se_X10_write : Cond.selects RX10 yX10_write yX10_write ∈ tz := tz_in 817 (by decide +kernel) (by decide +kernel)
theorem hc_X10_write : yX10_write.cls = RX10 ∧ yX10_write.cls ≠ "java/lang/invoke/MethodHandle" ∧ yX10_write.cls ≠ "java/lang/invoke/VarHandle" ∧ (parseMethodDescriptor yX10_write.desc).map (fun d => d.parameters.length) = some 2 := by decide +kernel
theorem cd_X10_tear : Cond.code yX10_tear cX10_tear 2 (some .int) ∈ tz := tz_in 827 (by decide +kernel) (by decide +kernel)
theorem im_X10_tear : Cond.instanceMethod yX10_tear ∈ tz := tz_in 825 (by decide +kernel) (by decide +kernel)
theorem se_X10_tear : Cond.selects RX10 yX10_tear yX10_tear ∈ tz := tz_in 826 (by decide +kernel) (by decide +kernel)
theorem hc_X10_tear : yX10_tear.cls = RX10 ∧ yX10_tear.cls ≠ "java/lang/invoke/MethodHandle" ∧ yX10_tear.cls ≠ "java/lang/invoke/VarHandle" ∧ (parseMethodDescriptor yX10_tear.desc).map (fun d => d.parameters.length) = some 0 := by decide +kernel
theorem cd_X10_judge : Cond.code yX10_judge cX10_judge 1 (some .int) ∈ tz := tz_in 831 (by decide +kernel) (by decide +kernel)
theorem im_X10_judge : Cond.instanceMethod yX10_judge ∈ tz := tz_in 829 (by decide +kernel) (by decide +kernel)
theorem se_X10_judge : Cond.selects RX10 yX10_judge yX10_judge ∈ tz := tz_in 830 (by decide +kernel) (by decide +kernel)
theorem hc_X10_judge : yX10_judge.cls = RX10 ∧ yX10_judge.cls ≠ "java/lang/invoke/MethodHandle" ∧ yX10_judge.cls ≠ "java/lang/invoke/VarHandle" ∧ (parseMethodDescriptor yX10_judge.desc).map (fun d => d.parameters.length) = some 0 := by decide +kernel
theorem cd_X10_seed : Cond.code yX10_seed cX10_seed 3 (some .int) ∈ tz := tz_in 839 (by decide +kernel) (by decide +kernel)
theorem im_X10_seed : Cond.instanceMethod yX10_seed ∈ tz := tz_in 837 (by decide +kernel) (by decide +kernel)
theorem se_X10_seed : Cond.selects RX10 yX10_seed yX10_seed ∈ tz := tz_in 838 (by decide +kernel) (by decide +kernel)
theorem hc_X10_seed : yX10_seed.cls = RX10 ∧ yX10_seed.cls ≠ "java/lang/invoke/MethodHandle" ∧ yX10_seed.cls ≠ "java/lang/invoke/VarHandle" ∧ (parseMethodDescriptor yX10_seed.desc).map (fun d => d.parameters.length) = some 1 := by decide +kernel
theorem cd_X10_keep : Cond.code yX10_keep cX10_keep 2 (some .int) ∈ tz := tz_in 843 (by decide +kernel) (by decide +kernel)
theorem im_X10_keep : Cond.instanceMethod yX10_keep ∈ tz := tz_in 841 (by decide +kernel) (by decide +kernel)
theorem se_X10_keep : Cond.selects RX10 yX10_keep yX10_keep ∈ tz := tz_in 842 (by decide +kernel) (by decide +kernel)
theorem hc_X10_keep : yX10_keep.cls = RX10 ∧ yX10_keep.cls ≠ "java/lang/invoke/MethodHandle" ∧ yX10_keep.cls ≠ "java/lang/invoke/VarHandle" ∧ (parseMethodDescriptor yX10_keep.desc).map (fun d => d.parameters.length) = some 1 := by decide +kernel
theorem cd_X10_goBack : Cond.code yX10_goBack cX10_goBack 2 (some .int) ∈ tz := tz_in 851 (by decide +kernel) (by decide +kernel)
theorem im_X10_goBack : Cond.instanceMethod yX10_goBack ∈ tz := tz_in 849 (by decide +kernel) (by decide +kernel)
theorem se_X10_goBack : Cond.selects RX10 yX10_goBack yX10_goBack ∈ tz := tz_in 850 (by decide +kernel) (by decide +kernel)
theorem hc_X10_goBack : yX10_goBack.cls = RX10 ∧ yX10_goBack.cls ≠ "java/lang/invoke/MethodHandle" ∧ yX10_goBack.cls ≠ "java/lang/invoke/VarHandle" ∧ (parseMethodDescriptor yX10_goBack.desc).map (fun d => d.parameters.length) = some 1 := by decide +kernel
theorem cd_X10_isOutside : Cond.code yX10_isOutside cX10_isOutside 3 (some .boolean) ∈ tz := tz_in 374 (by decide +kernel) (by decide +kernel)
theorem sm_X10_isOutside : Cond.static yX10_isOutside ∈ tz := tz_in 373 (by decide +kernel) (by decide +kernel)
theorem hc_X10_isOutside : yX10_isOutside.cls ≠ "java/lang/invoke/MethodHandle" ∧ yX10_isOutside.cls ≠ "java/lang/invoke/VarHandle" ∧ (parseMethodDescriptor yX10_isOutside.desc).map (fun d => d.parameters.length) = some 3 := by decide +kernel
theorem cd_X10_refusalOfMonths : Cond.code yX10_refusalOfMonths cX10_refusalOfMonths 2 (some .int) ∈ tz := tz_in 537 (by decide +kernel) (by decide +kernel)
theorem im_X10_refusalOfMonths : Cond.instanceMethod yX10_refusalOfMonths ∈ tz := tz_in 536 (by decide +kernel) (by decide +kernel)
theorem se_X10_refusalOfMonths : Cond.selects RX10 yX10_refusalOfMonths yX10_refusalOfMonths ∈ tz := tz_in 0 (by decide +kernel) (by decide +kernel)
theorem hc_X10_refusalOfMonths : yX10_refusalOfMonths.cls = RX10 ∧ yX10_refusalOfMonths.cls ≠ "java/lang/invoke/MethodHandle" ∧ yX10_refusalOfMonths.cls ≠ "java/lang/invoke/VarHandle" ∧ (parseMethodDescriptor yX10_refusalOfMonths.desc).map (fun d => d.parameters.length) = some 1 := by decide +kernel
theorem cd_X11_within : Cond.code yX11_within cX11_within 6 (some .boolean) ∈ tz := tz_in 1001 (by decide +kernel) (by decide +kernel)
theorem sm_X11_within : Cond.static yX11_within ∈ tz := tz_in 1000 (by decide +kernel) (by decide +kernel)
theorem hc_X11_within : yX11_within.cls ≠ "java/lang/invoke/MethodHandle" ∧ yX11_within.cls ≠ "java/lang/invoke/VarHandle" ∧ (parseMethodDescriptor yX11_within.desc).map (fun d => d.parameters.length) = some 3 := by decide +kernel
theorem cd_X11_has : Cond.code yX11_has cX11_has 2 (some .boolean) ∈ tz := tz_in 1145 (by decide +kernel) (by decide +kernel)
theorem sm_X11_has : Cond.static yX11_has ∈ tz := tz_in 1144 (by decide +kernel) (by decide +kernel)
theorem hc_X11_has : yX11_has.cls ≠ "java/lang/invoke/MethodHandle" ∧ yX11_has.cls ≠ "java/lang/invoke/VarHandle" ∧ (parseMethodDescriptor yX11_has.desc).map (fun d => d.parameters.length) = some 2 := by decide +kernel
theorem cd_X11_ones : Cond.code yX11_ones cX11_ones 3 (some .int) ∈ tz := tz_in 1163 (by decide +kernel) (by decide +kernel)
theorem sm_X11_ones : Cond.static yX11_ones ∈ tz := tz_in 1162 (by decide +kernel) (by decide +kernel)
theorem hc_X11_ones : yX11_ones.cls ≠ "java/lang/invoke/MethodHandle" ∧ yX11_ones.cls ≠ "java/lang/invoke/VarHandle" ∧ (parseMethodDescriptor yX11_ones.desc).map (fun d => d.parameters.length) = some 1 := by decide +kernel
theorem cd_X11_isMan : Cond.code yX11_isMan cX11_isMan 2 (some .boolean) ∈ tz := tz_in 1095 (by decide +kernel) (by decide +kernel)
theorem im_X11_isMan : Cond.instanceMethod yX11_isMan ∈ tz := tz_in 1094 (by decide +kernel) (by decide +kernel)
theorem se_X11_isMan : Cond.selects RX11 yX11_isMan yX11_isMan ∈ tz := tz_in 18 (by decide +kernel) (by decide +kernel)
theorem hc_X11_isMan : yX11_isMan.cls = RX11 ∧ yX11_isMan.cls ≠ "java/lang/invoke/MethodHandle" ∧ yX11_isMan.cls ≠ "java/lang/invoke/VarHandle" ∧ (parseMethodDescriptor yX11_isMan.desc).map (fun d => d.parameters.length) = some 1 := by decide +kernel
theorem cd_X11_isSaying : Cond.code yX11_isSaying cX11_isSaying 2 (some .boolean) ∈ tz := tz_in 1120 (by decide +kernel) (by decide +kernel)
theorem im_X11_isSaying : Cond.instanceMethod yX11_isSaying ∈ tz := tz_in 1119 (by decide +kernel) (by decide +kernel)
theorem se_X11_isSaying : Cond.selects RX11 yX11_isSaying yX11_isSaying ∈ tz := tz_in 21 (by decide +kernel) (by decide +kernel)
theorem hc_X11_isSaying : yX11_isSaying.cls = RX11 ∧ yX11_isSaying.cls ≠ "java/lang/invoke/MethodHandle" ∧ yX11_isSaying.cls ≠ "java/lang/invoke/VarHandle" ∧ (parseMethodDescriptor yX11_isSaying.desc).map (fun d => d.parameters.length) = some 1 := by decide +kernel
theorem cd_X11_areSayings : Cond.code yX11_areSayings cX11_areSayings 2 (some .boolean) ∈ tz := tz_in 1228 (by decide +kernel) (by decide +kernel)
theorem im_X11_areSayings : Cond.instanceMethod yX11_areSayings ∈ tz := tz_in 1227 (by decide +kernel) (by decide +kernel)
theorem se_X11_areSayings : Cond.selects RX11 yX11_areSayings yX11_areSayings ∈ tz := tz_in 31 (by decide +kernel) (by decide +kernel)
theorem hc_X11_areSayings : yX11_areSayings.cls = RX11 ∧ yX11_areSayings.cls ≠ "java/lang/invoke/MethodHandle" ∧ yX11_areSayings.cls ≠ "java/lang/invoke/VarHandle" ∧ (parseMethodDescriptor yX11_areSayings.desc).map (fun d => d.parameters.length) = some 1 := by decide +kernel
theorem cd_X11_isPlace : Cond.code yX11_isPlace cX11_isPlace 1 (some .boolean) ∈ tz := tz_in 1111 (by decide +kernel) (by decide +kernel)
theorem sm_X11_isPlace : Cond.static yX11_isPlace ∈ tz := tz_in 1110 (by decide +kernel) (by decide +kernel)
theorem hc_X11_isPlace : yX11_isPlace.cls ≠ "java/lang/invoke/MethodHandle" ∧ yX11_isPlace.cls ≠ "java/lang/invoke/VarHandle" ∧ (parseMethodDescriptor yX11_isPlace.desc).map (fun d => d.parameters.length) = some 1 := by decide +kernel
theorem cd_X11_feed : Cond.code yX11_feed cX11_feed 2 (some .int) ∈ tz := tz_in 997 (by decide +kernel) (by decide +kernel)
theorem im_X11_feed : Cond.instanceMethod yX11_feed ∈ tz := tz_in 995 (by decide +kernel) (by decide +kernel)
theorem se_X11_feed : Cond.selects RX11 yX11_feed yX11_feed ∈ tz := tz_in 996 (by decide +kernel) (by decide +kernel)
theorem hc_X11_feed : yX11_feed.cls = RX11 ∧ yX11_feed.cls ≠ "java/lang/invoke/MethodHandle" ∧ yX11_feed.cls ≠ "java/lang/invoke/VarHandle" ∧ (parseMethodDescriptor yX11_feed.desc).map (fun d => d.parameters.length) = some 1 := by decide +kernel
theorem cd_X11_here : Cond.code yX11_here cX11_here 1 (some .int) ∈ tz := tz_in 1011 (by decide +kernel) (by decide +kernel)
theorem im_X11_here : Cond.instanceMethod yX11_here ∈ tz := tz_in 1010 (by decide +kernel) (by decide +kernel)
theorem se_X11_here : Cond.selects RX11 yX11_here yX11_here ∈ tz := tz_in 1 (by decide +kernel) (by decide +kernel)
theorem hc_X11_here : yX11_here.cls = RX11 ∧ yX11_here.cls ≠ "java/lang/invoke/MethodHandle" ∧ yX11_here.cls ≠ "java/lang/invoke/VarHandle" ∧ (parseMethodDescriptor yX11_here.desc).map (fun d => d.parameters.length) = some 0 := by decide +kernel
theorem cd_X11_fails : Cond.code yX11_fails cX11_fails 3 (some .int) ∈ tz := tz_in 1019 (by decide +kernel) (by decide +kernel)
theorem im_X11_fails : Cond.instanceMethod yX11_fails ∈ tz := tz_in 1018 (by decide +kernel) (by decide +kernel)
theorem se_X11_fails : Cond.selects RX11 yX11_fails yX11_fails ∈ tz := tz_in 3 (by decide +kernel) (by decide +kernel)
theorem hc_X11_fails : yX11_fails.cls = RX11 ∧ yX11_fails.cls ≠ "java/lang/invoke/MethodHandle" ∧ yX11_fails.cls ≠ "java/lang/invoke/VarHandle" ∧ (parseMethodDescriptor yX11_fails.desc).map (fun d => d.parameters.length) = some 2 := by decide +kernel
theorem cd_X11_takeNumber : Cond.code yX11_takeNumber cX11_takeNumber 4 (some .int) ∈ tz := tz_in 1035 (by decide +kernel) (by decide +kernel)
theorem im_X11_takeNumber : Cond.instanceMethod yX11_takeNumber ∈ tz := tz_in 1034 (by decide +kernel) (by decide +kernel)
theorem se_X11_takeNumber : Cond.selects RX11 yX11_takeNumber yX11_takeNumber ∈ tz := tz_in 7 (by decide +kernel) (by decide +kernel)
theorem hc_X11_takeNumber : yX11_takeNumber.cls = RX11 ∧ yX11_takeNumber.cls ≠ "java/lang/invoke/MethodHandle" ∧ yX11_takeNumber.cls ≠ "java/lang/invoke/VarHandle" ∧ (parseMethodDescriptor yX11_takeNumber.desc).map (fun d => d.parameters.length) = some 2 := by decide +kernel
theorem cd_X11_takePits : Cond.code yX11_takePits cX11_takePits 3 (some .int) ∈ tz := tz_in 1031 (by decide +kernel) (by decide +kernel)
theorem im_X11_takePits : Cond.instanceMethod yX11_takePits ∈ tz := tz_in 1030 (by decide +kernel) (by decide +kernel)
theorem se_X11_takePits : Cond.selects RX11 yX11_takePits yX11_takePits ∈ tz := tz_in 6 (by decide +kernel) (by decide +kernel)
theorem hc_X11_takePits : yX11_takePits.cls = RX11 ∧ yX11_takePits.cls ≠ "java/lang/invoke/MethodHandle" ∧ yX11_takePits.cls ≠ "java/lang/invoke/VarHandle" ∧ (parseMethodDescriptor yX11_takePits.desc).map (fun d => d.parameters.length) = some 0 := by decide +kernel
theorem cd_X11_takeMan : Cond.code yX11_takeMan cX11_takeMan 3 (some .int) ∈ tz := tz_in 1041 (by decide +kernel) (by decide +kernel)
theorem im_X11_takeMan : Cond.instanceMethod yX11_takeMan ∈ tz := tz_in 1040 (by decide +kernel) (by decide +kernel)
theorem se_X11_takeMan : Cond.selects RX11 yX11_takeMan yX11_takeMan ∈ tz := tz_in 8 (by decide +kernel) (by decide +kernel)
theorem hc_X11_takeMan : yX11_takeMan.cls = RX11 ∧ yX11_takeMan.cls ≠ "java/lang/invoke/MethodHandle" ∧ yX11_takeMan.cls ≠ "java/lang/invoke/VarHandle" ∧ (parseMethodDescriptor yX11_takeMan.desc).map (fun d => d.parameters.length) = some 0 := by decide +kernel
theorem cd_X11_takeSaying : Cond.code yX11_takeSaying cX11_takeSaying 2 (some .int) ∈ tz := tz_in 1045 (by decide +kernel) (by decide +kernel)
theorem im_X11_takeSaying : Cond.instanceMethod yX11_takeSaying ∈ tz := tz_in 1044 (by decide +kernel) (by decide +kernel)
theorem se_X11_takeSaying : Cond.selects RX11 yX11_takeSaying yX11_takeSaying ∈ tz := tz_in 9 (by decide +kernel) (by decide +kernel)
theorem hc_X11_takeSaying : yX11_takeSaying.cls = RX11 ∧ yX11_takeSaying.cls ≠ "java/lang/invoke/MethodHandle" ∧ yX11_takeSaying.cls ≠ "java/lang/invoke/VarHandle" ∧ (parseMethodDescriptor yX11_takeSaying.desc).map (fun d => d.parameters.length) = some 0 := by decide +kernel
theorem cd_X11_isFull : Cond.code yX11_isFull cX11_isFull 2 (some .boolean) ∈ tz := tz_in 1023 (by decide +kernel) (by decide +kernel)
theorem im_X11_isFull : Cond.instanceMethod yX11_isFull ∈ tz := tz_in 1022 (by decide +kernel) (by decide +kernel)
theorem se_X11_isFull : Cond.selects RX11 yX11_isFull yX11_isFull ∈ tz := tz_in 4 (by decide +kernel) (by decide +kernel)
theorem hc_X11_isFull : yX11_isFull.cls = RX11 ∧ yX11_isFull.cls ≠ "java/lang/invoke/MethodHandle" ∧ yX11_isFull.cls ≠ "java/lang/invoke/VarHandle" ∧ (parseMethodDescriptor yX11_isFull.desc).map (fun d => d.parameters.length) = some 1 := by decide +kernel
theorem cd_X11_takeBody : Cond.code yX11_takeBody cX11_takeBody 2 (some .int) ∈ tz := tz_in 1027 (by decide +kernel) (by decide +kernel)
theorem im_X11_takeBody : Cond.instanceMethod yX11_takeBody ∈ tz := tz_in 1026 (by decide +kernel) (by decide +kernel)
theorem se_X11_takeBody : Cond.selects RX11 yX11_takeBody yX11_takeBody ∈ tz := tz_in 5 (by decide +kernel) (by decide +kernel)
theorem hc_X11_takeBody : yX11_takeBody.cls = RX11 ∧ yX11_takeBody.cls ≠ "java/lang/invoke/MethodHandle" ∧ yX11_takeBody.cls ≠ "java/lang/invoke/VarHandle" ∧ (parseMethodDescriptor yX11_takeBody.desc).map (fun d => d.parameters.length) = some 1 := by decide +kernel
theorem cd_X11_takeClause : Cond.code yX11_takeClause cX11_takeClause 4 (some .int) ∈ tz := tz_in 1015 (by decide +kernel) (by decide +kernel)
theorem im_X11_takeClause : Cond.instanceMethod yX11_takeClause ∈ tz := tz_in 1014 (by decide +kernel) (by decide +kernel)
theorem se_X11_takeClause : Cond.selects RX11 yX11_takeClause yX11_takeClause ∈ tz := tz_in 2 (by decide +kernel) (by decide +kernel)
theorem hc_X11_takeClause : yX11_takeClause.cls = RX11 ∧ yX11_takeClause.cls ≠ "java/lang/invoke/MethodHandle" ∧ yX11_takeClause.cls ≠ "java/lang/invoke/VarHandle" ∧ (parseMethodDescriptor yX11_takeClause.desc).map (fun d => d.parameters.length) = some 0 := by decide +kernel
theorem cd_X11_takeRead : Cond.code yX11_takeRead cX11_takeRead 2 none ∈ tz := tz_in 1049 (by decide +kernel) (by decide +kernel)
theorem im_X11_takeRead : Cond.instanceMethod yX11_takeRead ∈ tz := tz_in 1048 (by decide +kernel) (by decide +kernel)
theorem se_X11_takeRead : Cond.selects RX11 yX11_takeRead yX11_takeRead ∈ tz := tz_in 10 (by decide +kernel) (by decide +kernel)
theorem hc_X11_takeRead : yX11_takeRead.cls = RX11 ∧ yX11_takeRead.cls ≠ "java/lang/invoke/MethodHandle" ∧ yX11_takeRead.cls ≠ "java/lang/invoke/VarHandle" ∧ (parseMethodDescriptor yX11_takeRead.desc).map (fun d => d.parameters.length) = some 0 := by decide +kernel
theorem cd_X11_yard : Cond.code yX11_yard cX11_yard 2 (some .int) ∈ tz := tz_in 1007 (by decide +kernel) (by decide +kernel)
theorem im_X11_yard : Cond.instanceMethod yX11_yard ∈ tz := tz_in 1005 (by decide +kernel) (by decide +kernel)
theorem se_X11_yard : Cond.selects RX11 yX11_yard yX11_yard ∈ tz := tz_in 1006 (by decide +kernel) (by decide +kernel)
theorem hc_X11_yard : yX11_yard.cls = RX11 ∧ yX11_yard.cls ≠ "java/lang/invoke/MethodHandle" ∧ yX11_yard.cls ≠ "java/lang/invoke/VarHandle" ∧ (parseMethodDescriptor yX11_yard.desc).map (fun d => d.parameters.length) = some 0 := by decide +kernel
theorem cd_X11_fault : Cond.code yX11_fault cX11_fault 1 (some .int) ∈ tz := tz_in 1053 (by decide +kernel) (by decide +kernel)
theorem im_X11_fault : Cond.instanceMethod yX11_fault ∈ tz := tz_in 1051 (by decide +kernel) (by decide +kernel)
theorem se_X11_fault : Cond.selects RX11 yX11_fault yX11_fault ∈ tz := tz_in 1052 (by decide +kernel) (by decide +kernel)
theorem hc_X11_fault : yX11_fault.cls = RX11 ∧ yX11_fault.cls ≠ "java/lang/invoke/MethodHandle" ∧ yX11_fault.cls ≠ "java/lang/invoke/VarHandle" ∧ (parseMethodDescriptor yX11_fault.desc).map (fun d => d.parameters.length) = some 0 := by decide +kernel
theorem cd_X11_capped : Cond.code yX11_capped cX11_capped 1 (some .int) ∈ tz := tz_in 1152 (by decide +kernel) (by decide +kernel)
theorem sm_X11_capped : Cond.static yX11_capped ∈ tz := tz_in 1151 (by decide +kernel) (by decide +kernel)
theorem hc_X11_capped : yX11_capped.cls ≠ "java/lang/invoke/MethodHandle" ∧ yX11_capped.cls ≠ "java/lang/invoke/VarHandle" ∧ (parseMethodDescriptor yX11_capped.desc).map (fun d => d.parameters.length) = some 1 := by decide +kernel
theorem cd_X11_tans : Cond.code yX11_tans cX11_tans 7 none ∈ tz := tz_in 1149 (by decide +kernel) (by decide +kernel)
theorem im_X11_tans : Cond.instanceMethod yX11_tans ∈ tz := tz_in 1148 (by decide +kernel) (by decide +kernel)
theorem se_X11_tans : Cond.selects RX11 yX11_tans yX11_tans ∈ tz := tz_in 25 (by decide +kernel) (by decide +kernel)
theorem hc_X11_tans : yX11_tans.cls = RX11 ∧ yX11_tans.cls ≠ "java/lang/invoke/MethodHandle" ∧ yX11_tans.cls ≠ "java/lang/invoke/VarHandle" ∧ (parseMethodDescriptor yX11_tans.desc).map (fun d => d.parameters.length) = some 3 := by decide +kernel
theorem cd_X11_takesSkin : Cond.code yX11_takesSkin cX11_takesSkin 3 none ∈ tz := tz_in 1074 (by decide +kernel) (by decide +kernel)
theorem im_X11_takesSkin : Cond.instanceMethod yX11_takesSkin ∈ tz := tz_in 1073 (by decide +kernel) (by decide +kernel)
theorem se_X11_takesSkin : Cond.selects RX11 yX11_takesSkin yX11_takesSkin ∈ tz := tz_in 14 (by decide +kernel) (by decide +kernel)
theorem hc_X11_takesSkin : yX11_takesSkin.cls = RX11 ∧ yX11_takesSkin.cls ≠ "java/lang/invoke/MethodHandle" ∧ yX11_takesSkin.cls ≠ "java/lang/invoke/VarHandle" ∧ (parseMethodDescriptor yX11_takesSkin.desc).map (fun d => d.parameters.length) = some 1 := by decide +kernel
theorem cd_X11_takesFirst : Cond.code yX11_takesFirst cX11_takesFirst 3 none ∈ tz := tz_in 1268 (by decide +kernel) (by decide +kernel)
theorem im_X11_takesFirst : Cond.instanceMethod yX11_takesFirst ∈ tz := tz_in 1267 (by decide +kernel) (by decide +kernel)
theorem se_X11_takesFirst : Cond.selects RX11 yX11_takesFirst yX11_takesFirst ∈ tz := tz_in 34 (by decide +kernel) (by decide +kernel)
theorem hc_X11_takesFirst : yX11_takesFirst.cls = RX11 ∧ yX11_takesFirst.cls ≠ "java/lang/invoke/MethodHandle" ∧ yX11_takesFirst.cls ≠ "java/lang/invoke/VarHandle" ∧ (parseMethodDescriptor yX11_takesFirst.desc).map (fun d => d.parameters.length) = some 1 := by decide +kernel
theorem cd_X11_hurts : Cond.code yX11_hurts cX11_hurts 3 (some .int) ∈ tz := tz_in 1078 (by decide +kernel) (by decide +kernel)
theorem im_X11_hurts : Cond.instanceMethod yX11_hurts ∈ tz := tz_in 1077 (by decide +kernel) (by decide +kernel)
theorem se_X11_hurts : Cond.selects RX11 yX11_hurts yX11_hurts ∈ tz := tz_in 15 (by decide +kernel) (by decide +kernel)
theorem hc_X11_hurts : yX11_hurts.cls = RX11 ∧ yX11_hurts.cls ≠ "java/lang/invoke/MethodHandle" ∧ yX11_hurts.cls ≠ "java/lang/invoke/VarHandle" ∧ (parseMethodDescriptor yX11_hurts.desc).map (fun d => d.parameters.length) = some 1 := by decide +kernel
theorem cd_X11_borneNow : Cond.code yX11_borneNow cX11_borneNow 3 (some .int) ∈ tz := tz_in 1100 (by decide +kernel) (by decide +kernel)
theorem im_X11_borneNow : Cond.instanceMethod yX11_borneNow ∈ tz := tz_in 1099 (by decide +kernel) (by decide +kernel)
theorem se_X11_borneNow : Cond.selects RX11 yX11_borneNow yX11_borneNow ∈ tz := tz_in 19 (by decide +kernel) (by decide +kernel)
theorem hc_X11_borneNow : yX11_borneNow.cls = RX11 ∧ yX11_borneNow.cls ≠ "java/lang/invoke/MethodHandle" ∧ yX11_borneNow.cls ≠ "java/lang/invoke/VarHandle" ∧ (parseMethodDescriptor yX11_borneNow.desc).map (fun d => d.parameters.length) = some 0 := by decide +kernel
theorem cd_X11_feltNow : Cond.code yX11_feltNow cX11_feltNow 3 (some .int) ∈ tz := tz_in 1104 (by decide +kernel) (by decide +kernel)
theorem im_X11_feltNow : Cond.instanceMethod yX11_feltNow ∈ tz := tz_in 1103 (by decide +kernel) (by decide +kernel)
theorem se_X11_feltNow : Cond.selects RX11 yX11_feltNow yX11_feltNow ∈ tz := tz_in 20 (by decide +kernel) (by decide +kernel)
theorem hc_X11_feltNow : yX11_feltNow.cls = RX11 ∧ yX11_feltNow.cls ≠ "java/lang/invoke/MethodHandle" ∧ yX11_feltNow.cls ≠ "java/lang/invoke/VarHandle" ∧ (parseMethodDescriptor yX11_feltNow.desc).map (fun d => d.parameters.length) = some 0 := by decide +kernel
theorem cd_X11_hurtOf : Cond.code yX11_hurtOf cX11_hurtOf 3 (some .int) ∈ tz := tz_in 1070 (by decide +kernel) (by decide +kernel)
theorem im_X11_hurtOf : Cond.instanceMethod yX11_hurtOf ∈ tz := tz_in 1069 (by decide +kernel) (by decide +kernel)
theorem se_X11_hurtOf : Cond.selects RX11 yX11_hurtOf yX11_hurtOf ∈ tz := tz_in 13 (by decide +kernel) (by decide +kernel)
theorem hc_X11_hurtOf : yX11_hurtOf.cls = RX11 ∧ yX11_hurtOf.cls ≠ "java/lang/invoke/MethodHandle" ∧ yX11_hurtOf.cls ≠ "java/lang/invoke/VarHandle" ∧ (parseMethodDescriptor yX11_hurtOf.desc).map (fun d => d.parameters.length) = some 2 := by decide +kernel
theorem cd_X11_woundsAll : Cond.code yX11_woundsAll cX11_woundsAll 3 (some .int) ∈ tz := tz_in 1061 (by decide +kernel) (by decide +kernel)
theorem im_X11_woundsAll : Cond.instanceMethod yX11_woundsAll ∈ tz := tz_in 1060 (by decide +kernel) (by decide +kernel)
theorem se_X11_woundsAll : Cond.selects RX11 yX11_woundsAll yX11_woundsAll ∈ tz := tz_in 11 (by decide +kernel) (by decide +kernel)
theorem hc_X11_woundsAll : yX11_woundsAll.cls = RX11 ∧ yX11_woundsAll.cls ≠ "java/lang/invoke/MethodHandle" ∧ yX11_woundsAll.cls ≠ "java/lang/invoke/VarHandle" ∧ (parseMethodDescriptor yX11_woundsAll.desc).map (fun d => d.parameters.length) = some 0 := by decide +kernel
theorem cd_X11_bestMan : Cond.code yX11_bestMan cX11_bestMan 6 (some .int) ∈ tz := tz_in 1065 (by decide +kernel) (by decide +kernel)
theorem im_X11_bestMan : Cond.instanceMethod yX11_bestMan ∈ tz := tz_in 1064 (by decide +kernel) (by decide +kernel)
theorem se_X11_bestMan : Cond.selects RX11 yX11_bestMan yX11_bestMan ∈ tz := tz_in 12 (by decide +kernel) (by decide +kernel)
theorem hc_X11_bestMan : yX11_bestMan.cls = RX11 ∧ yX11_bestMan.cls ≠ "java/lang/invoke/MethodHandle" ∧ yX11_bestMan.cls ≠ "java/lang/invoke/VarHandle" ∧ (parseMethodDescriptor yX11_bestMan.desc).map (fun d => d.parameters.length) = some 0 := by decide +kernel
theorem cd_X11_chosen : Cond.code yX11_chosen cX11_chosen 6 (some .int) ∈ tz := tz_in 1082 (by decide +kernel) (by decide +kernel)
theorem im_X11_chosen : Cond.instanceMethod yX11_chosen ∈ tz := tz_in 1081 (by decide +kernel) (by decide +kernel)
theorem se_X11_chosen : Cond.selects RX11 yX11_chosen yX11_chosen ∈ tz := tz_in 16 (by decide +kernel) (by decide +kernel)
theorem hc_X11_chosen : yX11_chosen.cls = RX11 ∧ yX11_chosen.cls ≠ "java/lang/invoke/MethodHandle" ∧ yX11_chosen.cls ≠ "java/lang/invoke/VarHandle" ∧ (parseMethodDescriptor yX11_chosen.desc).map (fun d => d.parameters.length) = some 0 := by decide +kernel
theorem cd_X11_tender : Cond.code yX11_tender cX11_tender 5 (some .int) ∈ tz := tz_in 1086 (by decide +kernel) (by decide +kernel)
theorem im_X11_tender : Cond.instanceMethod yX11_tender ∈ tz := tz_in 1085 (by decide +kernel) (by decide +kernel)
theorem se_X11_tender : Cond.selects RX11 yX11_tender yX11_tender ∈ tz := tz_in 17 (by decide +kernel) (by decide +kernel)
theorem hc_X11_tender : yX11_tender.cls = RX11 ∧ yX11_tender.cls ≠ "java/lang/invoke/MethodHandle" ∧ yX11_tender.cls ≠ "java/lang/invoke/VarHandle" ∧ (parseMethodDescriptor yX11_tender.desc).map (fun d => d.parameters.length) = some 0 := by decide +kernel
theorem cd_X11_told : Cond.code yX11_told cX11_told 2 (some .int) ∈ tz := tz_in 1057 (by decide +kernel) (by decide +kernel)
theorem im_X11_told : Cond.instanceMethod yX11_told ∈ tz := tz_in 1055 (by decide +kernel) (by decide +kernel)
theorem se_X11_told : Cond.selects RX11 yX11_told yX11_told ∈ tz := tz_in 1056 (by decide +kernel) (by decide +kernel)
theorem hc_X11_told : yX11_told.cls = RX11 ∧ yX11_told.cls ≠ "java/lang/invoke/MethodHandle" ∧ yX11_told.cls ≠ "java/lang/invoke/VarHandle" ∧ (parseMethodDescriptor yX11_told.desc).map (fun d => d.parameters.length) = some 1 := by decide +kernel
theorem cd_X11_man : Cond.code yX11_man cX11_man 3 (some .int) ∈ tz := tz_in 1091 (by decide +kernel) (by decide +kernel)
theorem im_X11_man : Cond.instanceMethod yX11_man ∈ tz := tz_in 1089 (by decide +kernel) (by decide +kernel)
theorem se_X11_man : Cond.selects RX11 yX11_man yX11_man ∈ tz := tz_in 1090 (by decide +kernel) (by decide +kernel)
theorem hc_X11_man : yX11_man.cls = RX11 ∧ yX11_man.cls ≠ "java/lang/invoke/MethodHandle" ∧ yX11_man.cls ≠ "java/lang/invoke/VarHandle" ∧ (parseMethodDescriptor yX11_man.desc).map (fun d => d.parameters.length) = some 2 := by decide +kernel
theorem cd_X11_skin : Cond.code yX11_skin cX11_skin 4 (some .int) ∈ tz := tz_in 1108 (by decide +kernel) (by decide +kernel)
theorem im_X11_skin : Cond.instanceMethod yX11_skin ∈ tz := tz_in 1106 (by decide +kernel) (by decide +kernel)
theorem se_X11_skin : Cond.selects RX11 yX11_skin yX11_skin ∈ tz := tz_in 1107 (by decide +kernel) (by decide +kernel)
theorem hc_X11_skin : yX11_skin.cls = RX11 ∧ yX11_skin.cls ≠ "java/lang/invoke/MethodHandle" ∧ yX11_skin.cls ≠ "java/lang/invoke/VarHandle" ∧ (parseMethodDescriptor yX11_skin.desc).map (fun d => d.parameters.length) = some 3 := by decide +kernel
theorem cd_X11_saying : Cond.code yX11_saying cX11_saying 3 (some .int) ∈ tz := tz_in 1116 (by decide +kernel) (by decide +kernel)
theorem im_X11_saying : Cond.instanceMethod yX11_saying ∈ tz := tz_in 1114 (by decide +kernel) (by decide +kernel)
theorem se_X11_saying : Cond.selects RX11 yX11_saying yX11_saying ∈ tz := tz_in 1115 (by decide +kernel) (by decide +kernel)
theorem hc_X11_saying : yX11_saying.cls = RX11 ∧ yX11_saying.cls ≠ "java/lang/invoke/MethodHandle" ∧ yX11_saying.cls ≠ "java/lang/invoke/VarHandle" ∧ (parseMethodDescriptor yX11_saying.desc).map (fun d => d.parameters.length) = some 2 := by decide +kernel
theorem cd_X11_hurt : Cond.code yX11_hurt cX11_hurt 3 (some .int) ∈ tz := tz_in 1124 (by decide +kernel) (by decide +kernel)
theorem im_X11_hurt : Cond.instanceMethod yX11_hurt ∈ tz := tz_in 1122 (by decide +kernel) (by decide +kernel)
theorem se_X11_hurt : Cond.selects RX11 yX11_hurt yX11_hurt ∈ tz := tz_in 1123 (by decide +kernel) (by decide +kernel)
theorem hc_X11_hurt : yX11_hurt.cls = RX11 ∧ yX11_hurt.cls ≠ "java/lang/invoke/MethodHandle" ∧ yX11_hurt.cls ≠ "java/lang/invoke/VarHandle" ∧ (parseMethodDescriptor yX11_hurt.desc).map (fun d => d.parameters.length) = some 2 := by decide +kernel
theorem cd_X11_remember : Cond.code yX11_remember cX11_remember 2 none ∈ tz := tz_in 1138 (by decide +kernel) (by decide +kernel)
theorem im_X11_remember : Cond.instanceMethod yX11_remember ∈ tz := tz_in 1137 (by decide +kernel) (by decide +kernel)
theorem se_X11_remember : Cond.selects RX11 yX11_remember yX11_remember ∈ tz := tz_in 23 (by decide +kernel) (by decide +kernel)
theorem hc_X11_remember : yX11_remember.cls = RX11 ∧ yX11_remember.cls ≠ "java/lang/invoke/MethodHandle" ∧ yX11_remember.cls ≠ "java/lang/invoke/VarHandle" ∧ (parseMethodDescriptor yX11_remember.desc).map (fun d => d.parameters.length) = some 0 := by decide +kernel
theorem cd_X11_passes : Cond.code yX11_passes cX11_passes 3 none ∈ tz := tz_in 1142 (by decide +kernel) (by decide +kernel)
theorem im_X11_passes : Cond.instanceMethod yX11_passes ∈ tz := tz_in 1141 (by decide +kernel) (by decide +kernel)
theorem se_X11_passes : Cond.selects RX11 yX11_passes yX11_passes ∈ tz := tz_in 24 (by decide +kernel) (by decide +kernel)
theorem hc_X11_passes : yX11_passes.cls = RX11 ∧ yX11_passes.cls ≠ "java/lang/invoke/MethodHandle" ∧ yX11_passes.cls ≠ "java/lang/invoke/VarHandle" ∧ (parseMethodDescriptor yX11_passes.desc).map (fun d => d.parameters.length) = some 0 := by decide +kernel
theorem cd_X11_monthsRefused : Cond.code yX11_monthsRefused cX11_monthsRefused 2 (some .int) ∈ tz := tz_in 1132 (by decide +kernel) (by decide +kernel)
theorem im_X11_monthsRefused : Cond.instanceMethod yX11_monthsRefused ∈ tz := tz_in 1131 (by decide +kernel) (by decide +kernel)
theorem se_X11_monthsRefused : Cond.selects RX11 yX11_monthsRefused yX11_monthsRefused ∈ tz := tz_in 22 (by decide +kernel) (by decide +kernel)
theorem hc_X11_monthsRefused : yX11_monthsRefused.cls = RX11 ∧ yX11_monthsRefused.cls ≠ "java/lang/invoke/MethodHandle" ∧ yX11_monthsRefused.cls ≠ "java/lang/invoke/VarHandle" ∧ (parseMethodDescriptor yX11_monthsRefused.desc).map (fun d => d.parameters.length) = some 1 := by decide +kernel
theorem cd_X11_month : Cond.code yX11_month cX11_month 4 (some .int) ∈ tz := tz_in 1128 (by decide +kernel) (by decide +kernel)
theorem im_X11_month : Cond.instanceMethod yX11_month ∈ tz := tz_in 1126 (by decide +kernel) (by decide +kernel)
theorem se_X11_month : Cond.selects RX11 yX11_month yX11_month ∈ tz := tz_in 1127 (by decide +kernel) (by decide +kernel)
theorem hc_X11_month : yX11_month.cls = RX11 ∧ yX11_month.cls ≠ "java/lang/invoke/MethodHandle" ∧ yX11_month.cls ≠ "java/lang/invoke/VarHandle" ∧ (parseMethodDescriptor yX11_month.desc).map (fun d => d.parameters.length) = some 1 := by decide +kernel
theorem cd_X11_free : Cond.code yX11_free cX11_free 1 (some .int) ∈ tz := tz_in 1160 (by decide +kernel) (by decide +kernel)
theorem im_X11_free : Cond.instanceMethod yX11_free ∈ tz := tz_in 1159 (by decide +kernel) (by decide +kernel)
theorem se_X11_free : Cond.selects RX11 yX11_free yX11_free ∈ tz := tz_in 26 (by decide +kernel) (by decide +kernel)
theorem hc_X11_free : yX11_free.cls = RX11 ∧ yX11_free.cls ≠ "java/lang/invoke/MethodHandle" ∧ yX11_free.cls ≠ "java/lang/invoke/VarHandle" ∧ (parseMethodDescriptor yX11_free.desc).map (fun d => d.parameters.length) = some 0 := by decide +kernel
theorem cd_X11_in : Cond.code yX11_in cX11_in 2 (some .int) ∈ tz := tz_in 1156 (by decide +kernel) (by decide +kernel)
theorem im_X11_in : Cond.instanceMethod yX11_in ∈ tz := tz_in 1154 (by decide +kernel) (by decide +kernel)
theorem se_X11_in : Cond.selects RX11 yX11_in yX11_in ∈ tz := tz_in 1155 (by decide +kernel) (by decide +kernel)
theorem hc_X11_in : yX11_in.cls = RX11 ∧ yX11_in.cls ≠ "java/lang/invoke/MethodHandle" ∧ yX11_in.cls ≠ "java/lang/invoke/VarHandle" ∧ (parseMethodDescriptor yX11_in.desc).map (fun d => d.parameters.length) = some 1 := by decide +kernel
theorem cd_X11_out : Cond.code yX11_out cX11_out 2 (some .int) ∈ tz := tz_in 1167 (by decide +kernel) (by decide +kernel)
theorem im_X11_out : Cond.instanceMethod yX11_out ∈ tz := tz_in 1165 (by decide +kernel) (by decide +kernel)
theorem se_X11_out : Cond.selects RX11 yX11_out yX11_out ∈ tz := tz_in 1166 (by decide +kernel) (by decide +kernel)
theorem hc_X11_out : yX11_out.cls = RX11 ∧ yX11_out.cls ≠ "java/lang/invoke/MethodHandle" ∧ yX11_out.cls ≠ "java/lang/invoke/VarHandle" ∧ (parseMethodDescriptor yX11_out.desc).map (fun d => d.parameters.length) = some 1 := by decide +kernel
theorem cd_X11_scrapes : Cond.code yX11_scrapes cX11_scrapes 4 none ∈ tz := tz_in 1176 (by decide +kernel) (by decide +kernel)
theorem im_X11_scrapes : Cond.instanceMethod yX11_scrapes ∈ tz := tz_in 1175 (by decide +kernel) (by decide +kernel)
theorem se_X11_scrapes : Cond.selects RX11 yX11_scrapes yX11_scrapes ∈ tz := tz_in 27 (by decide +kernel) (by decide +kernel)
theorem hc_X11_scrapes : yX11_scrapes.cls = RX11 ∧ yX11_scrapes.cls ≠ "java/lang/invoke/MethodHandle" ∧ yX11_scrapes.cls ≠ "java/lang/invoke/VarHandle" ∧ (parseMethodDescriptor yX11_scrapes.desc).map (fun d => d.parameters.length) = some 3 := by decide +kernel
theorem cd_X11_scrape : Cond.code yX11_scrape cX11_scrape 4 (some .int) ∈ tz := tz_in 1171 (by decide +kernel) (by decide +kernel)
theorem im_X11_scrape : Cond.instanceMethod yX11_scrape ∈ tz := tz_in 1169 (by decide +kernel) (by decide +kernel)
theorem se_X11_scrape : Cond.selects RX11 yX11_scrape yX11_scrape ∈ tz := tz_in 1170 (by decide +kernel) (by decide +kernel)
theorem hc_X11_scrape : yX11_scrape.cls = RX11 ∧ yX11_scrape.cls ≠ "java/lang/invoke/MethodHandle" ∧ yX11_scrape.cls ≠ "java/lang/invoke/VarHandle" ∧ (parseMethodDescriptor yX11_scrape.desc).map (fun d => d.parameters.length) = some 3 := by decide +kernel
theorem cd_X11_wounds : Cond.code yX11_wounds cX11_wounds 4 none ∈ tz := tz_in 1185 (by decide +kernel) (by decide +kernel)
theorem im_X11_wounds : Cond.instanceMethod yX11_wounds ∈ tz := tz_in 1184 (by decide +kernel) (by decide +kernel)
theorem se_X11_wounds : Cond.selects RX11 yX11_wounds yX11_wounds ∈ tz := tz_in 28 (by decide +kernel) (by decide +kernel)
theorem hc_X11_wounds : yX11_wounds.cls = RX11 ∧ yX11_wounds.cls ≠ "java/lang/invoke/MethodHandle" ∧ yX11_wounds.cls ≠ "java/lang/invoke/VarHandle" ∧ (parseMethodDescriptor yX11_wounds.desc).map (fun d => d.parameters.length) = some 2 := by decide +kernel
theorem cd_X11_say : Cond.code yX11_say cX11_say 3 (some .int) ∈ tz := tz_in 1181 (by decide +kernel) (by decide +kernel)
theorem im_X11_say : Cond.instanceMethod yX11_say ∈ tz := tz_in 1179 (by decide +kernel) (by decide +kernel)
theorem se_X11_say : Cond.selects RX11 yX11_say yX11_say ∈ tz := tz_in 1180 (by decide +kernel) (by decide +kernel)
theorem hc_X11_say : yX11_say.cls = RX11 ∧ yX11_say.cls ≠ "java/lang/invoke/MethodHandle" ∧ yX11_say.cls ≠ "java/lang/invoke/VarHandle" ∧ (parseMethodDescriptor yX11_say.desc).map (fun d => d.parameters.length) = some 2 := by decide +kernel
theorem cd_X11_bark : Cond.code yX11_bark cX11_bark 3 (some .int) ∈ tz := tz_in 1190 (by decide +kernel) (by decide +kernel)
theorem im_X11_bark : Cond.instanceMethod yX11_bark ∈ tz := tz_in 1188 (by decide +kernel) (by decide +kernel)
theorem se_X11_bark : Cond.selects RX11 yX11_bark yX11_bark ∈ tz := tz_in 1189 (by decide +kernel) (by decide +kernel)
theorem hc_X11_bark : yX11_bark.cls = RX11 ∧ yX11_bark.cls ≠ "java/lang/invoke/MethodHandle" ∧ yX11_bark.cls ≠ "java/lang/invoke/VarHandle" ∧ (parseMethodDescriptor yX11_bark.desc).map (fun d => d.parameters.length) = some 1 := by decide +kernel
theorem cd_X11_draw : Cond.code yX11_draw cX11_draw 2 (some .int) ∈ tz := tz_in 1203 (by decide +kernel) (by decide +kernel)
theorem im_X11_draw : Cond.instanceMethod yX11_draw ∈ tz := tz_in 1202 (by decide +kernel) (by decide +kernel)
theorem se_X11_draw : Cond.selects RX11 yX11_draw yX11_draw ∈ tz := tz_in 30 (by decide +kernel) (by decide +kernel)
theorem hc_X11_draw : yX11_draw.cls = RX11 ∧ yX11_draw.cls ≠ "java/lang/invoke/MethodHandle" ∧ yX11_draw.cls ≠ "java/lang/invoke/VarHandle" ∧ (parseMethodDescriptor yX11_draw.desc).map (fun d => d.parameters.length) = some 1 := by decide +kernel
theorem cd_X11_chance : Cond.code yX11_chance cX11_chance 4 none ∈ tz := tz_in 1199 (by decide +kernel) (by decide +kernel)
theorem im_X11_chance : Cond.instanceMethod yX11_chance ∈ tz := tz_in 1198 (by decide +kernel) (by decide +kernel)
theorem se_X11_chance : Cond.selects RX11 yX11_chance yX11_chance ∈ tz := tz_in 29 (by decide +kernel) (by decide +kernel)
theorem hc_X11_chance : yX11_chance.cls = RX11 ∧ yX11_chance.cls ≠ "java/lang/invoke/MethodHandle" ∧ yX11_chance.cls ≠ "java/lang/invoke/VarHandle" ∧ (parseMethodDescriptor yX11_chance.desc).map (fun d => d.parameters.length) = some 0 := by decide +kernel
theorem cd_X11_drift : Cond.code yX11_drift cX11_drift 4 (some .int) ∈ tz := tz_in 1195 (by decide +kernel) (by decide +kernel)
theorem im_X11_drift : Cond.instanceMethod yX11_drift ∈ tz := tz_in 1193 (by decide +kernel) (by decide +kernel)
theorem se_X11_drift : Cond.selects RX11 yX11_drift yX11_drift ∈ tz := tz_in 1194 (by decide +kernel) (by decide +kernel)
theorem hc_X11_drift : yX11_drift.cls = RX11 ∧ yX11_drift.cls ≠ "java/lang/invoke/MethodHandle" ∧ yX11_drift.cls ≠ "java/lang/invoke/VarHandle" ∧ (parseMethodDescriptor yX11_drift.desc).map (fun d => d.parameters.length) = some 1 := by decide +kernel
theorem cd_X11_undo : Cond.code yX11_undo cX11_undo 2 (some .int) ∈ tz := tz_in 1211 (by decide +kernel) (by decide +kernel)
theorem im_X11_undo : Cond.instanceMethod yX11_undo ∈ tz := tz_in 1209 (by decide +kernel) (by decide +kernel)
theorem se_X11_undo : Cond.selects RX11 yX11_undo yX11_undo ∈ tz := tz_in 1210 (by decide +kernel) (by decide +kernel)
theorem hc_X11_undo : yX11_undo.cls = RX11 ∧ yX11_undo.cls ≠ "java/lang/invoke/MethodHandle" ∧ yX11_undo.cls ≠ "java/lang/invoke/VarHandle" ∧ (parseMethodDescriptor yX11_undo.desc).map (fun d => d.parameters.length) = some 0 := by decide +kernel
theorem cd_X11_thick : Cond.code yX11_thick cX11_thick 5 (some .int) ∈ tz := tz_in 1215 (by decide +kernel) (by decide +kernel)
theorem im_X11_thick : Cond.instanceMethod yX11_thick ∈ tz := tz_in 1213 (by decide +kernel) (by decide +kernel)
theorem se_X11_thick : Cond.selects RX11 yX11_thick yX11_thick ∈ tz := tz_in 1214 (by decide +kernel) (by decide +kernel)
theorem hc_X11_thick : yX11_thick.cls = RX11 ∧ yX11_thick.cls ≠ "java/lang/invoke/MethodHandle" ∧ yX11_thick.cls ≠ "java/lang/invoke/VarHandle" ∧ (parseMethodDescriptor yX11_thick.desc).map (fun d => d.parameters.length) = some 3 := by decide +kernel
theorem cd_X11_when : Cond.code yX11_when cX11_when 7 (some .int) ∈ tz := tz_in 1220 (by decide +kernel) (by decide +kernel)
theorem im_X11_when : Cond.instanceMethod yX11_when ∈ tz := tz_in 1218 (by decide +kernel) (by decide +kernel)
theorem se_X11_when : Cond.selects RX11 yX11_when yX11_when ∈ tz := tz_in 1219 (by decide +kernel) (by decide +kernel)
theorem hc_X11_when : yX11_when.cls = RX11 ∧ yX11_when.cls ≠ "java/lang/invoke/MethodHandle" ∧ yX11_when.cls ≠ "java/lang/invoke/VarHandle" ∧ (parseMethodDescriptor yX11_when.desc).map (fun d => d.parameters.length) = some 3 := by decide +kernel
theorem cd_X11_edge : Cond.code yX11_edge cX11_edge 9 (some .int) ∈ tz := tz_in 1224 (by decide +kernel) (by decide +kernel)
theorem im_X11_edge : Cond.instanceMethod yX11_edge ∈ tz := tz_in 1222 (by decide +kernel) (by decide +kernel)
theorem se_X11_edge : Cond.selects RX11 yX11_edge yX11_edge ∈ tz := tz_in 1223 (by decide +kernel) (by decide +kernel)
theorem hc_X11_edge : yX11_edge.cls = RX11 ∧ yX11_edge.cls ≠ "java/lang/invoke/MethodHandle" ∧ yX11_edge.cls ≠ "java/lang/invoke/VarHandle" ∧ (parseMethodDescriptor yX11_edge.desc).map (fun d => d.parameters.length) = some 4 := by decide +kernel
theorem cd_X11_scraping : Cond.code yX11_scraping cX11_scraping 8 (some .int) ∈ tz := tz_in 1233 (by decide +kernel) (by decide +kernel)
theorem im_X11_scraping : Cond.instanceMethod yX11_scraping ∈ tz := tz_in 1231 (by decide +kernel) (by decide +kernel)
theorem se_X11_scraping : Cond.selects RX11 yX11_scraping yX11_scraping ∈ tz := tz_in 1232 (by decide +kernel) (by decide +kernel)
theorem hc_X11_scraping : yX11_scraping.cls = RX11 ∧ yX11_scraping.cls ≠ "java/lang/invoke/MethodHandle" ∧ yX11_scraping.cls ≠ "java/lang/invoke/VarHandle" ∧ (parseMethodDescriptor yX11_scraping.desc).map (fun d => d.parameters.length) = some 2 := by decide +kernel
theorem cd_X11_goThrough : Cond.code yX11_goThrough cX11_goThrough 9 (some .boolean) ∈ tz := tz_in 1241 (by decide +kernel) (by decide +kernel)
theorem im_X11_goThrough : Cond.instanceMethod yX11_goThrough ∈ tz := tz_in 1240 (by decide +kernel) (by decide +kernel)
theorem se_X11_goThrough : Cond.selects RX11 yX11_goThrough yX11_goThrough ∈ tz := tz_in 32 (by decide +kernel) (by decide +kernel)
theorem hc_X11_goThrough : yX11_goThrough.cls = RX11 ∧ yX11_goThrough.cls ≠ "java/lang/invoke/MethodHandle" ∧ yX11_goThrough.cls ≠ "java/lang/invoke/VarHandle" ∧ (parseMethodDescriptor yX11_goThrough.desc).map (fun d => d.parameters.length) = some 2 := by decide +kernel
theorem cd_X11_through : Cond.code yX11_through cX11_through 5 (some .int) ∈ tz := tz_in 1237 (by decide +kernel) (by decide +kernel)
theorem im_X11_through : Cond.instanceMethod yX11_through ∈ tz := tz_in 1235 (by decide +kernel) (by decide +kernel)
theorem se_X11_through : Cond.selects RX11 yX11_through yX11_through ∈ tz := tz_in 1236 (by decide +kernel) (by decide +kernel)
theorem hc_X11_through : yX11_through.cls = RX11 ∧ yX11_through.cls ≠ "java/lang/invoke/MethodHandle" ∧ yX11_through.cls ≠ "java/lang/invoke/VarHandle" ∧ (parseMethodDescriptor yX11_through.desc).map (fun d => d.parameters.length) = some 2 := by decide +kernel
theorem cd_X11_over : Cond.code yX11_over cX11_over 7 (some .int) ∈ tz := tz_in 1245 (by decide +kernel) (by decide +kernel)
theorem im_X11_over : Cond.instanceMethod yX11_over ∈ tz := tz_in 1243 (by decide +kernel) (by decide +kernel)
theorem se_X11_over : Cond.selects RX11 yX11_over yX11_over ∈ tz := tz_in 1244 (by decide +kernel) (by decide +kernel)
theorem hc_X11_over : yX11_over.cls = RX11 ∧ yX11_over.cls ≠ "java/lang/invoke/MethodHandle" ∧ yX11_over.cls ≠ "java/lang/invoke/VarHandle" ∧ (parseMethodDescriptor yX11_over.desc).map (fun d => d.parameters.length) = some 2 := by decide +kernel
theorem cd_X11_quiet : Cond.code yX11_quiet cX11_quiet 6 (some .int) ∈ tz := tz_in 1249 (by decide +kernel) (by decide +kernel)
theorem im_X11_quiet : Cond.instanceMethod yX11_quiet ∈ tz := tz_in 1247 (by decide +kernel) (by decide +kernel)
theorem se_X11_quiet : Cond.selects RX11 yX11_quiet yX11_quiet ∈ tz := tz_in 1248 (by decide +kernel) (by decide +kernel)
theorem hc_X11_quiet : yX11_quiet.cls = RX11 ∧ yX11_quiet.cls ≠ "java/lang/invoke/MethodHandle" ∧ yX11_quiet.cls ≠ "java/lang/invoke/VarHandle" ∧ (parseMethodDescriptor yX11_quiet.desc).map (fun d => d.parameters.length) = some 2 := by decide +kernel
theorem cd_X11_hear : Cond.code yX11_hear cX11_hear 4 (some .int) ∈ tz := tz_in 1255 (by decide +kernel) (by decide +kernel)
theorem im_X11_hear : Cond.instanceMethod yX11_hear ∈ tz := tz_in 1253 (by decide +kernel) (by decide +kernel)
theorem se_X11_hear : Cond.selects RX11 yX11_hear yX11_hear ∈ tz := tz_in 1254 (by decide +kernel) (by decide +kernel)
theorem hc_X11_hear : yX11_hear.cls = RX11 ∧ yX11_hear.cls ≠ "java/lang/invoke/MethodHandle" ∧ yX11_hear.cls ≠ "java/lang/invoke/VarHandle" ∧ (parseMethodDescriptor yX11_hear.desc).map (fun d => d.parameters.length) = some 3 := by decide +kernel
theorem cd_X11_laysStays : Cond.code yX11_laysStays cX11_laysStays 5 (some .int) ∈ tz := tz_in 1264 (by decide +kernel) (by decide +kernel)
theorem im_X11_laysStays : Cond.instanceMethod yX11_laysStays ∈ tz := tz_in 1263 (by decide +kernel) (by decide +kernel)
theorem se_X11_laysStays : Cond.selects RX11 yX11_laysStays yX11_laysStays ∈ tz := tz_in 33 (by decide +kernel) (by decide +kernel)
theorem hc_X11_laysStays : yX11_laysStays.cls = RX11 ∧ yX11_laysStays.cls ≠ "java/lang/invoke/MethodHandle" ∧ yX11_laysStays.cls ≠ "java/lang/invoke/VarHandle" ∧ (parseMethodDescriptor yX11_laysStays.desc).map (fun d => d.parameters.length) = some 1 := by decide +kernel
theorem cd_X11_stays : Cond.code yX11_stays cX11_stays 7 (some .int) ∈ tz := tz_in 1260 (by decide +kernel) (by decide +kernel)
theorem im_X11_stays : Cond.instanceMethod yX11_stays ∈ tz := tz_in 1258 (by decide +kernel) (by decide +kernel)
theorem se_X11_stays : Cond.selects RX11 yX11_stays yX11_stays ∈ tz := tz_in 1259 (by decide +kernel) (by decide +kernel)
theorem hc_X11_stays : yX11_stays.cls = RX11 ∧ yX11_stays.cls ≠ "java/lang/invoke/MethodHandle" ∧ yX11_stays.cls ≠ "java/lang/invoke/VarHandle" ∧ (parseMethodDescriptor yX11_stays.desc).map (fun d => d.parameters.length) = some 2 := by decide +kernel
theorem cd_X11_ask : Cond.code yX11_ask cX11_ask 9 (some .int) ∈ tz := tz_in 1272 (by decide +kernel) (by decide +kernel)
theorem im_X11_ask : Cond.instanceMethod yX11_ask ∈ tz := tz_in 1270 (by decide +kernel) (by decide +kernel)
theorem se_X11_ask : Cond.selects RX11 yX11_ask yX11_ask ∈ tz := tz_in 1271 (by decide +kernel) (by decide +kernel)
theorem hc_X11_ask : yX11_ask.cls = RX11 ∧ yX11_ask.cls ≠ "java/lang/invoke/MethodHandle" ∧ yX11_ask.cls ≠ "java/lang/invoke/VarHandle" ∧ (parseMethodDescriptor yX11_ask.desc).map (fun d => d.parameters.length) = some 1 := by decide +kernel
theorem cd_X11_write : Cond.code yX11_write cX11_write 3 (some .int) ∈ tz := tz_in 1276 (by decide +kernel) (by decide +kernel)
theorem im_X11_write : Cond.instanceMethod yX11_write ∈ tz := tz_in 1274 (by decide +kernel) (by decide +kernel)
theorem se_X11_write : Cond.selects RX11 yX11_write yX11_write ∈ tz := tz_in 1275 (by decide +kernel) (by decide +kernel)
theorem hc_X11_write : yX11_write.cls = RX11 ∧ yX11_write.cls ≠ "java/lang/invoke/MethodHandle" ∧ yX11_write.cls ≠ "java/lang/invoke/VarHandle" ∧ (parseMethodDescriptor yX11_write.desc).map (fun d => d.parameters.length) = some 2 := by decide +kernel
theorem cd_X11_tear : Cond.code yX11_tear cX11_tear 2 (some .int) ∈ tz := tz_in 1281 (by decide +kernel) (by decide +kernel)
theorem im_X11_tear : Cond.instanceMethod yX11_tear ∈ tz := tz_in 1279 (by decide +kernel) (by decide +kernel)
theorem se_X11_tear : Cond.selects RX11 yX11_tear yX11_tear ∈ tz := tz_in 1280 (by decide +kernel) (by decide +kernel)
theorem hc_X11_tear : yX11_tear.cls = RX11 ∧ yX11_tear.cls ≠ "java/lang/invoke/MethodHandle" ∧ yX11_tear.cls ≠ "java/lang/invoke/VarHandle" ∧ (parseMethodDescriptor yX11_tear.desc).map (fun d => d.parameters.length) = some 0 := by decide +kernel
theorem cd_X11_judge : Cond.code yX11_judge cX11_judge 2 (some .int) ∈ tz := tz_in 1285 (by decide +kernel) (by decide +kernel)
theorem im_X11_judge : Cond.instanceMethod yX11_judge ∈ tz := tz_in 1283 (by decide +kernel) (by decide +kernel)
theorem se_X11_judge : Cond.selects RX11 yX11_judge yX11_judge ∈ tz := tz_in 1284 (by decide +kernel) (by decide +kernel)
theorem hc_X11_judge : yX11_judge.cls = RX11 ∧ yX11_judge.cls ≠ "java/lang/invoke/MethodHandle" ∧ yX11_judge.cls ≠ "java/lang/invoke/VarHandle" ∧ (parseMethodDescriptor yX11_judge.desc).map (fun d => d.parameters.length) = some 0 := by decide +kernel
theorem cd_X11_seed : Cond.code yX11_seed cX11_seed 3 (some .int) ∈ tz := tz_in 1289 (by decide +kernel) (by decide +kernel)
theorem im_X11_seed : Cond.instanceMethod yX11_seed ∈ tz := tz_in 1287 (by decide +kernel) (by decide +kernel)
theorem se_X11_seed : Cond.selects RX11 yX11_seed yX11_seed ∈ tz := tz_in 1288 (by decide +kernel) (by decide +kernel)
theorem hc_X11_seed : yX11_seed.cls = RX11 ∧ yX11_seed.cls ≠ "java/lang/invoke/MethodHandle" ∧ yX11_seed.cls ≠ "java/lang/invoke/VarHandle" ∧ (parseMethodDescriptor yX11_seed.desc).map (fun d => d.parameters.length) = some 1 := by decide +kernel
theorem cd_X11_keep : Cond.code yX11_keep cX11_keep 3 (some .int) ∈ tz := tz_in 1293 (by decide +kernel) (by decide +kernel)
theorem im_X11_keep : Cond.instanceMethod yX11_keep ∈ tz := tz_in 1291 (by decide +kernel) (by decide +kernel)
theorem se_X11_keep : Cond.selects RX11 yX11_keep yX11_keep ∈ tz := tz_in 1292 (by decide +kernel) (by decide +kernel)
theorem hc_X11_keep : yX11_keep.cls = RX11 ∧ yX11_keep.cls ≠ "java/lang/invoke/MethodHandle" ∧ yX11_keep.cls ≠ "java/lang/invoke/VarHandle" ∧ (parseMethodDescriptor yX11_keep.desc).map (fun d => d.parameters.length) = some 1 := by decide +kernel
theorem cd_X11_goBack : Cond.code yX11_goBack cX11_goBack 3 (some .int) ∈ tz := tz_in 1297 (by decide +kernel) (by decide +kernel)
theorem im_X11_goBack : Cond.instanceMethod yX11_goBack ∈ tz := tz_in 1295 (by decide +kernel) (by decide +kernel)
theorem se_X11_goBack : Cond.selects RX11 yX11_goBack yX11_goBack ∈ tz := tz_in 1296 (by decide +kernel) (by decide +kernel)
theorem hc_X11_goBack : yX11_goBack.cls = RX11 ∧ yX11_goBack.cls ≠ "java/lang/invoke/MethodHandle" ∧ yX11_goBack.cls ≠ "java/lang/invoke/VarHandle" ∧ (parseMethodDescriptor yX11_goBack.desc).map (fun d => d.parameters.length) = some 1 := by decide +kernel
theorem cd_J6_compare_7cf53 : Cond.code yJ6_compare_7cf53 cJ6_compare_7cf53 2 (some .int) ∈ tz := tz_in 769 (by decide +kernel) (by decide +kernel)
theorem sm_J6_compare_7cf53 : Cond.static yJ6_compare_7cf53 ∈ tz := tz_in 768 (by decide +kernel) (by decide +kernel)
theorem hc_J6_compare_7cf53 : yJ6_compare_7cf53.cls ≠ "java/lang/invoke/MethodHandle" ∧ yJ6_compare_7cf53.cls ≠ "java/lang/invoke/VarHandle" ∧ (parseMethodDescriptor yJ6_compare_7cf53.desc).map (fun d => d.parameters.length) = some 2 := by decide +kernel
theorem cd_J6_bitCount_0f7a4 : Cond.code yJ6_bitCount_0f7a4 cJ6_bitCount_0f7a4 1 (some .int) ∈ tz := tz_in 590 (by decide +kernel) (by decide +kernel)
theorem sm_J6_bitCount_0f7a4 : Cond.static yJ6_bitCount_0f7a4 ∈ tz := tz_in 589 (by decide +kernel) (by decide +kernel)
theorem hc_J6_bitCount_0f7a4 : yJ6_bitCount_0f7a4.cls ≠ "java/lang/invoke/MethodHandle" ∧ yJ6_bitCount_0f7a4.cls ≠ "java/lang/invoke/VarHandle" ∧ (parseMethodDescriptor yJ6_bitCount_0f7a4.desc).map (fun d => d.parameters.length) = some 1 := by decide +kernel
theorem cd_J9_floorMod_7cf53 : Cond.code yJ9_floorMod_7cf53 cJ9_floorMod_7cf53 3 (some .int) ∈ tz := tz_in 574 (by decide +kernel) (by decide +kernel)
theorem sm_J9_floorMod_7cf53 : Cond.static yJ9_floorMod_7cf53 ∈ tz := tz_in 573 (by decide +kernel) (by decide +kernel)
theorem hc_J9_floorMod_7cf53 : yJ9_floorMod_7cf53.cls ≠ "java/lang/invoke/MethodHandle" ∧ yJ9_floorMod_7cf53.cls ≠ "java/lang/invoke/VarHandle" ∧ (parseMethodDescriptor yJ9_floorMod_7cf53.desc).map (fun d => d.parameters.length) = some 2 := by decide +kernel
theorem ini_X0 : Cond.initialized RX0 ∈ tz := tz_in 44 (by decide +kernel) (by decide +kernel)
theorem ini_X1 : Cond.initialized RX1 ∈ tz := tz_in 42 (by decide +kernel) (by decide +kernel)
theorem ini_X2 : Cond.initialized RX2 ∈ tz := tz_in 43 (by decide +kernel) (by decide +kernel)
theorem ini_X3 : Cond.initialized RX3 ∈ tz := tz_in 40 (by decide +kernel) (by decide +kernel)
theorem ini_X4 : Cond.initialized RX4 ∈ tz := tz_in 41 (by decide +kernel) (by decide +kernel)
theorem ini_X5 : Cond.initialized RX5 ∈ tz := tz_in 46 (by decide +kernel) (by decide +kernel)
theorem ini_X6 : Cond.initialized RX6 ∈ tz := tz_in 38 (by decide +kernel) (by decide +kernel)
theorem ini_X7 : Cond.initialized RX7 ∈ tz := tz_in 39 (by decide +kernel) (by decide +kernel)
theorem ini_X8 : Cond.initialized RX8 ∈ tz := tz_in 37 (by decide +kernel) (by decide +kernel)
theorem ini_X9 : Cond.initialized RX9 ∈ tz := tz_in 45 (by decide +kernel) (by decide +kernel)
theorem ini_X10 : Cond.initialized RX10 ∈ tz := tz_in 36 (by decide +kernel) (by decide +kernel)
theorem ini_X11 : Cond.initialized RX11 ∈ tz := tz_in 47 (by decide +kernel) (by decide +kernel)
theorem ini_J6 : Cond.initialized RJ6 ∈ tz := tz_in 49 (by decide +kernel) (by decide +kernel)
theorem ini_J9 : Cond.initialized RJ9 ∈ tz := tz_in 48 (by decide +kernel) (by decide +kernel)
theorem ml_X10_77 : Cond.methodLink RX10 77 yX10_isOutside ∈ tz := tz_in 372 (by decide +kernel) (by decide +kernel)
theorem gv_X10_77 : GoodIn tz (va_wsS RX10 77 yX10_isOutside (wz yX10_isOutside cX10_isOutside 3 (some .boolean))) := gdS ml_X10_77 sm_X10_isOutside ini_X10 cd_X10_isOutside
theorem ml_X10_87 : Cond.methodLink RX10 87 yX8_add ∈ tz := tz_in 377 (by decide +kernel) (by decide +kernel)
theorem gv_X10_87 : GoodIn tz (wsV RX10 87 RX8 yX8_add (wz yX8_add cX8_add 2 (some .int))) := gdV ml_X10_87 im_X8_add se_X8_add ini_X8 cd_X8_add
theorem ml_X10_91 : Cond.methodLink RX10 91 yX8_readInto ∈ tz := tz_in 385 (by decide +kernel) (by decide +kernel)
theorem gv_X10_91 : GoodIn tz (wsV RX10 91 RX8 yX8_readInto (wz yX8_readInto cX8_readInto 3 none)) := gdV ml_X10_91 im_X8_readInto se_X8_readInto ini_X8 cd_X8_readInto
theorem ml_X10_97 : Cond.methodLink RX10 97 yX7_begin ∈ tz := tz_in 440 (by decide +kernel) (by decide +kernel)
theorem gv_X10_97 : GoodIn tz (wsV RX10 97 RX7 yX7_begin (wz yX7_begin cX7_begin 3 none)) := gdV ml_X10_97 im_X7_begin se_X7_begin ini_X7 cd_X7_begin
theorem ml_X10_126 : Cond.methodLink RX10 126 yX7_setInside ∈ tz := tz_in 456 (by decide +kernel) (by decide +kernel)
theorem gv_X10_126 : GoodIn tz (wsV RX10 126 RX7 yX7_setInside (wz yX7_setInside cX7_setInside 3 (some .int))) := gdV ml_X10_126 im_X7_setInside se_X7_setInside ini_X7 cd_X7_setInside
theorem ml_X10_133 : Cond.methodLink RX10 133 yX7_allWounds ∈ tz := tz_in 460 (by decide +kernel) (by decide +kernel)
theorem gv_X10_133 : GoodIn tz (wsV RX10 133 RX7 yX7_allWounds (wz yX7_allWounds cX7_allWounds 3 (some .int))) := gdV ml_X10_133 im_X7_allWounds se_X7_allWounds ini_X7 cd_X7_allWounds
theorem ml_X10_136 : Cond.methodLink RX10 136 yX7_best ∈ tz := tz_in 464 (by decide +kernel) (by decide +kernel)
theorem gv_X10_136 : GoodIn tz (wsV RX10 136 RX7 yX7_best (wz yX7_best cX7_best 5 (some .int))) := gdV ml_X10_136 im_X7_best se_X7_best ini_X7 cd_X7_best
theorem ml_X10_139 : Cond.methodLink RX10 139 yX7_chosen ∈ tz := tz_in 479 (by decide +kernel) (by decide +kernel)
theorem gv_X10_139 : GoodIn tz (wsV RX10 139 RX7 yX7_chosen (wz yX7_chosen cX7_chosen 5 (some .int))) := gdV ml_X10_139 im_X7_chosen se_X7_chosen ini_X7 cd_X7_chosen
theorem ml_X10_142 : Cond.methodLink RX10 142 yX7_tender ∈ tz := tz_in 492 (by decide +kernel) (by decide +kernel)
theorem gv_X10_142 : GoodIn tz (wsV RX10 142 RX7 yX7_tender (wz yX7_tender cX7_tender 6 (some .int))) := gdV ml_X10_142 im_X7_tender se_X7_tender ini_X7 cd_X7_tender
theorem ml_X10_145 : Cond.methodLink RX10 145 yX6_hasMan ∈ tz := tz_in 500 (by decide +kernel) (by decide +kernel)
theorem gv_X10_145 : GoodIn tz (wsV RX10 145 RX6 yX6_hasMan (wz yX6_hasMan cX6_hasMan 2 (some .boolean))) := gdV ml_X10_145 im_X6_hasMan se_X6_hasMan ini_X6 cd_X6_hasMan
theorem ml_X10_164 : Cond.methodLink RX10 164 yX6_setBorne ∈ tz := tz_in 505 (by decide +kernel) (by decide +kernel)
theorem gv_X10_164 : GoodIn tz (wsV RX10 164 RX6 yX6_setBorne (wz yX6_setBorne cX6_setBorne 4 (some .int))) := gdV ml_X10_164 im_X6_setBorne se_X6_setBorne ini_X6 cd_X6_setBorne
theorem ml_X10_168 : Cond.methodLink RX10 168 yX6_setFelt ∈ tz := tz_in 509 (by decide +kernel) (by decide +kernel)
theorem gv_X10_168 : GoodIn tz (wsV RX10 168 RX6 yX6_setFelt (wz yX6_setFelt cX6_setFelt 4 (some .int))) := gdV ml_X10_168 im_X6_setFelt se_X6_setFelt ini_X6 cd_X6_setFelt
theorem ml_X10_178 : Cond.methodLink RX10 178 yX6_hasSaying ∈ tz := tz_in 521 (by decide +kernel) (by decide +kernel)
theorem gv_X10_178 : GoodIn tz (wsV RX10 178 RX6 yX6_hasSaying (wz yX6_hasSaying cX6_hasSaying 2 (some .boolean))) := gdV ml_X10_178 im_X6_hasSaying se_X6_hasSaying ini_X6 cd_X6_hasSaying
theorem ml_X10_187 : Cond.methodLink RX10 187 yX6_pain ∈ tz := tz_in 529 (by decide +kernel) (by decide +kernel)
theorem gv_X10_187 : GoodIn tz (wsV RX10 187 RX6 yX6_pain (wz yX6_pain cX6_pain 4 (some .int))) := gdV ml_X10_187 im_X6_pain se_X6_pain ini_X6 cd_X6_pain
theorem ml_X10_191 : Cond.methodLink RX10 191 yX10_refusalOfMonths ∈ tz := tz_in 534 (by decide +kernel) (by decide +kernel)
theorem gv_X10_191 : GoodIn tz (wsV RX10 191 RX10 yX10_refusalOfMonths (wz yX10_refusalOfMonths cX10_refusalOfMonths 2 (some .int))) := gdV ml_X10_191 im_X10_refusalOfMonths se_X10_refusalOfMonths ini_X10 cd_X10_refusalOfMonths
theorem ml_X10_194 : Cond.methodLink RX10 194 yX4_push ∈ tz := tz_in 540 (by decide +kernel) (by decide +kernel)
theorem gv_X10_194 : GoodIn tz (wsV RX10 194 RX4 yX4_push (wz yX4_push cX4_push 2 none)) := gdV ml_X10_194 im_X4_push se_X4_push ini_X4 cd_X4_push
theorem ml_X10_198 : Cond.methodLink RX10 198 yX7_passMonth ∈ tz := tz_in 555 (by decide +kernel) (by decide +kernel)
theorem gv_X10_198 : GoodIn tz (wsV RX10 198 RX7 yX7_passMonth (wz yX7_passMonth cX7_passMonth 2 none)) := gdV ml_X10_198 im_X7_passMonth se_X7_passMonth ini_X7 cd_X7_passMonth
theorem ml_X10_202 : Cond.methodLink RX10 202 yX7_freePits ∈ tz := tz_in 583 (by decide +kernel) (by decide +kernel)
theorem gv_X10_202 : GoodIn tz (wsV RX10 202 RX7 yX7_freePits (wz yX7_freePits cX7_freePits 1 (some .int))) := gdV ml_X10_202 im_X7_freePits se_X7_freePits ini_X7 cd_X7_freePits
theorem ml_X10_205 : Cond.methodLink RX10 205 yX7_scrapeOff ∈ tz := tz_in 602 (by decide +kernel) (by decide +kernel)
theorem gv_X10_205 : GoodIn tz (wsV RX10 205 RX7 yX7_scrapeOff (wz yX7_scrapeOff cX7_scrapeOff 4 none)) := gdV ml_X10_205 im_X7_scrapeOff se_X7_scrapeOff ini_X7 cd_X7_scrapeOff
theorem ml_X10_209 : Cond.methodLink RX10 209 yX7_wound ∈ tz := tz_in 612 (by decide +kernel) (by decide +kernel)
theorem gv_X10_209 : GoodIn tz (wsV RX10 209 RX7 yX7_wound (wz yX7_wound cX7_wound 3 none)) := gdV ml_X10_209 im_X7_wound se_X7_wound ini_X7 cd_X7_wound
theorem ml_X10_213 : Cond.methodLink RX10 213 yX6_isNone ∈ tz := tz_in 538 (by decide +kernel) (by decide +kernel)
theorem gv_X10_213 : GoodIn tz (wsV RX10 213 RX6 yX6_isNone (wz yX6_isNone cX6_isNone 1 (some .boolean))) := gdV ml_X10_213 im_X6_isNone se_X6_isNone ini_X6 cd_X6_isNone
theorem ml_X10_217 : Cond.methodLink RX10 217 yX7_stir ∈ tz := tz_in 625 (by decide +kernel) (by decide +kernel)
theorem gv_X10_217 : GoodIn tz (wsV RX10 217 RX7 yX7_stir (wz yX7_stir cX7_stir 4 none)) := gdV ml_X10_217 im_X7_stir se_X7_stir ini_X7 cd_X7_stir
theorem ml_X10_221 : Cond.methodLink RX10 221 yX4_pop ∈ tz := tz_in 648 (by decide +kernel) (by decide +kernel)
theorem gv_X10_221 : GoodIn tz (wsV RX10 221 RX4 yX4_pop (wz yX4_pop cX4_pop 2 none)) := gdV ml_X10_221 im_X4_pop se_X4_pop ini_X4 cd_X4_pop
theorem ml_X10_224 : Cond.methodLink RX10 224 yX9_startNow ∈ tz := tz_in 664 (by decide +kernel) (by decide +kernel)
theorem gv_X10_224 : GoodIn tz (wsV RX10 224 RX9 yX9_startNow (wz yX9_startNow cX9_startNow 3 none)) := gdV ml_X10_224 im_X9_startNow se_X9_startNow ini_X9 cd_X9_startNow
theorem ml_X10_228 : Cond.methodLink RX10 228 yX9_passMonth ∈ tz := tz_in 676 (by decide +kernel) (by decide +kernel)
theorem gv_X10_228 : GoodIn tz (wsV RX10 228 RX9 yX9_passMonth (wz yX9_passMonth cX9_passMonth 1 none)) := gdV ml_X10_228 im_X9_passMonth se_X9_passMonth ini_X9 cd_X9_passMonth
theorem ml_X10_233 : Cond.methodLink RX10 233 yX9_firstBearing ∈ tz := tz_in 685 (by decide +kernel) (by decide +kernel)
theorem gv_X10_233 : GoodIn tz (wsV RX10 233 RX9 yX9_firstBearing (wz yX9_firstBearing cX9_firstBearing 4 (some .int))) := gdV ml_X10_233 im_X9_firstBearing se_X9_firstBearing ini_X9 cd_X9_firstBearing
theorem ml_X10_237 : Cond.methodLink RX10 237 yX9_lastFeeling ∈ tz := tz_in 694 (by decide +kernel) (by decide +kernel)
theorem gv_X10_237 : GoodIn tz (wsV RX10 237 RX9 yX9_lastFeeling (wz yX9_lastFeeling cX9_lastFeeling 5 (some .int))) := gdV ml_X10_237 im_X9_lastFeeling se_X9_lastFeeling ini_X9 cd_X9_lastFeeling
theorem ml_X10_240 : Cond.methodLink RX10 240 yX6_hasSet ∈ tz := tz_in 703 (by decide +kernel) (by decide +kernel)
theorem gv_X10_240 : GoodIn tz (wsV RX10 240 RX6 yX6_hasSet (wz yX6_hasSet cX6_hasSet 2 (some .boolean))) := gdV ml_X10_240 im_X6_hasSet se_X6_hasSet ini_X6 cd_X6_hasSet
theorem ml_X10_243 : Cond.methodLink RX10 243 yX6_bearsAll ∈ tz := tz_in 707 (by decide +kernel) (by decide +kernel)
theorem gv_X10_243 : GoodIn tz (wsV RX10 243 RX6 yX6_bearsAll (wz yX6_bearsAll cX6_bearsAll 4 (some .boolean))) := gdV ml_X10_243 im_X6_bearsAll se_X6_bearsAll ini_X6 cd_X6_bearsAll
theorem ml_X10_247 : Cond.methodLink RX10 247 yX6_feelsAll ∈ tz := tz_in 708 (by decide +kernel) (by decide +kernel)
theorem gv_X10_247 : GoodIn tz (wsV RX10 247 RX6 yX6_feelsAll (wz yX6_feelsAll cX6_feelsAll 4 (some .boolean))) := gdV ml_X10_247 im_X6_feelsAll se_X6_feelsAll ini_X6 cd_X6_feelsAll
theorem ml_X10_250 : Cond.methodLink RX10 250 yX9_note ∈ tz := tz_in 712 (by decide +kernel) (by decide +kernel)
theorem gv_X10_250 : GoodIn tz (wsV RX10 250 RX9 yX9_note (wz yX9_note cX9_note 2 none)) := gdV ml_X10_250 im_X9_note se_X9_note ini_X9 cd_X9_note
theorem ml_X10_254 : Cond.methodLink RX10 254 yX9_noted ∈ tz := tz_in 716 (by decide +kernel) (by decide +kernel)
theorem gv_X10_254 : GoodIn tz (wsV RX10 254 RX9 yX9_noted (wz yX9_noted cX9_noted 2 (some .int))) := gdV ml_X10_254 im_X9_noted se_X9_noted ini_X9 cd_X9_noted
theorem ml_X10_257 : Cond.methodLink RX10 257 yX6_leastScraping ∈ tz := tz_in 724 (by decide +kernel) (by decide +kernel)
theorem gv_X10_257 : GoodIn tz (wsV RX10 257 RX6 yX6_leastScraping (wz yX6_leastScraping cX6_leastScraping 6 (some .int))) := gdV ml_X10_257 im_X6_leastScraping se_X6_leastScraping ini_X6 cd_X6_leastScraping
theorem ml_X10_263 : Cond.methodLink RX10 263 yX6_everySaying ∈ tz := tz_in 736 (by decide +kernel) (by decide +kernel)
theorem gv_X10_263 : GoodIn tz (wsV RX10 263 RX6 yX6_everySaying (wz yX6_everySaying cX6_everySaying 1 (some .int))) := gdV ml_X10_263 im_X6_everySaying se_X6_everySaying ini_X6 cd_X6_everySaying
theorem ml_X10_266 : Cond.methodLink RX10 266 yX5_fill ∈ tz := tz_in 740 (by decide +kernel) (by decide +kernel)
theorem gv_X10_266 : GoodIn tz (wsV RX10 266 RX5 yX5_fill (wz yX5_fill cX5_fill 4 none)) := gdV ml_X10_266 im_X5_fill se_X5_fill ini_X5 cd_X5_fill
theorem ml_X10_269 : Cond.methodLink RX10 269 yX5_mostWithin ∈ tz := tz_in 753 (by decide +kernel) (by decide +kernel)
theorem gv_X10_269 : GoodIn tz (wsV RX10 269 RX5 yX5_mostWithin (wz yX5_mostWithin cX5_mostWithin 5 (some .int))) := gdV ml_X10_269 im_X5_mostWithin se_X5_mostWithin ini_X5 cd_X5_mostWithin
theorem ml_X10_273 : Cond.methodLink RX10 273 yJ6_bitCount_0f7a4 ∈ tz := tz_in 758 (by decide +kernel) (by decide +kernel)
theorem gv_X10_273 : GoodIn tz (va_wsS RX10 273 yJ6_bitCount_0f7a4 (wz yJ6_bitCount_0f7a4 cJ6_bitCount_0f7a4 1 (some .int))) := gdS ml_X10_273 sm_J6_bitCount_0f7a4 ini_J6 cd_J6_bitCount_0f7a4
theorem ml_X10_278 : Cond.methodLink RX10 278 yX3_isOver ∈ tz := tz_in 763 (by decide +kernel) (by decide +kernel)
theorem gv_X10_278 : GoodIn tz (wsV RX10 278 RX3 yX3_isOver (wz yX3_isOver cX3_isOver 4 (some .boolean))) := gdV ml_X10_278 im_X3_isOver se_X3_isOver ini_X3 cd_X3_isOver
theorem ml_X10_286 : Cond.methodLink RX10 286 yX2_add ∈ tz := tz_in 780 (by decide +kernel) (by decide +kernel)
theorem gv_X10_286 : GoodIn tz (wsV RX10 286 RX2 yX2_add (wz yX2_add cX2_add 4 (some .int))) := gdV ml_X10_286 im_X2_add se_X2_add ini_X2 cd_X2_add
theorem ml_X10_289 : Cond.methodLink RX10 289 yX9_startFirst ∈ tz := tz_in 788 (by decide +kernel) (by decide +kernel)
theorem gv_X10_289 : GoodIn tz (wsV RX10 289 RX9 yX9_startFirst (wz yX9_startFirst cX9_startFirst 3 none)) := gdV ml_X10_289 im_X9_startFirst se_X9_startFirst ini_X9 cd_X9_startFirst
theorem ml_X10_293 : Cond.methodLink RX10 293 yX2_agree ∈ tz := tz_in 793 (by decide +kernel) (by decide +kernel)
theorem gv_X10_293 : GoodIn tz (wsV RX10 293 RX2 yX2_agree (wz yX2_agree cX2_agree 5 (some .boolean))) := gdV ml_X10_293 im_X2_agree se_X2_agree ini_X2 cd_X2_agree
theorem ml_X10_297 : Cond.methodLink RX10 297 yX2_clearParts ∈ tz := tz_in 802 (by decide +kernel) (by decide +kernel)
theorem gv_X10_297 : GoodIn tz (wsV RX10 297 RX2 yX2_clearParts (wz yX2_clearParts cX2_clearParts 2 none)) := gdV ml_X10_297 im_X2_clearParts se_X2_clearParts ini_X2 cd_X2_clearParts
theorem ml_X10_300 : Cond.methodLink RX10 300 yX2_part ∈ tz := tz_in 806 (by decide +kernel) (by decide +kernel)
theorem gv_X10_300 : GoodIn tz (wsV RX10 300 RX2 yX2_part (wz yX2_part cX2_part 5 none)) := gdV ml_X10_300 im_X2_part se_X2_part ini_X2 cd_X2_part
theorem ml_X10_304 : Cond.methodLink RX10 304 yX2_bestParting ∈ tz := tz_in 811 (by decide +kernel) (by decide +kernel)
theorem gv_X10_304 : GoodIn tz (wsV RX10 304 RX2 yX2_bestParting (wz yX2_bestParting cX2_bestParting 5 (some .int))) := gdV ml_X10_304 im_X2_bestParting se_X2_bestParting ini_X2 cd_X2_bestParting
theorem ml_X10_308 : Cond.methodLink RX10 308 yX0_add ∈ tz := tz_in 820 (by decide +kernel) (by decide +kernel)
theorem gv_X10_308 : GoodIn tz (wsV RX10 308 RX0 yX0_add (wz yX0_add cX0_add 3 (some .int))) := gdV ml_X10_308 im_X0_add se_X0_add ini_X0 cd_X0_add
theorem ml_X10_310 : Cond.methodLink RX10 310 yX0_firstWrong ∈ tz := tz_in 832 (by decide +kernel) (by decide +kernel)
theorem gv_X10_310 : GoodIn tz (wsV RX10 310 RX0 yX0_firstWrong (wz yX0_firstWrong cX0_firstWrong 3 (some .int))) := gdV ml_X10_310 im_X0_firstWrong se_X0_firstWrong ini_X0 cd_X0_firstWrong
theorem ml_X10_317 : Cond.methodLink RX10 317 yX4_keepImage ∈ tz := tz_in 844 (by decide +kernel) (by decide +kernel)
theorem gv_X10_317 : GoodIn tz (wsV RX10 317 RX4 yX4_keepImage (wz yX4_keepImage cX4_keepImage 4 none)) := gdV ml_X10_317 im_X4_keepImage se_X4_keepImage ini_X4 cd_X4_keepImage
theorem ml_X10_321 : Cond.methodLink RX10 321 yX4_hasImage ∈ tz := tz_in 852 (by decide +kernel) (by decide +kernel)
theorem gv_X10_321 : GoodIn tz (wsV RX10 321 RX4 yX4_hasImage (wz yX4_hasImage cX4_hasImage 2 (some .boolean))) := gdV ml_X10_321 im_X4_hasImage se_X4_hasImage ini_X4 cd_X4_hasImage
theorem ml_X10_324 : Cond.methodLink RX10 324 yX4_loadImage ∈ tz := tz_in 856 (by decide +kernel) (by decide +kernel)
theorem gv_X10_324 : GoodIn tz (wsV RX10 324 RX4 yX4_loadImage (wz yX4_loadImage cX4_loadImage 4 none)) := gdV ml_X10_324 im_X4_loadImage se_X4_loadImage ini_X4 cd_X4_loadImage
theorem ml_X2_34 : Cond.methodLink RX2 34 yX6_pain ∈ tz := tz_in 797 (by decide +kernel) (by decide +kernel)
theorem gv_X2_34 : GoodIn tz (wsV RX2 34 RX6 yX6_pain (wz yX6_pain cX6_pain 4 (some .int))) := gdV ml_X2_34 im_X6_pain se_X6_pain ini_X6 cd_X6_pain
theorem ml_X2_45 : Cond.methodLink RX2 45 Lib.Math.max.name ∈ tz := tz_in 810 (by decide +kernel) (by decide +kernel)
theorem ml_X3_35 : Cond.methodLink RX3 35 yX3_thickenAll ∈ tz := tz_in 563 (by decide +kernel) (by decide +kernel)
theorem gv_X3_35 : GoodIn tz (wsV RX3 35 RX3 yX3_thickenAll (wz yX3_thickenAll cX3_thickenAll 4 none)) := gdV ml_X3_35 im_X3_thickenAll se_X3_thickenAll ini_X3 cd_X3_thickenAll
theorem ml_X3_39 : Cond.methodLink RX3 39 yJ9_floorMod_7cf53 ∈ tz := tz_in 572 (by decide +kernel) (by decide +kernel)
theorem gv_X3_39 : GoodIn tz (va_wsS RX3 39 yJ9_floorMod_7cf53 (wz yJ9_floorMod_7cf53 cJ9_floorMod_7cf53 3 (some .int))) := gdS ml_X3_39 sm_J9_floorMod_7cf53 ini_J9 cd_J9_floorMod_7cf53
theorem ml_X3_45 : Cond.methodLink RX3 45 yX3_thicken ∈ tz := tz_in 567 (by decide +kernel) (by decide +kernel)
theorem gv_X3_45 : GoodIn tz (wsV RX3 45 RX3 yX3_thicken (wz yX3_thicken cX3_thicken 3 none)) := gdV ml_X3_45 im_X3_thicken se_X3_thicken ini_X3 cd_X3_thicken
theorem ml_X3_48 : Cond.methodLink RX3 48 yX3_thinnestPlace ∈ tz := tz_in 575 (by decide +kernel) (by decide +kernel)
theorem gv_X3_48 : GoodIn tz (wsV RX3 48 RX3 yX3_thinnestPlace (wz yX3_thinnestPlace cX3_thinnestPlace 3 (some .int))) := gdV ml_X3_48 im_X3_thinnestPlace se_X3_thinnestPlace ini_X3 cd_X3_thinnestPlace
theorem ml_X3_52 : Cond.methodLink RX3 52 Lib.Math.min.name ∈ tz := tz_in 571 (by decide +kernel) (by decide +kernel)
theorem ml_X3_55 : Cond.methodLink RX3 55 yJ6_compare_7cf53 ∈ tz := tz_in 767 (by decide +kernel) (by decide +kernel)
theorem gv_X3_55 : GoodIn tz (va_wsS RX3 55 yJ6_compare_7cf53 (wz yJ6_compare_7cf53 cJ6_compare_7cf53 2 (some .int))) := gdS ml_X3_55 sm_J6_compare_7cf53 ini_J6 cd_J6_compare_7cf53
theorem ml_X4_27 : Cond.methodLink RX4 27 yX7_saveTo ∈ tz := tz_in 544 (by decide +kernel) (by decide +kernel)
theorem gv_X4_27 : GoodIn tz (wsV RX4 27 RX7 yX7_saveTo (wz yX7_saveTo cX7_saveTo 3 none)) := gdV ml_X4_27 im_X7_saveTo se_X7_saveTo ini_X7 cd_X7_saveTo
theorem ml_X4_36 : Cond.methodLink RX4 36 Lib.Math.min.name ∈ tz := tz_in 552 (by decide +kernel) (by decide +kernel)
theorem ml_X4_42 : Cond.methodLink RX4 42 yX7_loadFrom ∈ tz := tz_in 652 (by decide +kernel) (by decide +kernel)
theorem gv_X4_42 : GoodIn tz (wsV RX4 42 RX7 yX7_loadFrom (wz yX7_loadFrom cX7_loadFrom 3 none)) := gdV ml_X4_42 im_X7_loadFrom se_X7_loadFrom ini_X7 cd_X7_loadFrom
theorem ml_X5_21 : Cond.methodLink RX5 21 yX5_addMonths ∈ tz := tz_in 744 (by decide +kernel) (by decide +kernel)
theorem gv_X5_21 : GoodIn tz (wsV RX5 21 RX5 yX5_addMonths (wz yX5_addMonths cX5_addMonths 4 none)) := gdV ml_X5_21 im_X5_addMonths se_X5_addMonths ini_X5 cd_X5_addMonths
theorem ml_X5_25 : Cond.methodLink RX5 25 yX5_fewestPits ∈ tz := tz_in 748 (by decide +kernel) (by decide +kernel)
theorem gv_X5_25 : GoodIn tz (wsV RX5 25 RX5 yX5_fewestPits (wz yX5_fewestPits cX5_fewestPits 5 (some .int))) := gdV ml_X5_25 im_X5_fewestPits se_X5_fewestPits ini_X5 cd_X5_fewestPits
theorem ml_X5_29 : Cond.methodLink RX5 29 Lib.Math.min.name ∈ tz := tz_in 752 (by decide +kernel) (by decide +kernel)
theorem ml_X5_34 : Cond.methodLink RX5 34 yJ6_bitCount_0f7a4 ∈ tz := tz_in 757 (by decide +kernel) (by decide +kernel)
theorem gv_X5_34 : GoodIn tz (va_wsS RX5 34 yJ6_bitCount_0f7a4 (wz yJ6_bitCount_0f7a4 cJ6_bitCount_0f7a4 1 (some .int))) := gdS ml_X5_34 sm_J6_bitCount_0f7a4 ini_J6 cd_J6_bitCount_0f7a4
theorem ml_X6_46 : Cond.methodLink RX6 46 Lib.Math.max.name ∈ tz := tz_in 476 (by decide +kernel) (by decide +kernel)
theorem ml_X6_52 : Cond.methodLink RX6 52 yX6_pain ∈ tz := tz_in 472 (by decide +kernel) (by decide +kernel)
theorem gv_X6_52 : GoodIn tz (wsV RX6 52 RX6 yX6_pain (wz yX6_pain cX6_pain 4 (some .int))) := gdV ml_X6_52 im_X6_pain se_X6_pain ini_X6 cd_X6_pain
theorem ml_X6_56 : Cond.methodLink RX6 56 yX6_scrapingAt ∈ tz := tz_in 728 (by decide +kernel) (by decide +kernel)
theorem gv_X6_56 : GoodIn tz (wsV RX6 56 RX6 yX6_scrapingAt (wz yX6_scrapingAt cX6_scrapingAt 6 (some .int))) := gdV ml_X6_56 im_X6_scrapingAt se_X6_scrapingAt ini_X6 cd_X6_scrapingAt
theorem ml_X7_37 : Cond.methodLink RX7 37 yX3_begin ∈ tz := tz_in 444 (by decide +kernel) (by decide +kernel)
theorem gv_X7_37 : GoodIn tz (wsV RX7 37 RX3 yX3_begin (wz yX3_begin cX3_begin 4 none)) := gdV ml_X7_37 im_X3_begin se_X3_begin ini_X3 cd_X3_begin
theorem ml_X7_44 : Cond.methodLink RX7 44 yX3_tan ∈ tz := tz_in 559 (by decide +kernel) (by decide +kernel)
theorem gv_X7_44 : GoodIn tz (wsV RX7 44 RX3 yX3_tan (wz yX3_tan cX3_tan 3 none)) := gdV ml_X7_44 im_X3_tan se_X3_tan ini_X3 cd_X3_tan
theorem ml_X7_51 : Cond.methodLink RX7 51 yX7_setInside ∈ tz := tz_in 587 (by decide +kernel) (by decide +kernel)
theorem gv_X7_51 : GoodIn tz (wsV RX7 51 RX7 yX7_setInside (wz yX7_setInside cX7_setInside 3 (some .int))) := gdV ml_X7_51 im_X7_setInside se_X7_setInside ini_X7 cd_X7_setInside
theorem ml_X7_55 : Cond.methodLink RX7 55 yJ6_bitCount_0f7a4 ∈ tz := tz_in 588 (by decide +kernel) (by decide +kernel)
theorem gv_X7_55 : GoodIn tz (va_wsS RX7 55 yJ6_bitCount_0f7a4 (wz yJ6_bitCount_0f7a4 cJ6_bitCount_0f7a4 1 (some .int))) := gdS ml_X7_55 sm_J6_bitCount_0f7a4 ini_J6 cd_J6_bitCount_0f7a4
theorem ml_X7_69 : Cond.methodLink RX7 69 Lib.Math.min.name ∈ tz := tz_in 607 (by decide +kernel) (by decide +kernel)
theorem ml_X7_76 : Cond.methodLink RX7 76 yX6_pain ∈ tz := tz_in 491 (by decide +kernel) (by decide +kernel)
theorem gv_X7_76 : GoodIn tz (wsV RX7 76 RX6 yX6_pain (wz yX6_pain cX6_pain 4 (some .int))) := gdV ml_X7_76 im_X6_pain se_X6_pain ini_X6 cd_X6_pain
theorem ml_X7_80 : Cond.methodLink RX7 80 yX1_next ∈ tz := tz_in 629 (by decide +kernel) (by decide +kernel)
theorem gv_X7_80 : GoodIn tz (wsV RX7 80 RX1 yX1_next (wz yX1_next cX1_next 2 (some .int))) := gdV ml_X7_80 im_X1_next se_X1_next ini_X1 cd_X1_next
theorem ml_X7_85 : Cond.methodLink RX7 85 yX7_freePits ∈ tz := tz_in 637 (by decide +kernel) (by decide +kernel)
theorem gv_X7_85 : GoodIn tz (wsV RX7 85 RX7 yX7_freePits (wz yX7_freePits cX7_freePits 1 (some .int))) := gdV ml_X7_85 im_X7_freePits se_X7_freePits ini_X7 cd_X7_freePits
theorem ml_X7_91 : Cond.methodLink RX7 91 yX7_wound ∈ tz := tz_in 638 (by decide +kernel) (by decide +kernel)
theorem gv_X7_91 : GoodIn tz (wsV RX7 91 RX7 yX7_wound (wz yX7_wound cX7_wound 3 none)) := gdV ml_X7_91 im_X7_wound se_X7_wound ini_X7 cd_X7_wound
theorem ml_X7_94 : Cond.methodLink RX7 94 yX7_scrapeIfSoft ∈ tz := tz_in 639 (by decide +kernel) (by decide +kernel)
theorem gv_X7_94 : GoodIn tz (wsV RX7 94 RX7 yX7_scrapeIfSoft (wz yX7_scrapeIfSoft cX7_scrapeIfSoft 3 none)) := gdV ml_X7_94 im_X7_scrapeIfSoft se_X7_scrapeIfSoft ini_X7 cd_X7_scrapeIfSoft
theorem ml_X7_97 : Cond.methodLink RX7 97 yX7_scrapeOff ∈ tz := tz_in 643 (by decide +kernel) (by decide +kernel)
theorem gv_X7_97 : GoodIn tz (wsV RX7 97 RX7 yX7_scrapeOff (wz yX7_scrapeOff cX7_scrapeOff 4 none)) := gdV ml_X7_97 im_X7_scrapeOff se_X7_scrapeOff ini_X7 cd_X7_scrapeOff
theorem ml_X7_101 : Cond.methodLink RX7 101 yX6_wholePain ∈ tz := tz_in 468 (by decide +kernel) (by decide +kernel)
theorem gv_X7_101 : GoodIn tz (wsV RX7 101 RX6 yX6_wholePain (wz yX6_wholePain cX6_wholePain 4 (some .int))) := gdV ml_X7_101 im_X6_wholePain se_X6_wholePain ini_X6 cd_X6_wholePain
theorem ml_X7_105 : Cond.methodLink RX7 105 yX7_votesFor ∈ tz := tz_in 483 (by decide +kernel) (by decide +kernel)
theorem gv_X7_105 : GoodIn tz (wsV RX7 105 RX7 yX7_votesFor (wz yX7_votesFor cX7_votesFor 4 (some .int))) := gdV ml_X7_105 im_X7_votesFor se_X7_votesFor ini_X7 cd_X7_votesFor
theorem ml_X7_108 : Cond.methodLink RX7 108 yX7_leastPainedBy ∈ tz := tz_in 487 (by decide +kernel) (by decide +kernel)
theorem gv_X7_108 : GoodIn tz (wsV RX7 108 RX7 yX7_leastPainedBy (wz yX7_leastPainedBy cX7_leastPainedBy 4 (some .int))) := gdV ml_X7_108 im_X7_leastPainedBy se_X7_leastPainedBy ini_X7 cd_X7_leastPainedBy
theorem ml_X7_114 : Cond.methodLink RX7 114 yX3_saveTo ∈ tz := tz_in 548 (by decide +kernel) (by decide +kernel)
theorem gv_X7_114 : GoodIn tz (wsV RX7 114 RX3 yX3_saveTo (wz yX3_saveTo cX3_saveTo 4 none)) := gdV ml_X7_114 im_X3_saveTo se_X3_saveTo ini_X3 cd_X3_saveTo
theorem ml_X7_118 : Cond.methodLink RX7 118 yX3_loadFrom ∈ tz := tz_in 656 (by decide +kernel) (by decide +kernel)
theorem gv_X7_118 : GoodIn tz (wsV RX7 118 RX3 yX3_loadFrom (wz yX3_loadFrom cX3_loadFrom 4 none)) := gdV ml_X7_118 im_X3_loadFrom se_X3_loadFrom ini_X3 cd_X3_loadFrom
theorem ml_X8_22 : Cond.methodLink RX8 22 yX6_clear ∈ tz := tz_in 389 (by decide +kernel) (by decide +kernel)
theorem gv_X8_22 : GoodIn tz (wsV RX8 22 RX6 yX6_clear (wz yX6_clear cX6_clear 1 none)) := gdV ml_X8_22 im_X6_clear se_X6_clear ini_X6 cd_X6_clear
theorem ml_X8_33 : Cond.methodLink RX8 33 yX8_skipBlanks ∈ tz := tz_in 393 (by decide +kernel) (by decide +kernel)
theorem gv_X8_33 : GoodIn tz (wsV RX8 33 RX8 yX8_skipBlanks (wz yX8_skipBlanks cX8_skipBlanks 1 none)) := gdV ml_X8_33 im_X8_skipBlanks se_X8_skipBlanks ini_X8 cd_X8_skipBlanks
theorem ml_X8_36 : Cond.methodLink RX8 36 yX8_readClause ∈ tz := tz_in 397 (by decide +kernel) (by decide +kernel)
theorem gv_X8_36 : GoodIn tz (wsV RX8 36 RX8 yX8_readClause (wz yX8_readClause cX8_readClause 4 none)) := gdV ml_X8_36 im_X8_readClause se_X8_readClause ini_X8 cd_X8_readClause
theorem ml_X8_40 : Cond.methodLink RX8 40 yX8_letter ∈ tz := tz_in 401 (by decide +kernel) (by decide +kernel)
theorem gv_X8_40 : GoodIn tz (wsV RX8 40 RX8 yX8_letter (wz yX8_letter cX8_letter 1 (some .int))) := gdV ml_X8_40 im_X8_letter se_X8_letter ini_X8 cd_X8_letter
theorem ml_X8_44 : Cond.methodLink RX8 44 yX8_faultOfWord ∈ tz := tz_in 405 (by decide +kernel) (by decide +kernel)
theorem gv_X8_44 : GoodIn tz (va_wsS RX8 44 yX8_faultOfWord (wz yX8_faultOfWord cX8_faultOfWord 2 (some .int))) := gdS ml_X8_44 sm_X8_faultOfWord ini_X8 cd_X8_faultOfWord
theorem ml_X8_48 : Cond.methodLink RX8 48 yX8_mark ∈ tz := tz_in 412 (by decide +kernel) (by decide +kernel)
theorem gv_X8_48 : GoodIn tz (wsV RX8 48 RX8 yX8_mark (wz yX8_mark cX8_mark 3 none)) := gdV ml_X8_48 im_X8_mark se_X8_mark ini_X8 cd_X8_mark
theorem ml_X8_52 : Cond.methodLink RX8 52 yX8_readPits ∈ tz := tz_in 416 (by decide +kernel) (by decide +kernel)
theorem gv_X8_52 : GoodIn tz (wsV RX8 52 RX8 yX8_readPits (wz yX8_readPits cX8_readPits 2 none)) := gdV ml_X8_52 im_X8_readPits se_X8_readPits ini_X8 cd_X8_readPits
theorem ml_X8_55 : Cond.methodLink RX8 55 yX8_readMan ∈ tz := tz_in 428 (by decide +kernel) (by decide +kernel)
theorem gv_X8_55 : GoodIn tz (wsV RX8 55 RX8 yX8_readMan (wz yX8_readMan cX8_readMan 4 none)) := gdV ml_X8_55 im_X8_readMan se_X8_readMan ini_X8 cd_X8_readMan
theorem ml_X8_58 : Cond.methodLink RX8 58 yX8_readSaying ∈ tz := tz_in 436 (by decide +kernel) (by decide +kernel)
theorem gv_X8_58 : GoodIn tz (wsV RX8 58 RX8 yX8_readSaying (wz yX8_readSaying cX8_readSaying 3 none)) := gdV ml_X8_58 im_X8_readSaying se_X8_readSaying ini_X8 cd_X8_readSaying
theorem ml_X8_61 : Cond.methodLink RX8 61 yX8_skipMark ∈ tz := tz_in 432 (by decide +kernel) (by decide +kernel)
theorem gv_X8_61 : GoodIn tz (wsV RX8 61 RX8 yX8_skipMark (wz yX8_skipMark cX8_skipMark 2 none)) := gdV ml_X8_61 im_X8_skipMark se_X8_skipMark ini_X8 cd_X8_skipMark
theorem ml_X8_65 : Cond.methodLink RX8 65 yX6_isNone ∈ tz := tz_in 408 (by decide +kernel) (by decide +kernel)
theorem gv_X8_65 : GoodIn tz (wsV RX8 65 RX6 yX6_isNone (wz yX6_isNone cX6_isNone 1 (some .boolean))) := gdV ml_X8_65 im_X6_isNone se_X6_isNone ini_X6 cd_X6_isNone
theorem ml_X8_75 : Cond.methodLink RX8 75 yX8_readNumber ∈ tz := tz_in 420 (by decide +kernel) (by decide +kernel)
theorem gv_X8_75 : GoodIn tz (wsV RX8 75 RX8 yX8_readNumber (wz yX8_readNumber cX8_readNumber 6 (some .int))) := gdV ml_X8_75 im_X8_readNumber se_X8_readNumber ini_X8 cd_X8_readNumber
theorem ml_X8_98 : Cond.methodLink RX8 98 yX8_isFigure ∈ tz := tz_in 424 (by decide +kernel) (by decide +kernel)
theorem gv_X8_98 : GoodIn tz (va_wsS RX8 98 yX8_isFigure (wz yX8_isFigure cX8_isFigure 1 (some .boolean))) := gdS ml_X8_98 sm_X8_isFigure ini_X8 cd_X8_isFigure
theorem ml_X9_24 : Cond.methodLink RX9 24 yX3_copySkin ∈ tz := tz_in 668 (by decide +kernel) (by decide +kernel)
theorem gv_X9_24 : GoodIn tz (wsV RX9 24 RX3 yX3_copySkin (wz yX3_copySkin cX3_copySkin 3 none)) := gdV ml_X9_24 im_X3_copySkin se_X3_copySkin ini_X3 cd_X3_copySkin
theorem ml_X9_37 : Cond.methodLink RX9 37 yX9_clearNotes ∈ tz := tz_in 672 (by decide +kernel) (by decide +kernel)
theorem gv_X9_37 : GoodIn tz (wsV RX9 37 RX9 yX9_clearNotes (wz yX9_clearNotes cX9_clearNotes 1 none)) := gdV ml_X9_37 im_X9_clearNotes se_X9_clearNotes ini_X9 cd_X9_clearNotes
theorem ml_X9_40 : Cond.methodLink RX9 40 yX3_begin ∈ tz := tz_in 792 (by decide +kernel) (by decide +kernel)
theorem gv_X9_40 : GoodIn tz (wsV RX9 40 RX3 yX3_begin (wz yX3_begin cX3_begin 4 none)) := gdV ml_X9_40 im_X3_begin se_X3_begin ini_X3 cd_X3_begin
theorem ml_X9_56 : Cond.methodLink RX9 56 yX3_tan ∈ tz := tz_in 680 (by decide +kernel) (by decide +kernel)
theorem gv_X9_56 : GoodIn tz (wsV RX9 56 RX3 yX3_tan (wz yX3_tan cX3_tan 3 none)) := gdV ml_X9_56 im_X3_tan se_X3_tan ini_X3 cd_X3_tan
theorem ml_X9_60 : Cond.methodLink RX9 60 yX6_bearsAll ∈ tz := tz_in 689 (by decide +kernel) (by decide +kernel)
theorem gv_X9_60 : GoodIn tz (wsV RX9 60 RX6 yX6_bearsAll (wz yX6_bearsAll cX6_bearsAll 4 (some .boolean))) := gdV ml_X9_60 im_X6_bearsAll se_X6_bearsAll ini_X6 cd_X6_bearsAll
theorem ml_X9_64 : Cond.methodLink RX9 64 yX9_passMonth ∈ tz := tz_in 693 (by decide +kernel) (by decide +kernel)
theorem gv_X9_64 : GoodIn tz (wsV RX9 64 RX9 yX9_passMonth (wz yX9_passMonth cX9_passMonth 1 none)) := gdV ml_X9_64 im_X9_passMonth se_X9_passMonth ini_X9 cd_X9_passMonth
theorem ml_X9_67 : Cond.methodLink RX9 67 yX6_pain ∈ tz := tz_in 698 (by decide +kernel) (by decide +kernel)
theorem gv_X9_67 : GoodIn tz (wsV RX9 67 RX6 yX6_pain (wz yX6_pain cX6_pain 4 (some .int))) := gdV ml_X9_67 im_X6_pain se_X6_pain ini_X6 cd_X6_pain
theorem ml_L_13 : Cond.methodLink RL 13 yX10_feed ∈ tz := tz_in 368 (by decide +kernel) (by decide +kernel)
theorem gv_L_13 : GoodIn tz (wsV RL 13 RX10 yX10_feed (wz yX10_feed cX10_feed 2 (some .int))) := gdV ml_L_13 im_X10_feed se_X10_feed ini_X10 cd_X10_feed
theorem ml_L_17 : Cond.methodLink RL 17 yX11_feed ∈ tz := tz_in 994 (by decide +kernel) (by decide +kernel)
theorem gv_L_17 : GoodIn tz (wsV RL 17 RX11 yX11_feed (wz yX11_feed cX11_feed 2 (some .int))) := gdV ml_L_17 im_X11_feed se_X11_feed ini_X11 cd_X11_feed
theorem ml_L_18 : Cond.methodLink RL 18 yX10_yard ∈ tz := tz_in 381 (by decide +kernel) (by decide +kernel)
theorem gv_L_18 : GoodIn tz (wsV RL 18 RX10 yX10_yard (wz yX10_yard cX10_yard 2 (some .int))) := gdV ml_L_18 im_X10_yard se_X10_yard ini_X10 cd_X10_yard
theorem ml_L_22 : Cond.methodLink RL 22 yX11_yard ∈ tz := tz_in 1004 (by decide +kernel) (by decide +kernel)
theorem gv_L_22 : GoodIn tz (wsV RL 22 RX11 yX11_yard (wz yX11_yard cX11_yard 2 (some .int))) := gdV ml_L_22 im_X11_yard se_X11_yard ini_X11 cd_X11_yard
theorem ml_L_23 : Cond.methodLink RL 23 yX10_fault ∈ tz := tz_in 448 (by decide +kernel) (by decide +kernel)
theorem gv_L_23 : GoodIn tz (wsV RL 23 RX10 yX10_fault (wz yX10_fault cX10_fault 1 (some .int))) := gdV ml_L_23 im_X10_fault se_X10_fault ini_X10 cd_X10_fault
theorem ml_L_26 : Cond.methodLink RL 26 yX11_fault ∈ tz := tz_in 1050 (by decide +kernel) (by decide +kernel)
theorem gv_L_26 : GoodIn tz (wsV RL 26 RX11 yX11_fault (wz yX11_fault cX11_fault 1 (some .int))) := gdV ml_L_26 im_X11_fault se_X11_fault ini_X11 cd_X11_fault
theorem ml_L_27 : Cond.methodLink RL 27 yX10_told ∈ tz := tz_in 452 (by decide +kernel) (by decide +kernel)
theorem gv_L_27 : GoodIn tz (wsV RL 27 RX10 yX10_told (wz yX10_told cX10_told 2 (some .int))) := gdV ml_L_27 im_X10_told se_X10_told ini_X10 cd_X10_told
theorem ml_L_30 : Cond.methodLink RL 30 yX11_told ∈ tz := tz_in 1054 (by decide +kernel) (by decide +kernel)
theorem gv_L_30 : GoodIn tz (wsV RL 30 RX11 yX11_told (wz yX11_told cX11_told 2 (some .int))) := gdV ml_L_30 im_X11_told se_X11_told ini_X11 cd_X11_told
theorem ml_L_31 : Cond.methodLink RL 31 yX10_man ∈ tz := tz_in 496 (by decide +kernel) (by decide +kernel)
theorem gv_L_31 : GoodIn tz (wsV RL 31 RX10 yX10_man (wz yX10_man cX10_man 4 (some .int))) := gdV ml_L_31 im_X10_man se_X10_man ini_X10 cd_X10_man
theorem ml_L_35 : Cond.methodLink RL 35 yX11_man ∈ tz := tz_in 1088 (by decide +kernel) (by decide +kernel)
theorem gv_L_35 : GoodIn tz (wsV RL 35 RX11 yX11_man (wz yX11_man cX11_man 3 (some .int))) := gdV ml_L_35 im_X11_man se_X11_man ini_X11 cd_X11_man
theorem ml_L_36 : Cond.methodLink RL 36 yX10_skin ∈ tz := tz_in 513 (by decide +kernel) (by decide +kernel)
theorem gv_L_36 : GoodIn tz (wsV RL 36 RX10 yX10_skin (wz yX10_skin cX10_skin 5 (some .int))) := gdV ml_L_36 im_X10_skin se_X10_skin ini_X10 cd_X10_skin
theorem ml_L_40 : Cond.methodLink RL 40 yX11_skin ∈ tz := tz_in 1105 (by decide +kernel) (by decide +kernel)
theorem gv_L_40 : GoodIn tz (wsV RL 40 RX11 yX11_skin (wz yX11_skin cX11_skin 4 (some .int))) := gdV ml_L_40 im_X11_skin se_X11_skin ini_X11 cd_X11_skin
theorem ml_L_41 : Cond.methodLink RL 41 yX10_saying ∈ tz := tz_in 517 (by decide +kernel) (by decide +kernel)
theorem gv_L_41 : GoodIn tz (wsV RL 41 RX10 yX10_saying (wz yX10_saying cX10_saying 3 (some .int))) := gdV ml_L_41 im_X10_saying se_X10_saying ini_X10 cd_X10_saying
theorem ml_L_44 : Cond.methodLink RL 44 yX11_saying ∈ tz := tz_in 1113 (by decide +kernel) (by decide +kernel)
theorem gv_L_44 : GoodIn tz (wsV RL 44 RX11 yX11_saying (wz yX11_saying cX11_saying 3 (some .int))) := gdV ml_L_44 im_X11_saying se_X11_saying ini_X11 cd_X11_saying
theorem ml_L_45 : Cond.methodLink RL 45 yX10_hurt ∈ tz := tz_in 525 (by decide +kernel) (by decide +kernel)
theorem gv_L_45 : GoodIn tz (wsV RL 45 RX10 yX10_hurt (wz yX10_hurt cX10_hurt 3 (some .int))) := gdV ml_L_45 im_X10_hurt se_X10_hurt ini_X10 cd_X10_hurt
theorem ml_L_48 : Cond.methodLink RL 48 yX11_hurt ∈ tz := tz_in 1121 (by decide +kernel) (by decide +kernel)
theorem gv_L_48 : GoodIn tz (wsV RL 48 RX11 yX11_hurt (wz yX11_hurt cX11_hurt 3 (some .int))) := gdV ml_L_48 im_X11_hurt se_X11_hurt ini_X11 cd_X11_hurt
theorem ml_L_49 : Cond.methodLink RL 49 yX10_month ∈ tz := tz_in 530 (by decide +kernel) (by decide +kernel)
theorem gv_L_49 : GoodIn tz (wsV RL 49 RX10 yX10_month (wz yX10_month cX10_month 4 (some .int))) := gdV ml_L_49 im_X10_month se_X10_month ini_X10 cd_X10_month
theorem ml_L_52 : Cond.methodLink RL 52 yX11_month ∈ tz := tz_in 1125 (by decide +kernel) (by decide +kernel)
theorem gv_L_52 : GoodIn tz (wsV RL 52 RX11 yX11_month (wz yX11_month cX11_month 4 (some .int))) := gdV ml_L_52 im_X11_month se_X11_month ini_X11 cd_X11_month
theorem ml_L_53 : Cond.methodLink RL 53 yX10_in ∈ tz := tz_in 579 (by decide +kernel) (by decide +kernel)
theorem gv_L_53 : GoodIn tz (wsV RL 53 RX10 yX10_in (wz yX10_in cX10_in 2 (some .int))) := gdV ml_L_53 im_X10_in se_X10_in ini_X10 cd_X10_in
theorem ml_L_56 : Cond.methodLink RL 56 yX11_in ∈ tz := tz_in 1153 (by decide +kernel) (by decide +kernel)
theorem gv_L_56 : GoodIn tz (wsV RL 56 RX11 yX11_in (wz yX11_in cX11_in 2 (some .int))) := gdV ml_L_56 im_X11_in se_X11_in ini_X11 cd_X11_in
theorem ml_L_57 : Cond.methodLink RL 57 yX10_out ∈ tz := tz_in 594 (by decide +kernel) (by decide +kernel)
theorem gv_L_57 : GoodIn tz (wsV RL 57 RX10 yX10_out (wz yX10_out cX10_out 2 (some .int))) := gdV ml_L_57 im_X10_out se_X10_out ini_X10 cd_X10_out
theorem ml_L_60 : Cond.methodLink RL 60 yX11_out ∈ tz := tz_in 1164 (by decide +kernel) (by decide +kernel)
theorem gv_L_60 : GoodIn tz (wsV RL 60 RX11 yX11_out (wz yX11_out cX11_out 2 (some .int))) := gdV ml_L_60 im_X11_out se_X11_out ini_X11 cd_X11_out
theorem ml_L_61 : Cond.methodLink RL 61 yX10_scrape ∈ tz := tz_in 598 (by decide +kernel) (by decide +kernel)
theorem gv_L_61 : GoodIn tz (wsV RL 61 RX10 yX10_scrape (wz yX10_scrape cX10_scrape 4 (some .int))) := gdV ml_L_61 im_X10_scrape se_X10_scrape ini_X10 cd_X10_scrape
theorem ml_L_64 : Cond.methodLink RL 64 yX11_scrape ∈ tz := tz_in 1168 (by decide +kernel) (by decide +kernel)
theorem gv_L_64 : GoodIn tz (wsV RL 64 RX11 yX11_scrape (wz yX11_scrape cX11_scrape 4 (some .int))) := gdV ml_L_64 im_X11_scrape se_X11_scrape ini_X11 cd_X11_scrape
theorem ml_L_65 : Cond.methodLink RL 65 yX10_say ∈ tz := tz_in 608 (by decide +kernel) (by decide +kernel)
theorem gv_L_65 : GoodIn tz (wsV RL 65 RX10 yX10_say (wz yX10_say cX10_say 3 (some .int))) := gdV ml_L_65 im_X10_say se_X10_say ini_X10 cd_X10_say
theorem ml_L_68 : Cond.methodLink RL 68 yX11_say ∈ tz := tz_in 1178 (by decide +kernel) (by decide +kernel)
theorem gv_L_68 : GoodIn tz (wsV RL 68 RX11 yX11_say (wz yX11_say cX11_say 3 (some .int))) := gdV ml_L_68 im_X11_say se_X11_say ini_X11 cd_X11_say
theorem ml_L_69 : Cond.methodLink RL 69 yX10_bark ∈ tz := tz_in 617 (by decide +kernel) (by decide +kernel)
theorem gv_L_69 : GoodIn tz (wsV RL 69 RX10 yX10_bark (wz yX10_bark cX10_bark 3 (some .int))) := gdV ml_L_69 im_X10_bark se_X10_bark ini_X10 cd_X10_bark
theorem ml_L_72 : Cond.methodLink RL 72 yX11_bark ∈ tz := tz_in 1187 (by decide +kernel) (by decide +kernel)
theorem gv_L_72 : GoodIn tz (wsV RL 72 RX11 yX11_bark (wz yX11_bark cX11_bark 3 (some .int))) := gdV ml_L_72 im_X11_bark se_X11_bark ini_X11 cd_X11_bark
theorem ml_L_73 : Cond.methodLink RL 73 yX10_drift ∈ tz := tz_in 621 (by decide +kernel) (by decide +kernel)
theorem gv_L_73 : GoodIn tz (wsV RL 73 RX10 yX10_drift (wz yX10_drift cX10_drift 4 (some .int))) := gdV ml_L_73 im_X10_drift se_X10_drift ini_X10 cd_X10_drift
theorem ml_L_76 : Cond.methodLink RL 76 yX11_drift ∈ tz := tz_in 1192 (by decide +kernel) (by decide +kernel)
theorem gv_L_76 : GoodIn tz (wsV RL 76 RX11 yX11_drift (wz yX11_drift cX11_drift 4 (some .int))) := gdV ml_L_76 im_X11_drift se_X11_drift ini_X11 cd_X11_drift
theorem ml_L_77 : Cond.methodLink RL 77 yX10_undo ∈ tz := tz_in 644 (by decide +kernel) (by decide +kernel)
theorem gv_L_77 : GoodIn tz (wsV RL 77 RX10 yX10_undo (wz yX10_undo cX10_undo 1 (some .int))) := gdV ml_L_77 im_X10_undo se_X10_undo ini_X10 cd_X10_undo
theorem ml_L_80 : Cond.methodLink RL 80 yX11_undo ∈ tz := tz_in 1208 (by decide +kernel) (by decide +kernel)
theorem gv_L_80 : GoodIn tz (wsV RL 80 RX11 yX11_undo (wz yX11_undo cX11_undo 2 (some .int))) := gdV ml_L_80 im_X11_undo se_X11_undo ini_X11 cd_X11_undo
theorem ml_L_81 : Cond.methodLink RL 81 yX10_thick ∈ tz := tz_in 660 (by decide +kernel) (by decide +kernel)
theorem gv_L_81 : GoodIn tz (wsV RL 81 RX10 yX10_thick (wz yX10_thick cX10_thick 5 (some .int))) := gdV ml_L_81 im_X10_thick se_X10_thick ini_X10 cd_X10_thick
theorem ml_L_84 : Cond.methodLink RL 84 yX11_thick ∈ tz := tz_in 1212 (by decide +kernel) (by decide +kernel)
theorem gv_L_84 : GoodIn tz (wsV RL 84 RX11 yX11_thick (wz yX11_thick cX11_thick 5 (some .int))) := gdV ml_L_84 im_X11_thick se_X11_thick ini_X11 cd_X11_thick
theorem ml_L_85 : Cond.methodLink RL 85 yX10_when ∈ tz := tz_in 681 (by decide +kernel) (by decide +kernel)
theorem gv_L_85 : GoodIn tz (wsV RL 85 RX10 yX10_when (wz yX10_when cX10_when 4 (some .int))) := gdV ml_L_85 im_X10_when se_X10_when ini_X10 cd_X10_when
theorem ml_L_88 : Cond.methodLink RL 88 yX11_when ∈ tz := tz_in 1217 (by decide +kernel) (by decide +kernel)
theorem gv_L_88 : GoodIn tz (wsV RL 88 RX11 yX11_when (wz yX11_when cX11_when 7 (some .int))) := gdV ml_L_88 im_X11_when se_X11_when ini_X11 cd_X11_when
theorem ml_L_89 : Cond.methodLink RL 89 yX10_edge ∈ tz := tz_in 699 (by decide +kernel) (by decide +kernel)
theorem gv_L_89 : GoodIn tz (wsV RL 89 RX10 yX10_edge (wz yX10_edge cX10_edge 6 (some .int))) := gdV ml_L_89 im_X10_edge se_X10_edge ini_X10 cd_X10_edge
theorem ml_L_93 : Cond.methodLink RL 93 yX11_edge ∈ tz := tz_in 1221 (by decide +kernel) (by decide +kernel)
theorem gv_L_93 : GoodIn tz (wsV RL 93 RX11 yX11_edge (wz yX11_edge cX11_edge 9 (some .int))) := gdV ml_L_93 im_X11_edge se_X11_edge ini_X11 cd_X11_edge
theorem ml_L_94 : Cond.methodLink RL 94 yX10_scraping ∈ tz := tz_in 720 (by decide +kernel) (by decide +kernel)
theorem gv_L_94 : GoodIn tz (wsV RL 94 RX10 yX10_scraping (wz yX10_scraping cX10_scraping 3 (some .int))) := gdV ml_L_94 im_X10_scraping se_X10_scraping ini_X10 cd_X10_scraping
theorem ml_L_97 : Cond.methodLink RL 97 yX11_scraping ∈ tz := tz_in 1230 (by decide +kernel) (by decide +kernel)
theorem gv_L_97 : GoodIn tz (wsV RL 97 RX11 yX11_scraping (wz yX11_scraping cX11_scraping 8 (some .int))) := gdV ml_L_97 im_X11_scraping se_X11_scraping ini_X11 cd_X11_scraping
theorem ml_L_98 : Cond.methodLink RL 98 yX10_through ∈ tz := tz_in 732 (by decide +kernel) (by decide +kernel)
theorem gv_L_98 : GoodIn tz (wsV RL 98 RX10 yX10_through (wz yX10_through cX10_through 4 (some .int))) := gdV ml_L_98 im_X10_through se_X10_through ini_X10 cd_X10_through
theorem ml_L_101 : Cond.methodLink RL 101 yX11_through ∈ tz := tz_in 1234 (by decide +kernel) (by decide +kernel)
theorem gv_L_101 : GoodIn tz (wsV RL 101 RX11 yX11_through (wz yX11_through cX11_through 5 (some .int))) := gdV ml_L_101 im_X11_through se_X11_through ini_X11 cd_X11_through
theorem ml_L_102 : Cond.methodLink RL 102 yX10_over ∈ tz := tz_in 759 (by decide +kernel) (by decide +kernel)
theorem gv_L_102 : GoodIn tz (wsV RL 102 RX10 yX10_over (wz yX10_over cX10_over 3 (some .int))) := gdV ml_L_102 im_X10_over se_X10_over ini_X10 cd_X10_over
theorem ml_L_105 : Cond.methodLink RL 105 yX11_over ∈ tz := tz_in 1242 (by decide +kernel) (by decide +kernel)
theorem gv_L_105 : GoodIn tz (wsV RL 105 RX11 yX11_over (wz yX11_over cX11_over 7 (some .int))) := gdV ml_L_105 im_X11_over se_X11_over ini_X11 cd_X11_over
theorem ml_L_106 : Cond.methodLink RL 106 yX10_quiet ∈ tz := tz_in 770 (by decide +kernel) (by decide +kernel)
theorem gv_L_106 : GoodIn tz (wsV RL 106 RX10 yX10_quiet (wz yX10_quiet cX10_quiet 6 (some .int))) := gdV ml_L_106 im_X10_quiet se_X10_quiet ini_X10 cd_X10_quiet
theorem ml_L_109 : Cond.methodLink RL 109 yX11_quiet ∈ tz := tz_in 1246 (by decide +kernel) (by decide +kernel)
theorem gv_L_109 : GoodIn tz (wsV RL 109 RX11 yX11_quiet (wz yX11_quiet cX11_quiet 6 (some .int))) := gdV ml_L_109 im_X11_quiet se_X11_quiet ini_X11 cd_X11_quiet
theorem ml_L_110 : Cond.methodLink RL 110 yX10_hear ∈ tz := tz_in 776 (by decide +kernel) (by decide +kernel)
theorem gv_L_110 : GoodIn tz (wsV RL 110 RX10 yX10_hear (wz yX10_hear cX10_hear 4 (some .int))) := gdV ml_L_110 im_X10_hear se_X10_hear ini_X10 cd_X10_hear
theorem ml_L_113 : Cond.methodLink RL 113 yX11_hear ∈ tz := tz_in 1252 (by decide +kernel) (by decide +kernel)
theorem gv_L_113 : GoodIn tz (wsV RL 113 RX11 yX11_hear (wz yX11_hear cX11_hear 4 (some .int))) := gdV ml_L_113 im_X11_hear se_X11_hear ini_X11 cd_X11_hear
theorem ml_L_114 : Cond.methodLink RL 114 yX10_stays ∈ tz := tz_in 784 (by decide +kernel) (by decide +kernel)
theorem gv_L_114 : GoodIn tz (wsV RL 114 RX10 yX10_stays (wz yX10_stays cX10_stays 4 (some .int))) := gdV ml_L_114 im_X10_stays se_X10_stays ini_X10 cd_X10_stays
theorem ml_L_117 : Cond.methodLink RL 117 yX11_stays ∈ tz := tz_in 1257 (by decide +kernel) (by decide +kernel)
theorem gv_L_117 : GoodIn tz (wsV RL 117 RX11 yX11_stays (wz yX11_stays cX11_stays 7 (some .int))) := gdV ml_L_117 im_X11_stays se_X11_stays ini_X11 cd_X11_stays
theorem ml_L_118 : Cond.methodLink RL 118 yX10_ask ∈ tz := tz_in 798 (by decide +kernel) (by decide +kernel)
theorem gv_L_118 : GoodIn tz (wsV RL 118 RX10 yX10_ask (wz yX10_ask cX10_ask 3 (some .int))) := gdV ml_L_118 im_X10_ask se_X10_ask ini_X10 cd_X10_ask
theorem ml_L_121 : Cond.methodLink RL 121 yX11_ask ∈ tz := tz_in 1269 (by decide +kernel) (by decide +kernel)
theorem gv_L_121 : GoodIn tz (wsV RL 121 RX11 yX11_ask (wz yX11_ask cX11_ask 9 (some .int))) := gdV ml_L_121 im_X11_ask se_X11_ask ini_X11 cd_X11_ask
theorem ml_L_122 : Cond.methodLink RL 122 yX10_write ∈ tz := tz_in 815 (by decide +kernel) (by decide +kernel)
theorem gv_L_122 : GoodIn tz (wsV RL 122 RX10 yX10_write (wz yX10_write cX10_write 3 (some .int))) := gdV ml_L_122 im_X10_write se_X10_write ini_X10 cd_X10_write
theorem ml_L_125 : Cond.methodLink RL 125 yX11_write ∈ tz := tz_in 1273 (by decide +kernel) (by decide +kernel)
theorem gv_L_125 : GoodIn tz (wsV RL 125 RX11 yX11_write (wz yX11_write cX11_write 3 (some .int))) := gdV ml_L_125 im_X11_write se_X11_write ini_X11 cd_X11_write
theorem ml_L_126 : Cond.methodLink RL 126 yX10_tear ∈ tz := tz_in 824 (by decide +kernel) (by decide +kernel)
theorem gv_L_126 : GoodIn tz (wsV RL 126 RX10 yX10_tear (wz yX10_tear cX10_tear 2 (some .int))) := gdV ml_L_126 im_X10_tear se_X10_tear ini_X10 cd_X10_tear
theorem ml_L_129 : Cond.methodLink RL 129 yX11_tear ∈ tz := tz_in 1278 (by decide +kernel) (by decide +kernel)
theorem gv_L_129 : GoodIn tz (wsV RL 129 RX11 yX11_tear (wz yX11_tear cX11_tear 2 (some .int))) := gdV ml_L_129 im_X11_tear se_X11_tear ini_X11 cd_X11_tear
theorem ml_L_130 : Cond.methodLink RL 130 yX10_judge ∈ tz := tz_in 828 (by decide +kernel) (by decide +kernel)
theorem gv_L_130 : GoodIn tz (wsV RL 130 RX10 yX10_judge (wz yX10_judge cX10_judge 1 (some .int))) := gdV ml_L_130 im_X10_judge se_X10_judge ini_X10 cd_X10_judge
theorem ml_L_133 : Cond.methodLink RL 133 yX11_judge ∈ tz := tz_in 1282 (by decide +kernel) (by decide +kernel)
theorem gv_L_133 : GoodIn tz (wsV RL 133 RX11 yX11_judge (wz yX11_judge cX11_judge 2 (some .int))) := gdV ml_L_133 im_X11_judge se_X11_judge ini_X11 cd_X11_judge
theorem ml_L_134 : Cond.methodLink RL 134 yX10_seed ∈ tz := tz_in 836 (by decide +kernel) (by decide +kernel)
theorem gv_L_134 : GoodIn tz (wsV RL 134 RX10 yX10_seed (wz yX10_seed cX10_seed 3 (some .int))) := gdV ml_L_134 im_X10_seed se_X10_seed ini_X10 cd_X10_seed
theorem ml_L_137 : Cond.methodLink RL 137 yX11_seed ∈ tz := tz_in 1286 (by decide +kernel) (by decide +kernel)
theorem gv_L_137 : GoodIn tz (wsV RL 137 RX11 yX11_seed (wz yX11_seed cX11_seed 3 (some .int))) := gdV ml_L_137 im_X11_seed se_X11_seed ini_X11 cd_X11_seed
theorem ml_L_138 : Cond.methodLink RL 138 yX10_keep ∈ tz := tz_in 840 (by decide +kernel) (by decide +kernel)
theorem gv_L_138 : GoodIn tz (wsV RL 138 RX10 yX10_keep (wz yX10_keep cX10_keep 2 (some .int))) := gdV ml_L_138 im_X10_keep se_X10_keep ini_X10 cd_X10_keep
theorem ml_L_141 : Cond.methodLink RL 141 yX11_keep ∈ tz := tz_in 1290 (by decide +kernel) (by decide +kernel)
theorem gv_L_141 : GoodIn tz (wsV RL 141 RX11 yX11_keep (wz yX11_keep cX11_keep 3 (some .int))) := gdV ml_L_141 im_X11_keep se_X11_keep ini_X11 cd_X11_keep
theorem ml_L_142 : Cond.methodLink RL 142 yX10_goBack ∈ tz := tz_in 848 (by decide +kernel) (by decide +kernel)
theorem gv_L_142 : GoodIn tz (wsV RL 142 RX10 yX10_goBack (wz yX10_goBack cX10_goBack 2 (some .int))) := gdV ml_L_142 im_X10_goBack se_X10_goBack ini_X10 cd_X10_goBack
theorem ml_L_145 : Cond.methodLink RL 145 yX11_goBack ∈ tz := tz_in 1294 (by decide +kernel) (by decide +kernel)
theorem gv_L_145 : GoodIn tz (wsV RL 145 RX11 yX11_goBack (wz yX11_goBack cX11_goBack 3 (some .int))) := gdV ml_L_145 im_X11_goBack se_X11_goBack ini_X11 cd_X11_goBack
theorem ml_X11_96 : Cond.methodLink RX11 96 yX11_within ∈ tz := tz_in 999 (by decide +kernel) (by decide +kernel)
theorem gv_X11_96 : GoodIn tz (va_wsS RX11 96 yX11_within (wz yX11_within cX11_within 6 (some .boolean))) := gdS ml_X11_96 sm_X11_within ini_X11 cd_X11_within
theorem ml_X11_115 : Cond.methodLink RX11 115 yX11_here ∈ tz := tz_in 1008 (by decide +kernel) (by decide +kernel)
theorem gv_X11_115 : GoodIn tz (wsV RX11 115 RX11 yX11_here (wz yX11_here cX11_here 1 (some .int))) := gdV ml_X11_115 im_X11_here se_X11_here ini_X11 cd_X11_here
theorem ml_X11_123 : Cond.methodLink RX11 123 yX11_fails ∈ tz := tz_in 1016 (by decide +kernel) (by decide +kernel)
theorem gv_X11_123 : GoodIn tz (wsV RX11 123 RX11 yX11_fails (wz yX11_fails cX11_fails 3 (some .int))) := gdV ml_X11_123 im_X11_fails se_X11_fails ini_X11 cd_X11_fails
theorem ml_X11_133 : Cond.methodLink RX11 133 yX11_takeNumber ∈ tz := tz_in 1032 (by decide +kernel) (by decide +kernel)
theorem gv_X11_133 : GoodIn tz (wsV RX11 133 RX11 yX11_takeNumber (wz yX11_takeNumber cX11_takeNumber 4 (some .int))) := gdV ml_X11_133 im_X11_takeNumber se_X11_takeNumber ini_X11 cd_X11_takeNumber
theorem ml_X11_148 : Cond.methodLink RX11 148 yX11_takePits ∈ tz := tz_in 1028 (by decide +kernel) (by decide +kernel)
theorem gv_X11_148 : GoodIn tz (wsV RX11 148 RX11 yX11_takePits (wz yX11_takePits cX11_takePits 3 (some .int))) := gdV ml_X11_148 im_X11_takePits se_X11_takePits ini_X11 cd_X11_takePits
theorem ml_X11_151 : Cond.methodLink RX11 151 yX11_takeMan ∈ tz := tz_in 1038 (by decide +kernel) (by decide +kernel)
theorem gv_X11_151 : GoodIn tz (wsV RX11 151 RX11 yX11_takeMan (wz yX11_takeMan cX11_takeMan 3 (some .int))) := gdV ml_X11_151 im_X11_takeMan se_X11_takeMan ini_X11 cd_X11_takeMan
theorem ml_X11_154 : Cond.methodLink RX11 154 yX11_takeSaying ∈ tz := tz_in 1042 (by decide +kernel) (by decide +kernel)
theorem gv_X11_154 : GoodIn tz (wsV RX11 154 RX11 yX11_takeSaying (wz yX11_takeSaying cX11_takeSaying 2 (some .int))) := gdV ml_X11_154 im_X11_takeSaying se_X11_takeSaying ini_X11 cd_X11_takeSaying
theorem ml_X11_157 : Cond.methodLink RX11 157 yX11_isFull ∈ tz := tz_in 1020 (by decide +kernel) (by decide +kernel)
theorem gv_X11_157 : GoodIn tz (wsV RX11 157 RX11 yX11_isFull (wz yX11_isFull cX11_isFull 2 (some .boolean))) := gdV ml_X11_157 im_X11_isFull se_X11_isFull ini_X11 cd_X11_isFull
theorem ml_X11_161 : Cond.methodLink RX11 161 yX11_takeBody ∈ tz := tz_in 1024 (by decide +kernel) (by decide +kernel)
theorem gv_X11_161 : GoodIn tz (wsV RX11 161 RX11 yX11_takeBody (wz yX11_takeBody cX11_takeBody 2 (some .int))) := gdV ml_X11_161 im_X11_takeBody se_X11_takeBody ini_X11 cd_X11_takeBody
theorem ml_X11_168 : Cond.methodLink RX11 168 yX11_takeClause ∈ tz := tz_in 1012 (by decide +kernel) (by decide +kernel)
theorem gv_X11_168 : GoodIn tz (wsV RX11 168 RX11 yX11_takeClause (wz yX11_takeClause cX11_takeClause 4 (some .int))) := gdV ml_X11_168 im_X11_takeClause se_X11_takeClause ini_X11 cd_X11_takeClause
theorem ml_X11_171 : Cond.methodLink RX11 171 yX11_takeRead ∈ tz := tz_in 1046 (by decide +kernel) (by decide +kernel)
theorem gv_X11_171 : GoodIn tz (wsV RX11 171 RX11 yX11_takeRead (wz yX11_takeRead cX11_takeRead 2 none)) := gdV ml_X11_171 im_X11_takeRead se_X11_takeRead ini_X11 cd_X11_takeRead
theorem ml_X11_183 : Cond.methodLink RX11 183 yX11_capped ∈ tz := tz_in 1150 (by decide +kernel) (by decide +kernel)
theorem gv_X11_183 : GoodIn tz (va_wsS RX11 183 yX11_capped (wz yX11_capped cX11_capped 1 (some .int))) := gdS ml_X11_183 sm_X11_capped ini_X11 cd_X11_capped
theorem ml_X11_186 : Cond.methodLink RX11 186 yX11_hurts ∈ tz := tz_in 1075 (by decide +kernel) (by decide +kernel)
theorem gv_X11_186 : GoodIn tz (wsV RX11 186 RX11 yX11_hurts (wz yX11_hurts cX11_hurts 3 (some .int))) := gdV ml_X11_186 im_X11_hurts se_X11_hurts ini_X11 cd_X11_hurts
theorem ml_X11_189 : Cond.methodLink RX11 189 yX11_takesSkin ∈ tz := tz_in 1071 (by decide +kernel) (by decide +kernel)
theorem gv_X11_189 : GoodIn tz (wsV RX11 189 RX11 yX11_takesSkin (wz yX11_takesSkin cX11_takesSkin 3 none)) := gdV ml_X11_189 im_X11_takesSkin se_X11_takesSkin ini_X11 cd_X11_takesSkin
theorem ml_X11_194 : Cond.methodLink RX11 194 yX11_hurtOf ∈ tz := tz_in 1067 (by decide +kernel) (by decide +kernel)
theorem gv_X11_194 : GoodIn tz (wsV RX11 194 RX11 yX11_hurtOf (wz yX11_hurtOf cX11_hurtOf 3 (some .int))) := gdV ml_X11_194 im_X11_hurtOf se_X11_hurtOf ini_X11 cd_X11_hurtOf
theorem ml_X11_198 : Cond.methodLink RX11 198 yX11_woundsAll ∈ tz := tz_in 1058 (by decide +kernel) (by decide +kernel)
theorem gv_X11_198 : GoodIn tz (wsV RX11 198 RX11 yX11_woundsAll (wz yX11_woundsAll cX11_woundsAll 3 (some .int))) := gdV ml_X11_198 im_X11_woundsAll se_X11_woundsAll ini_X11 cd_X11_woundsAll
theorem ml_X11_201 : Cond.methodLink RX11 201 yX11_bestMan ∈ tz := tz_in 1062 (by decide +kernel) (by decide +kernel)
theorem gv_X11_201 : GoodIn tz (wsV RX11 201 RX11 yX11_bestMan (wz yX11_bestMan cX11_bestMan 6 (some .int))) := gdV ml_X11_201 im_X11_bestMan se_X11_bestMan ini_X11 cd_X11_bestMan
theorem ml_X11_204 : Cond.methodLink RX11 204 yX11_chosen ∈ tz := tz_in 1079 (by decide +kernel) (by decide +kernel)
theorem gv_X11_204 : GoodIn tz (wsV RX11 204 RX11 yX11_chosen (wz yX11_chosen cX11_chosen 6 (some .int))) := gdV ml_X11_204 im_X11_chosen se_X11_chosen ini_X11 cd_X11_chosen
theorem ml_X11_207 : Cond.methodLink RX11 207 yX11_tender ∈ tz := tz_in 1083 (by decide +kernel) (by decide +kernel)
theorem gv_X11_207 : GoodIn tz (wsV RX11 207 RX11 yX11_tender (wz yX11_tender cX11_tender 5 (some .int))) := gdV ml_X11_207 im_X11_tender se_X11_tender ini_X11 cd_X11_tender
theorem ml_X11_210 : Cond.methodLink RX11 210 yX11_isMan ∈ tz := tz_in 1092 (by decide +kernel) (by decide +kernel)
theorem gv_X11_210 : GoodIn tz (wsV RX11 210 RX11 yX11_isMan (wz yX11_isMan cX11_isMan 2 (some .boolean))) := gdV ml_X11_210 im_X11_isMan se_X11_isMan ini_X11 cd_X11_isMan
theorem ml_X11_214 : Cond.methodLink RX11 214 yX11_borneNow ∈ tz := tz_in 1097 (by decide +kernel) (by decide +kernel)
theorem gv_X11_214 : GoodIn tz (wsV RX11 214 RX11 yX11_borneNow (wz yX11_borneNow cX11_borneNow 3 (some .int))) := gdV ml_X11_214 im_X11_borneNow se_X11_borneNow ini_X11 cd_X11_borneNow
theorem ml_X11_217 : Cond.methodLink RX11 217 yX11_feltNow ∈ tz := tz_in 1101 (by decide +kernel) (by decide +kernel)
theorem gv_X11_217 : GoodIn tz (wsV RX11 217 RX11 yX11_feltNow (wz yX11_feltNow cX11_feltNow 3 (some .int))) := gdV ml_X11_217 im_X11_feltNow se_X11_feltNow ini_X11 cd_X11_feltNow
theorem ml_X11_220 : Cond.methodLink RX11 220 yX11_isPlace ∈ tz := tz_in 1109 (by decide +kernel) (by decide +kernel)
theorem gv_X11_220 : GoodIn tz (va_wsS RX11 220 yX11_isPlace (wz yX11_isPlace cX11_isPlace 1 (some .boolean))) := gdS ml_X11_220 sm_X11_isPlace ini_X11 cd_X11_isPlace
theorem ml_X11_223 : Cond.methodLink RX11 223 yX11_isSaying ∈ tz := tz_in 1117 (by decide +kernel) (by decide +kernel)
theorem gv_X11_223 : GoodIn tz (wsV RX11 223 RX11 yX11_isSaying (wz yX11_isSaying cX11_isSaying 2 (some .boolean))) := gdV ml_X11_223 im_X11_isSaying se_X11_isSaying ini_X11 cd_X11_isSaying
theorem ml_X11_226 : Cond.methodLink RX11 226 yX11_has ∈ tz := tz_in 1143 (by decide +kernel) (by decide +kernel)
theorem gv_X11_226 : GoodIn tz (va_wsS RX11 226 yX11_has (wz yX11_has cX11_has 2 (some .boolean))) := gdS ml_X11_226 sm_X11_has ini_X11 cd_X11_has
theorem ml_X11_230 : Cond.methodLink RX11 230 yX11_tans ∈ tz := tz_in 1146 (by decide +kernel) (by decide +kernel)
theorem gv_X11_230 : GoodIn tz (wsV RX11 230 RX11 yX11_tans (wz yX11_tans cX11_tans 7 none)) := gdV ml_X11_230 im_X11_tans se_X11_tans ini_X11 cd_X11_tans
theorem ml_X11_237 : Cond.methodLink RX11 237 yX11_monthsRefused ∈ tz := tz_in 1129 (by decide +kernel) (by decide +kernel)
theorem gv_X11_237 : GoodIn tz (wsV RX11 237 RX11 yX11_monthsRefused (wz yX11_monthsRefused cX11_monthsRefused 2 (some .int))) := gdV ml_X11_237 im_X11_monthsRefused se_X11_monthsRefused ini_X11 cd_X11_monthsRefused
theorem ml_X11_240 : Cond.methodLink RX11 240 yX11_remember ∈ tz := tz_in 1135 (by decide +kernel) (by decide +kernel)
theorem gv_X11_240 : GoodIn tz (wsV RX11 240 RX11 yX11_remember (wz yX11_remember cX11_remember 2 none)) := gdV ml_X11_240 im_X11_remember se_X11_remember ini_X11 cd_X11_remember
theorem ml_X11_243 : Cond.methodLink RX11 243 yX11_passes ∈ tz := tz_in 1139 (by decide +kernel) (by decide +kernel)
theorem gv_X11_243 : GoodIn tz (wsV RX11 243 RX11 yX11_passes (wz yX11_passes cX11_passes 3 none)) := gdV ml_X11_243 im_X11_passes se_X11_passes ini_X11 cd_X11_passes
theorem ml_X11_246 : Cond.methodLink RX11 246 yX11_ones ∈ tz := tz_in 1161 (by decide +kernel) (by decide +kernel)
theorem gv_X11_246 : GoodIn tz (va_wsS RX11 246 yX11_ones (wz yX11_ones cX11_ones 3 (some .int))) := gdS ml_X11_246 sm_X11_ones ini_X11 cd_X11_ones
theorem ml_X11_249 : Cond.methodLink RX11 249 yX11_free ∈ tz := tz_in 1157 (by decide +kernel) (by decide +kernel)
theorem gv_X11_249 : GoodIn tz (wsV RX11 249 RX11 yX11_free (wz yX11_free cX11_free 1 (some .int))) := gdV ml_X11_249 im_X11_free se_X11_free ini_X11 cd_X11_free
theorem ml_X11_255 : Cond.methodLink RX11 255 yX11_scrapes ∈ tz := tz_in 1173 (by decide +kernel) (by decide +kernel)
theorem gv_X11_255 : GoodIn tz (wsV RX11 255 RX11 yX11_scrapes (wz yX11_scrapes cX11_scrapes 4 none)) := gdV ml_X11_255 im_X11_scrapes se_X11_scrapes ini_X11 cd_X11_scrapes
theorem ml_X11_259 : Cond.methodLink RX11 259 yX11_wounds ∈ tz := tz_in 1182 (by decide +kernel) (by decide +kernel)
theorem gv_X11_259 : GoodIn tz (wsV RX11 259 RX11 yX11_wounds (wz yX11_wounds cX11_wounds 4 none)) := gdV ml_X11_259 im_X11_wounds se_X11_wounds ini_X11 cd_X11_wounds
theorem ml_X11_275 : Cond.methodLink RX11 275 yX11_draw ∈ tz := tz_in 1200 (by decide +kernel) (by decide +kernel)
theorem gv_X11_275 : GoodIn tz (wsV RX11 275 RX11 yX11_draw (wz yX11_draw cX11_draw 2 (some .int))) := gdV ml_X11_275 im_X11_draw se_X11_draw ini_X11 cd_X11_draw
theorem ml_X11_278 : Cond.methodLink RX11 278 yX11_chance ∈ tz := tz_in 1196 (by decide +kernel) (by decide +kernel)
theorem gv_X11_278 : GoodIn tz (wsV RX11 278 RX11 yX11_chance (wz yX11_chance cX11_chance 4 none)) := gdV ml_X11_278 im_X11_chance se_X11_chance ini_X11 cd_X11_chance
theorem ml_X11_283 : Cond.methodLink RX11 283 yX11_areSayings ∈ tz := tz_in 1225 (by decide +kernel) (by decide +kernel)
theorem gv_X11_283 : GoodIn tz (wsV RX11 283 RX11 yX11_areSayings (wz yX11_areSayings cX11_areSayings 2 (some .boolean))) := gdV ml_X11_283 im_X11_areSayings se_X11_areSayings ini_X11 cd_X11_areSayings
theorem ml_X11_288 : Cond.methodLink RX11 288 yX11_goThrough ∈ tz := tz_in 1238 (by decide +kernel) (by decide +kernel)
theorem gv_X11_288 : GoodIn tz (wsV RX11 288 RX11 yX11_goThrough (wz yX11_goThrough cX11_goThrough 9 (some .boolean))) := gdV ml_X11_288 im_X11_goThrough se_X11_goThrough ini_X11 cd_X11_goThrough
theorem ml_X11_297 : Cond.methodLink RX11 297 yX11_takesFirst ∈ tz := tz_in 1265 (by decide +kernel) (by decide +kernel)
theorem gv_X11_297 : GoodIn tz (wsV RX11 297 RX11 yX11_takesFirst (wz yX11_takesFirst cX11_takesFirst 3 none)) := gdV ml_X11_297 im_X11_takesFirst se_X11_takesFirst ini_X11 cd_X11_takesFirst
theorem ml_X11_300 : Cond.methodLink RX11 300 yX11_laysStays ∈ tz := tz_in 1261 (by decide +kernel) (by decide +kernel)
theorem gv_X11_300 : GoodIn tz (wsV RX11 300 RX11 yX11_laysStays (wz yX11_laysStays cX11_laysStays 5 (some .int))) := gdV ml_X11_300 im_X11_laysStays se_X11_laysStays ini_X11 cd_X11_laysStays
end
section
theorem gt_X10_12 {w : WX} {adr : Nat → Nat → Nat} {k : KX} {cc : ByteArray} {nL fr lo : Nat} {pc n : Nat} {lv : List (Nat × Value)} {st : List Value} {S : St} {F : Op} (C : Cx w adr k cc RX10 nL fr lo) {o : Nat} (ho : o < 1) (hd : decode cc pc = .ok (.getfield 12, 3)) (hn : pc + 3 = n) (kk : Ge w adr k n lv (.ref (adr 1 0) :: st) S F) : Ge w adr k pc lv (.ref (adr 0 o) :: st) S F := ge_get (j := 0) C (cl_0 ho) rfl rfl (by decide) inX10z fl_X10_12 rfl hd hn kk
theorem gt_X10_19 {w : WX} {adr : Nat → Nat → Nat} {k : KX} {cc : ByteArray} {nL fr lo : Nat} {pc n : Nat} {lv : List (Nat × Value)} {st : List Value} {S : St} {F : Op} (C : Cx w adr k cc RX10 nL fr lo) {o : Nat} (ho : o < 1) (hd : decode cc pc = .ok (.getfield 19, 3)) (hn : pc + 3 = n) (kk : Ge w adr k n lv (.ref (adr 3 (pid (S 0 o 1))) :: st) S F) : Ge w adr k pc lv (.ref (adr 0 o) :: st) S F := ge_get (j := 1) C (cl_0 ho) rfl rfl (by decide) inX10z fl_X10_19 rfl hd hn kk
theorem pt_X10_19 {w : WX} {adr : Nat → Nat → Nat} {k : KX} {cc : ByteArray} {nL fr lo : Nat} {pc n : Nat} {lv : List (Nat × Value)} {st : List Value} {S : St} (C : Cx w adr k cc RX10 nL fr lo) {o : Nat} (ho : o < 1) {q : Nat} (hq : q < 2) {f : St → Op} (hd : decode cc pc = .ok (.putfield 19, 3)) (hn : pc + 3 = n) (kk : ∀ S1 : St, Ge w adr k n lv st S1 (f S1)) : Ge w adr k pc lv (.ref (adr 3 q) :: .ref (adr 0 o) :: st) S (bs (wr S 0 o 1 (uid q)) f) := by
  refine ge_putg (j := 1) (ty := .object "TannedMen$Plan") C (cl_0 ho) rfl ?_ rfl (by decide) inX10z tyX10_ok nmX10 fl_X10_19 rfl (by decide +kernel) rfl rfl (Nat.le_of_ble_eq_true rfl) hd hn kk
  show (Sum.inr (10, [.ref (adr 1 0), .ref (adr 3 (pid (upd (S 0 o) 1 (uid q) 1))), .ref (adr 3 (pid (upd (S 0 o) 1 (uid q) 2))), .ref (adr 9 0), .ref (adr 14 0), .ref (adr 19 0), .ref (adr 20 0), .ref (adr 27 0), .ref (adr 30 0), .ref (adr 31 0)]) : va_E) = Sum.inr (10, [.ref (adr 1 0), .ref (adr 3 q), .ref (adr 3 (pid (S 0 o 2))), .ref (adr 9 0), .ref (adr 14 0), .ref (adr 19 0), .ref (adr 20 0), .ref (adr 27 0), .ref (adr 30 0), .ref (adr 31 0)])
  have e : upd (S 0 o) 1 (uid q) 1 = uid q := if_pos rfl
  rw [e, pid_uid hq]
  rfl
theorem gt_X10_23 {w : WX} {adr : Nat → Nat → Nat} {k : KX} {cc : ByteArray} {nL fr lo : Nat} {pc n : Nat} {lv : List (Nat × Value)} {st : List Value} {S : St} {F : Op} (C : Cx w adr k cc RX10 nL fr lo) {o : Nat} (ho : o < 1) (hd : decode cc pc = .ok (.getfield 23, 3)) (hn : pc + 3 = n) (kk : Ge w adr k n lv (.ref (adr 3 (pid (S 0 o 2))) :: st) S F) : Ge w adr k pc lv (.ref (adr 0 o) :: st) S F := ge_get (j := 2) C (cl_0 ho) rfl rfl (by decide) inX10z fl_X10_23 rfl hd hn kk
theorem pt_X10_23 {w : WX} {adr : Nat → Nat → Nat} {k : KX} {cc : ByteArray} {nL fr lo : Nat} {pc n : Nat} {lv : List (Nat × Value)} {st : List Value} {S : St} (C : Cx w adr k cc RX10 nL fr lo) {o : Nat} (ho : o < 1) {q : Nat} (hq : q < 2) {f : St → Op} (hd : decode cc pc = .ok (.putfield 23, 3)) (hn : pc + 3 = n) (kk : ∀ S1 : St, Ge w adr k n lv st S1 (f S1)) : Ge w adr k pc lv (.ref (adr 3 q) :: .ref (adr 0 o) :: st) S (bs (wr S 0 o 2 (uid q)) f) := by
  refine ge_putg (j := 2) (ty := .object "TannedMen$Plan") C (cl_0 ho) rfl ?_ rfl (by decide) inX10z tyX10_ok nmX10 fl_X10_23 rfl (by decide +kernel) rfl rfl (Nat.le_of_ble_eq_true rfl) hd hn kk
  show (Sum.inr (10, [.ref (adr 1 0), .ref (adr 3 (pid (upd (S 0 o) 2 (uid q) 1))), .ref (adr 3 (pid (upd (S 0 o) 2 (uid q) 2))), .ref (adr 9 0), .ref (adr 14 0), .ref (adr 19 0), .ref (adr 20 0), .ref (adr 27 0), .ref (adr 30 0), .ref (adr 31 0)]) : va_E) = Sum.inr (10, [.ref (adr 1 0), .ref (adr 3 (pid (S 0 o 1))), .ref (adr 3 q), .ref (adr 9 0), .ref (adr 14 0), .ref (adr 19 0), .ref (adr 20 0), .ref (adr 27 0), .ref (adr 30 0), .ref (adr 31 0)])
  have e : upd (S 0 o) 2 (uid q) 2 = uid q := if_pos rfl
  rw [e, pid_uid hq]
  rfl
theorem gt_X10_31 {w : WX} {adr : Nat → Nat → Nat} {k : KX} {cc : ByteArray} {nL fr lo : Nat} {pc n : Nat} {lv : List (Nat × Value)} {st : List Value} {S : St} {F : Op} (C : Cx w adr k cc RX10 nL fr lo) {o : Nat} (ho : o < 1) (hd : decode cc pc = .ok (.getfield 31, 3)) (hn : pc + 3 = n) (kk : Ge w adr k n lv (.ref (adr 9 0) :: st) S F) : Ge w adr k pc lv (.ref (adr 0 o) :: st) S F := ge_get (j := 3) C (cl_0 ho) rfl rfl (by decide) inX10z fl_X10_31 rfl hd hn kk
theorem gt_X10_38 {w : WX} {adr : Nat → Nat → Nat} {k : KX} {cc : ByteArray} {nL fr lo : Nat} {pc n : Nat} {lv : List (Nat × Value)} {st : List Value} {S : St} {F : Op} (C : Cx w adr k cc RX10 nL fr lo) {o : Nat} (ho : o < 1) (hd : decode cc pc = .ok (.getfield 38, 3)) (hn : pc + 3 = n) (kk : Ge w adr k n lv (.ref (adr 14 0) :: st) S F) : Ge w adr k pc lv (.ref (adr 0 o) :: st) S F := ge_get (j := 4) C (cl_0 ho) rfl rfl (by decide) inX10z fl_X10_38 rfl hd hn kk
theorem gt_X10_45 {w : WX} {adr : Nat → Nat → Nat} {k : KX} {cc : ByteArray} {nL fr lo : Nat} {pc n : Nat} {lv : List (Nat × Value)} {st : List Value} {S : St} {F : Op} (C : Cx w adr k cc RX10 nL fr lo) {o : Nat} (ho : o < 1) (hd : decode cc pc = .ok (.getfield 45, 3)) (hn : pc + 3 = n) (kk : Ge w adr k n lv (.ref (adr 19 0) :: st) S F) : Ge w adr k pc lv (.ref (adr 0 o) :: st) S F := ge_get (j := 5) C (cl_0 ho) rfl rfl (by decide) inX10z fl_X10_45 rfl hd hn kk
theorem gt_X10_52 {w : WX} {adr : Nat → Nat → Nat} {k : KX} {cc : ByteArray} {nL fr lo : Nat} {pc n : Nat} {lv : List (Nat × Value)} {st : List Value} {S : St} {F : Op} (C : Cx w adr k cc RX10 nL fr lo) {o : Nat} (ho : o < 1) (hd : decode cc pc = .ok (.getfield 52, 3)) (hn : pc + 3 = n) (kk : Ge w adr k n lv (.ref (adr 20 0) :: st) S F) : Ge w adr k pc lv (.ref (adr 0 o) :: st) S F := ge_get (j := 6) C (cl_0 ho) rfl rfl (by decide) inX10z fl_X10_52 rfl hd hn kk
theorem gt_X10_59 {w : WX} {adr : Nat → Nat → Nat} {k : KX} {cc : ByteArray} {nL fr lo : Nat} {pc n : Nat} {lv : List (Nat × Value)} {st : List Value} {S : St} {F : Op} (C : Cx w adr k cc RX10 nL fr lo) {o : Nat} (ho : o < 1) (hd : decode cc pc = .ok (.getfield 59, 3)) (hn : pc + 3 = n) (kk : Ge w adr k n lv (.ref (adr 27 0) :: st) S F) : Ge w adr k pc lv (.ref (adr 0 o) :: st) S F := ge_get (j := 7) C (cl_0 ho) rfl rfl (by decide) inX10z fl_X10_59 rfl hd hn kk
theorem gt_X10_66 {w : WX} {adr : Nat → Nat → Nat} {k : KX} {cc : ByteArray} {nL fr lo : Nat} {pc n : Nat} {lv : List (Nat × Value)} {st : List Value} {S : St} {F : Op} (C : Cx w adr k cc RX10 nL fr lo) {o : Nat} (ho : o < 1) (hd : decode cc pc = .ok (.getfield 66, 3)) (hn : pc + 3 = n) (kk : Ge w adr k n lv (.ref (adr 30 0) :: st) S F) : Ge w adr k pc lv (.ref (adr 0 o) :: st) S F := ge_get (j := 8) C (cl_0 ho) rfl rfl (by decide) inX10z fl_X10_66 rfl hd hn kk
theorem gt_X10_73 {w : WX} {adr : Nat → Nat → Nat} {k : KX} {cc : ByteArray} {nL fr lo : Nat} {pc n : Nat} {lv : List (Nat × Value)} {st : List Value} {S : St} {F : Op} (C : Cx w adr k cc RX10 nL fr lo) {o : Nat} (ho : o < 1) (hd : decode cc pc = .ok (.getfield 73, 3)) (hn : pc + 3 = n) (kk : Ge w adr k n lv (.ref (adr 31 0) :: st) S F) : Ge w adr k pc lv (.ref (adr 0 o) :: st) S F := ge_get (j := 9) C (cl_0 ho) rfl rfl (by decide) inX10z fl_X10_73 rfl hd hn kk
theorem gt_X10_82 {w : WX} {adr : Nat → Nat → Nat} {k : KX} {cc : ByteArray} {nL fr lo : Nat} {pc n : Nat} {lv : List (Nat × Value)} {st : List Value} {S : St} {F : Op} (C : Cx w adr k cc RX10 nL fr lo) {o : Nat} (ho : o < 1) (hd : decode cc pc = .ok (.getfield 82, 3)) (hn : pc + 3 = n) (kk : Ge w adr k n lv (.int (S 1 o 1) :: st) S F) : Ge w adr k pc lv (.ref (adr 1 o) :: st) S F := ge_get (j := 1) C (cl_1 ho) rfl rfl (by decide) inX8z fl_X10_82 rfl hd hn kk
theorem pt_X10_82 {w : WX} {adr : Nat → Nat → Nat} {k : KX} {cc : ByteArray} {nL fr lo : Nat} {pc n : Nat} {lv : List (Nat × Value)} {st : List Value} {S : St} (C : Cx w adr k cc RX10 nL fr lo) {o : Nat} (ho : o < 1) {x : Int32} {f : St → Op} (hd : decode cc pc = .ok (.putfield 82, 3)) (hn : pc + 3 = n) (kk : ∀ S1 : St, Ge w adr k n lv st S1 (f S1)) : Ge w adr k pc lv (.int x :: .ref (adr 1 o) :: st) S (bs (wr S 1 o 1 x) f) := ge_putg (j := 1) (ty := .int) C (cl_1 ho) rfl rfl rfl (by decide) inX8z tyX8_ok nmX8 fl_X10_82 rfl (by decide +kernel) rfl rfl (Nat.le_of_ble_eq_true rfl) hd hn kk
theorem gt_X10_94 {w : WX} {adr : Nat → Nat → Nat} {k : KX} {cc : ByteArray} {nL fr lo : Nat} {pc n : Nat} {lv : List (Nat × Value)} {st : List Value} {S : St} {F : Op} (C : Cx w adr k cc RX10 nL fr lo) {o : Nat} (ho : o < 1) (hd : decode cc pc = .ok (.getfield 94, 3)) (hn : pc + 3 = n) (kk : Ge w adr k n lv (.int (S 1 o 3) :: st) S F) : Ge w adr k pc lv (.ref (adr 1 o) :: st) S F := ge_get (j := 3) C (cl_1 ho) rfl rfl (by decide) inX8z fl_X10_94 rfl hd hn kk
theorem pt_X10_94 {w : WX} {adr : Nat → Nat → Nat} {k : KX} {cc : ByteArray} {nL fr lo : Nat} {pc n : Nat} {lv : List (Nat × Value)} {st : List Value} {S : St} (C : Cx w adr k cc RX10 nL fr lo) {o : Nat} (ho : o < 1) {x : Int32} {f : St → Op} (hd : decode cc pc = .ok (.putfield 94, 3)) (hn : pc + 3 = n) (kk : ∀ S1 : St, Ge w adr k n lv st S1 (f S1)) : Ge w adr k pc lv (.int x :: .ref (adr 1 o) :: st) S (bs (wr S 1 o 3 x) f) := ge_putg (j := 3) (ty := .int) C (cl_1 ho) rfl rfl rfl (by decide) inX8z tyX8_ok nmX8 fl_X10_94 rfl (by decide +kernel) rfl rfl (Nat.le_of_ble_eq_true rfl) hd hn kk
theorem gt_X10_100 {w : WX} {adr : Nat → Nat → Nat} {k : KX} {cc : ByteArray} {nL fr lo : Nat} {pc n : Nat} {lv : List (Nat × Value)} {st : List Value} {S : St} {F : Op} (C : Cx w adr k cc RX10 nL fr lo) {o : Nat} (ho : o < 1) (hd : decode cc pc = .ok (.getfield 100, 3)) (hn : pc + 3 = n) (kk : Ge w adr k n lv (.int (S 14 o 2) :: st) S F) : Ge w adr k pc lv (.ref (adr 14 o) :: st) S F := ge_get (j := 2) C (cl_14 ho) rfl rfl (by decide) inX4z fl_X10_100 rfl hd hn kk
theorem pt_X10_100 {w : WX} {adr : Nat → Nat → Nat} {k : KX} {cc : ByteArray} {nL fr lo : Nat} {pc n : Nat} {lv : List (Nat × Value)} {st : List Value} {S : St} (C : Cx w adr k cc RX10 nL fr lo) {o : Nat} (ho : o < 1) {x : Int32} {f : St → Op} (hd : decode cc pc = .ok (.putfield 100, 3)) (hn : pc + 3 = n) (kk : ∀ S1 : St, Ge w adr k n lv st S1 (f S1)) : Ge w adr k pc lv (.int x :: .ref (adr 14 o) :: st) S (bs (wr S 14 o 2 x) f) := ge_putg (j := 2) (ty := .int) C (cl_14 ho) rfl rfl rfl (by decide) inX4z tyX4_ok nmX4 fl_X10_100 rfl (by decide +kernel) rfl rfl (Nat.le_of_ble_eq_true rfl) hd hn kk
theorem gt_X10_103 {w : WX} {adr : Nat → Nat → Nat} {k : KX} {cc : ByteArray} {nL fr lo : Nat} {pc n : Nat} {lv : List (Nat × Value)} {st : List Value} {S : St} {F : Op} (C : Cx w adr k cc RX10 nL fr lo) {o : Nat} (ho : o < 1) (hd : decode cc pc = .ok (.getfield 103, 3)) (hn : pc + 3 = n) (kk : Ge w adr k n lv (.int (S 14 o 5) :: st) S F) : Ge w adr k pc lv (.ref (adr 14 o) :: st) S F := ge_get (j := 5) C (cl_14 ho) rfl rfl (by decide) inX4z fl_X10_103 rfl hd hn kk
theorem pt_X10_103 {w : WX} {adr : Nat → Nat → Nat} {k : KX} {cc : ByteArray} {nL fr lo : Nat} {pc n : Nat} {lv : List (Nat × Value)} {st : List Value} {S : St} (C : Cx w adr k cc RX10 nL fr lo) {o : Nat} (ho : o < 1) {x : Int32} {f : St → Op} (hd : decode cc pc = .ok (.putfield 103, 3)) (hn : pc + 3 = n) (kk : ∀ S1 : St, Ge w adr k n lv st S1 (f S1)) : Ge w adr k pc lv (.int x :: .ref (adr 14 o) :: st) S (bs (wr S 14 o 5 x) f) := ge_putg (j := 5) (ty := .int) C (cl_14 ho) rfl rfl rfl (by decide) inX4z tyX4_ok nmX4 fl_X10_103 rfl (by decide +kernel) rfl rfl (Nat.le_of_ble_eq_true rfl) hd hn kk
theorem gt_X10_106 {w : WX} {adr : Nat → Nat → Nat} {k : KX} {cc : ByteArray} {nL fr lo : Nat} {pc n : Nat} {lv : List (Nat × Value)} {st : List Value} {S : St} {F : Op} (C : Cx w adr k cc RX10 nL fr lo) {o : Nat} (ho : o < 1) (hd : decode cc pc = .ok (.getfield 106, 3)) (hn : pc + 3 = n) (kk : Ge w adr k n lv (.int (S 20 o 3) :: st) S F) : Ge w adr k pc lv (.ref (adr 20 o) :: st) S F := ge_get (j := 3) C (cl_20 ho) rfl rfl (by decide) inX2z fl_X10_106 rfl hd hn kk
theorem pt_X10_106 {w : WX} {adr : Nat → Nat → Nat} {k : KX} {cc : ByteArray} {nL fr lo : Nat} {pc n : Nat} {lv : List (Nat × Value)} {st : List Value} {S : St} (C : Cx w adr k cc RX10 nL fr lo) {o : Nat} (ho : o < 1) {x : Int32} {f : St → Op} (hd : decode cc pc = .ok (.putfield 106, 3)) (hn : pc + 3 = n) (kk : ∀ S1 : St, Ge w adr k n lv st S1 (f S1)) : Ge w adr k pc lv (.int x :: .ref (adr 20 o) :: st) S (bs (wr S 20 o 3 x) f) := ge_putg (j := 3) (ty := .int) C (cl_20 ho) rfl rfl rfl (by decide) inX2z tyX2_ok nmX2 fl_X10_106 rfl (by decide +kernel) rfl rfl (Nat.le_of_ble_eq_true rfl) hd hn kk
theorem gt_X10_107 {w : WX} {adr : Nat → Nat → Nat} {k : KX} {cc : ByteArray} {nL fr lo : Nat} {pc n : Nat} {lv : List (Nat × Value)} {st : List Value} {S : St} {F : Op} (C : Cx w adr k cc RX10 nL fr lo) {o : Nat} (ho : o < 1) (hd : decode cc pc = .ok (.getfield 107, 3)) (hn : pc + 3 = n) (kk : Ge w adr k n lv (.int (S 27 o 2) :: st) S F) : Ge w adr k pc lv (.ref (adr 27 o) :: st) S F := ge_get (j := 2) C (cl_27 ho) rfl rfl (by decide) inX0z fl_X10_107 rfl hd hn kk
theorem pt_X10_107 {w : WX} {adr : Nat → Nat → Nat} {k : KX} {cc : ByteArray} {nL fr lo : Nat} {pc n : Nat} {lv : List (Nat × Value)} {st : List Value} {S : St} (C : Cx w adr k cc RX10 nL fr lo) {o : Nat} (ho : o < 1) {x : Int32} {f : St → Op} (hd : decode cc pc = .ok (.putfield 107, 3)) (hn : pc + 3 = n) (kk : ∀ S1 : St, Ge w adr k n lv st S1 (f S1)) : Ge w adr k pc lv (.int x :: .ref (adr 27 o) :: st) S (bs (wr S 27 o 2 x) f) := ge_putg (j := 2) (ty := .int) C (cl_27 ho) rfl rfl rfl (by decide) inX0z tyX0_ok nmX0 fl_X10_107 rfl (by decide +kernel) rfl rfl (Nat.le_of_ble_eq_true rfl) hd hn kk
theorem gt_X10_108 {w : WX} {adr : Nat → Nat → Nat} {k : KX} {cc : ByteArray} {nL fr lo : Nat} {pc n : Nat} {lv : List (Nat × Value)} {st : List Value} {S : St} {F : Op} (C : Cx w adr k cc RX10 nL fr lo) {o : Nat} (ho : o < 2) (hd : decode cc pc = .ok (.getfield 108, 3)) (hn : pc + 3 = n) (kk : Ge w adr k n lv (.int (S 3 o 2) :: st) S F) : Ge w adr k pc lv (.ref (adr 3 o) :: st) S F := ge_get (j := 2) C (cl_3 ho) rfl rfl (by decide) inX6z fl_X10_108 rfl hd hn kk
theorem pt_X10_108 {w : WX} {adr : Nat → Nat → Nat} {k : KX} {cc : ByteArray} {nL fr lo : Nat} {pc n : Nat} {lv : List (Nat × Value)} {st : List Value} {S : St} (C : Cx w adr k cc RX10 nL fr lo) {o : Nat} (ho : o < 2) {x : Int32} {f : St → Op} (hd : decode cc pc = .ok (.putfield 108, 3)) (hn : pc + 3 = n) (kk : ∀ S1 : St, Ge w adr k n lv st S1 (f S1)) : Ge w adr k pc lv (.int x :: .ref (adr 3 o) :: st) S (bs (wr S 3 o 2 x) f) := ge_putg (j := 2) (ty := .int) C (cl_3 ho) rfl rfl rfl (by decide) inX6z tyX6_ok nmX6 fl_X10_108 rfl (by decide +kernel) rfl rfl (Nat.le_of_ble_eq_true rfl) hd hn kk
theorem gt_X10_111 {w : WX} {adr : Nat → Nat → Nat} {k : KX} {cc : ByteArray} {nL fr lo : Nat} {pc n : Nat} {lv : List (Nat × Value)} {st : List Value} {S : St} {F : Op} (C : Cx w adr k cc RX10 nL fr lo) {o : Nat} (ho : o < 1) (hd : decode cc pc = .ok (.getfield 111, 3)) (hn : pc + 3 = n) (kk : Ge w adr k n lv (.int (S 1 o 4) :: st) S F) : Ge w adr k pc lv (.ref (adr 1 o) :: st) S F := ge_get (j := 4) C (cl_1 ho) rfl rfl (by decide) inX8z fl_X10_111 rfl hd hn kk
theorem pt_X10_111 {w : WX} {adr : Nat → Nat → Nat} {k : KX} {cc : ByteArray} {nL fr lo : Nat} {pc n : Nat} {lv : List (Nat × Value)} {st : List Value} {S : St} (C : Cx w adr k cc RX10 nL fr lo) {o : Nat} (ho : o < 1) {x : Int32} {f : St → Op} (hd : decode cc pc = .ok (.putfield 111, 3)) (hn : pc + 3 = n) (kk : ∀ S1 : St, Ge w adr k n lv st S1 (f S1)) : Ge w adr k pc lv (.int x :: .ref (adr 1 o) :: st) S (bs (wr S 1 o 4 x) f) := ge_putg (j := 4) (ty := .int) C (cl_1 ho) rfl rfl rfl (by decide) inX8z tyX8_ok nmX8 fl_X10_111 rfl (by decide +kernel) rfl rfl (Nat.le_of_ble_eq_true rfl) hd hn kk
theorem gt_X10_114 {w : WX} {adr : Nat → Nat → Nat} {k : KX} {cc : ByteArray} {nL fr lo : Nat} {pc n : Nat} {lv : List (Nat × Value)} {st : List Value} {S : St} {F : Op} (C : Cx w adr k cc RX10 nL fr lo) {o : Nat} (ho : o < 2) (hd : decode cc pc = .ok (.getfield 114, 3)) (hn : pc + 3 = n) (kk : Ge w adr k n lv (.int (S 3 o 0) :: st) S F) : Ge w adr k pc lv (.ref (adr 3 o) :: st) S F := ge_get (j := 0) C (cl_3 ho) rfl rfl (by decide) inX6z fl_X10_114 rfl hd hn kk
theorem pt_X10_114 {w : WX} {adr : Nat → Nat → Nat} {k : KX} {cc : ByteArray} {nL fr lo : Nat} {pc n : Nat} {lv : List (Nat × Value)} {st : List Value} {S : St} (C : Cx w adr k cc RX10 nL fr lo) {o : Nat} (ho : o < 2) {x : Int32} {f : St → Op} (hd : decode cc pc = .ok (.putfield 114, 3)) (hn : pc + 3 = n) (kk : ∀ S1 : St, Ge w adr k n lv st S1 (f S1)) : Ge w adr k pc lv (.int x :: .ref (adr 3 o) :: st) S (bs (wr S 3 o 0 x) f) := ge_putg (j := 0) (ty := .int) C (cl_3 ho) rfl rfl rfl (by decide) inX6z tyX6_ok nmX6 fl_X10_114 rfl (by decide +kernel) rfl rfl (Nat.le_of_ble_eq_true rfl) hd hn kk
theorem gt_X10_117 {w : WX} {adr : Nat → Nat → Nat} {k : KX} {cc : ByteArray} {nL fr lo : Nat} {pc n : Nat} {lv : List (Nat × Value)} {st : List Value} {S : St} {F : Op} (C : Cx w adr k cc RX10 nL fr lo) {o : Nat} (ho : o < 1) (hd : decode cc pc = .ok (.getfield 117, 3)) (hn : pc + 3 = n) (kk : Ge w adr k n lv (.int (S 9 o 2) :: st) S F) : Ge w adr k pc lv (.ref (adr 9 o) :: st) S F := ge_get (j := 2) C (cl_9 ho) rfl rfl (by decide) inX7z fl_X10_117 rfl hd hn kk
theorem pt_X10_117 {w : WX} {adr : Nat → Nat → Nat} {k : KX} {cc : ByteArray} {nL fr lo : Nat} {pc n : Nat} {lv : List (Nat × Value)} {st : List Value} {S : St} (C : Cx w adr k cc RX10 nL fr lo) {o : Nat} (ho : o < 1) {x : Int32} {f : St → Op} (hd : decode cc pc = .ok (.putfield 117, 3)) (hn : pc + 3 = n) (kk : ∀ S1 : St, Ge w adr k n lv st S1 (f S1)) : Ge w adr k pc lv (.int x :: .ref (adr 9 o) :: st) S (bs (wr S 9 o 2 x) f) := ge_putg (j := 2) (ty := .int) C (cl_9 ho) rfl rfl rfl (by decide) inX7z tyX7_ok nmX7 fl_X10_117 rfl (by decide +kernel) rfl rfl (Nat.le_of_ble_eq_true rfl) hd hn kk
theorem gt_X10_120 {w : WX} {adr : Nat → Nat → Nat} {k : KX} {cc : ByteArray} {nL fr lo : Nat} {pc n : Nat} {lv : List (Nat × Value)} {st : List Value} {S : St} {F : Op} (C : Cx w adr k cc RX10 nL fr lo) {o : Nat} (ho : o < 2) (hd : decode cc pc = .ok (.getfield 120, 3)) (hn : pc + 3 = n) (kk : Ge w adr k n lv (.int (S 3 o 3) :: st) S F) : Ge w adr k pc lv (.ref (adr 3 o) :: st) S F := ge_get (j := 3) C (cl_3 ho) rfl rfl (by decide) inX6z fl_X10_120 rfl hd hn kk
theorem pt_X10_120 {w : WX} {adr : Nat → Nat → Nat} {k : KX} {cc : ByteArray} {nL fr lo : Nat} {pc n : Nat} {lv : List (Nat × Value)} {st : List Value} {S : St} (C : Cx w adr k cc RX10 nL fr lo) {o : Nat} (ho : o < 2) {x : Int32} {f : St → Op} (hd : decode cc pc = .ok (.putfield 120, 3)) (hn : pc + 3 = n) (kk : ∀ S1 : St, Ge w adr k n lv st S1 (f S1)) : Ge w adr k pc lv (.int x :: .ref (adr 3 o) :: st) S (bs (wr S 3 o 3 x) f) := ge_putg (j := 3) (ty := .int) C (cl_3 ho) rfl rfl rfl (by decide) inX6z tyX6_ok nmX6 fl_X10_120 rfl (by decide +kernel) rfl rfl (Nat.le_of_ble_eq_true rfl) hd hn kk
theorem gt_X10_123 {w : WX} {adr : Nat → Nat → Nat} {k : KX} {cc : ByteArray} {nL fr lo : Nat} {pc n : Nat} {lv : List (Nat × Value)} {st : List Value} {S : St} {F : Op} (C : Cx w adr k cc RX10 nL fr lo) {o : Nat} (ho : o < 1) (hd : decode cc pc = .ok (.getfield 123, 3)) (hn : pc + 3 = n) (kk : Ge w adr k n lv (.int (S 9 o 1) :: st) S F) : Ge w adr k pc lv (.ref (adr 9 o) :: st) S F := ge_get (j := 1) C (cl_9 ho) rfl rfl (by decide) inX7z fl_X10_123 rfl hd hn kk
theorem pt_X10_123 {w : WX} {adr : Nat → Nat → Nat} {k : KX} {cc : ByteArray} {nL fr lo : Nat} {pc n : Nat} {lv : List (Nat × Value)} {st : List Value} {S : St} (C : Cx w adr k cc RX10 nL fr lo) {o : Nat} (ho : o < 1) {x : Int32} {f : St → Op} (hd : decode cc pc = .ok (.putfield 123, 3)) (hn : pc + 3 = n) (kk : ∀ S1 : St, Ge w adr k n lv st S1 (f S1)) : Ge w adr k pc lv (.int x :: .ref (adr 9 o) :: st) S (bs (wr S 9 o 1 x) f) := ge_putg (j := 1) (ty := .int) C (cl_9 ho) rfl rfl rfl (by decide) inX7z tyX7_ok nmX7 fl_X10_123 rfl (by decide +kernel) rfl rfl (Nat.le_of_ble_eq_true rfl) hd hn kk
theorem gt_X10_130 {w : WX} {adr : Nat → Nat → Nat} {k : KX} {cc : ByteArray} {nL fr lo : Nat} {pc n : Nat} {lv : List (Nat × Value)} {st : List Value} {S : St} {F : Op} (C : Cx w adr k cc RX10 nL fr lo) {o : Nat} (ho : o < 1) (hd : decode cc pc = .ok (.getfield 130, 3)) (hn : pc + 3 = n) (kk : Ge w adr k n lv (.int (S 9 o 3) :: st) S F) : Ge w adr k pc lv (.ref (adr 9 o) :: st) S F := ge_get (j := 3) C (cl_9 ho) rfl rfl (by decide) inX7z fl_X10_130 rfl hd hn kk
theorem pt_X10_130 {w : WX} {adr : Nat → Nat → Nat} {k : KX} {cc : ByteArray} {nL fr lo : Nat} {pc n : Nat} {lv : List (Nat × Value)} {st : List Value} {S : St} (C : Cx w adr k cc RX10 nL fr lo) {o : Nat} (ho : o < 1) {x : Int32} {f : St → Op} (hd : decode cc pc = .ok (.putfield 130, 3)) (hn : pc + 3 = n) (kk : ∀ S1 : St, Ge w adr k n lv st S1 (f S1)) : Ge w adr k pc lv (.int x :: .ref (adr 9 o) :: st) S (bs (wr S 9 o 3 x) f) := ge_putg (j := 3) (ty := .int) C (cl_9 ho) rfl rfl rfl (by decide) inX7z tyX7_ok nmX7 fl_X10_130 rfl (by decide +kernel) rfl rfl (Nat.le_of_ble_eq_true rfl) hd hn kk
theorem gt_X10_150 {w : WX} {adr : Nat → Nat → Nat} {k : KX} {cc : ByteArray} {nL fr lo : Nat} {pc n : Nat} {lv : List (Nat × Value)} {st : List Value} {S : St} {F : Op} (C : Cx w adr k cc RX10 nL fr lo) {o : Nat} (ho : o < 1) (hd : decode cc pc = .ok (.getfield 150, 3)) (hn : pc + 3 = n) (kk : Ge w adr k n lv (.ref (adr 10 0) :: st) S F) : Ge w adr k pc lv (.ref (adr 9 o) :: st) S F := ge_get (j := 4) C (cl_9 ho) rfl rfl (by decide) inX7z fl_X10_150 rfl hd hn kk
theorem gt_X10_153 {w : WX} {adr : Nat → Nat → Nat} {k : KX} {cc : ByteArray} {nL fr lo : Nat} {pc n : Nat} {lv : List (Nat × Value)} {st : List Value} {S : St} {F : Op} (C : Cx w adr k cc RX10 nL fr lo) {o : Nat} (ho : o < 7) (hd : decode cc pc = .ok (.getfield 153, 3)) (hn : pc + 3 = n) (kk : Ge w adr k n lv (.int (S 11 o 0) :: st) S F) : Ge w adr k pc lv (.ref (adr 11 o) :: st) S F := ge_get (j := 0) C (cl_11 ho) rfl rfl (by decide) inX3z fl_X10_153 rfl hd hn kk
theorem pt_X10_153 {w : WX} {adr : Nat → Nat → Nat} {k : KX} {cc : ByteArray} {nL fr lo : Nat} {pc n : Nat} {lv : List (Nat × Value)} {st : List Value} {S : St} (C : Cx w adr k cc RX10 nL fr lo) {o : Nat} (ho : o < 7) {x : Int32} {f : St → Op} (hd : decode cc pc = .ok (.putfield 153, 3)) (hn : pc + 3 = n) (kk : ∀ S1 : St, Ge w adr k n lv st S1 (f S1)) : Ge w adr k pc lv (.int x :: .ref (adr 11 o) :: st) S (bs (wr S 11 o 0 x) f) := ge_putg (j := 0) (ty := .int) C (cl_11 ho) rfl rfl rfl (by decide) inX3z tyX3_ok nmX3 fl_X10_153 rfl (by decide +kernel) rfl rfl (Nat.le_of_ble_eq_true rfl) hd hn kk
theorem gt_X10_158 {w : WX} {adr : Nat → Nat → Nat} {k : KX} {cc : ByteArray} {nL fr lo : Nat} {pc n : Nat} {lv : List (Nat × Value)} {st : List Value} {S : St} {F : Op} (C : Cx w adr k cc RX10 nL fr lo) {o : Nat} (ho : o < 7) (hd : decode cc pc = .ok (.getfield 158, 3)) (hn : pc + 3 = n) (kk : Ge w adr k n lv (.int (S 11 o 1) :: st) S F) : Ge w adr k pc lv (.ref (adr 11 o) :: st) S F := ge_get (j := 1) C (cl_11 ho) rfl rfl (by decide) inX3z fl_X10_158 rfl hd hn kk
theorem pt_X10_158 {w : WX} {adr : Nat → Nat → Nat} {k : KX} {cc : ByteArray} {nL fr lo : Nat} {pc n : Nat} {lv : List (Nat × Value)} {st : List Value} {S : St} (C : Cx w adr k cc RX10 nL fr lo) {o : Nat} (ho : o < 7) {x : Int32} {f : St → Op} (hd : decode cc pc = .ok (.putfield 158, 3)) (hn : pc + 3 = n) (kk : ∀ S1 : St, Ge w adr k n lv st S1 (f S1)) : Ge w adr k pc lv (.int x :: .ref (adr 11 o) :: st) S (bs (wr S 11 o 1 x) f) := ge_putg (j := 1) (ty := .int) C (cl_11 ho) rfl rfl rfl (by decide) inX3z tyX3_ok nmX3 fl_X10_158 rfl (by decide +kernel) rfl rfl (Nat.le_of_ble_eq_true rfl) hd hn kk
theorem gt_X10_161 {w : WX} {adr : Nat → Nat → Nat} {k : KX} {cc : ByteArray} {nL fr lo : Nat} {pc n : Nat} {lv : List (Nat × Value)} {st : List Value} {S : St} {F : Op} (C : Cx w adr k cc RX10 nL fr lo) {o : Nat} (ho : o < 7) (hd : decode cc pc = .ok (.getfield 161, 3)) (hn : pc + 3 = n) (kk : Ge w adr k n lv (.int (S 11 o 2) :: st) S F) : Ge w adr k pc lv (.ref (adr 11 o) :: st) S F := ge_get (j := 2) C (cl_11 ho) rfl rfl (by decide) inX3z fl_X10_161 rfl hd hn kk
theorem pt_X10_161 {w : WX} {adr : Nat → Nat → Nat} {k : KX} {cc : ByteArray} {nL fr lo : Nat} {pc n : Nat} {lv : List (Nat × Value)} {st : List Value} {S : St} (C : Cx w adr k cc RX10 nL fr lo) {o : Nat} (ho : o < 7) {x : Int32} {f : St → Op} (hd : decode cc pc = .ok (.putfield 161, 3)) (hn : pc + 3 = n) (kk : ∀ S1 : St, Ge w adr k n lv st S1 (f S1)) : Ge w adr k pc lv (.int x :: .ref (adr 11 o) :: st) S (bs (wr S 11 o 2 x) f) := ge_putg (j := 2) (ty := .int) C (cl_11 ho) rfl rfl rfl (by decide) inX3z tyX3_ok nmX3 fl_X10_161 rfl (by decide +kernel) rfl rfl (Nat.le_of_ble_eq_true rfl) hd hn kk
theorem gt_X10_171 {w : WX} {adr : Nat → Nat → Nat} {k : KX} {cc : ByteArray} {nL fr lo : Nat} {pc n : Nat} {lv : List (Nat × Value)} {st : List Value} {S : St} {F : Op} (C : Cx w adr k cc RX10 nL fr lo) {o : Nat} (ho : o < 7) (hd : decode cc pc = .ok (.getfield 171, 3)) (hn : pc + 3 = n) (kk : Ge w adr k n lv (.ref (adr 12 o) :: st) S F) : Ge w adr k pc lv (.ref (adr 11 o) :: st) S F := ge_get (j := 3) C (cl_11 ho) rfl rfl (by decide) inX3z fl_X10_171 rfl hd hn kk
theorem gt_X10_175 {w : WX} {adr : Nat → Nat → Nat} {k : KX} {cc : ByteArray} {nL fr lo : Nat} {pc n : Nat} {lv : List (Nat × Value)} {st : List Value} {S : St} {F : Op} (C : Cx w adr k cc RX10 nL fr lo) {o : Nat} (ho : o < 7) (hd : decode cc pc = .ok (.getfield 175, 3)) (hn : pc + 3 = n) (kk : Ge w adr k n lv (.ref (adr 13 o) :: st) S F) : Ge w adr k pc lv (.ref (adr 11 o) :: st) S F := ge_get (j := 4) C (cl_11 ho) rfl rfl (by decide) inX3z fl_X10_175 rfl hd hn kk
theorem gt_X10_181 {w : WX} {adr : Nat → Nat → Nat} {k : KX} {cc : ByteArray} {nL fr lo : Nat} {pc n : Nat} {lv : List (Nat × Value)} {st : List Value} {S : St} {F : Op} (C : Cx w adr k cc RX10 nL fr lo) {o : Nat} (ho : o < 2) (hd : decode cc pc = .ok (.getfield 181, 3)) (hn : pc + 3 = n) (kk : Ge w adr k n lv (.ref (adr 7 o) :: st) S F) : Ge w adr k pc lv (.ref (adr 3 o) :: st) S F := ge_get (j := 6) C (cl_3 ho) rfl rfl (by decide) inX6z fl_X10_181 rfl hd hn kk
theorem gt_X10_184 {w : WX} {adr : Nat → Nat → Nat} {k : KX} {cc : ByteArray} {nL fr lo : Nat} {pc n : Nat} {lv : List (Nat × Value)} {st : List Value} {S : St} {F : Op} (C : Cx w adr k cc RX10 nL fr lo) {o : Nat} (ho : o < 2) (hd : decode cc pc = .ok (.getfield 184, 3)) (hn : pc + 3 = n) (kk : Ge w adr k n lv (.ref (adr 8 o) :: st) S F) : Ge w adr k pc lv (.ref (adr 3 o) :: st) S F := ge_get (j := 7) C (cl_3 ho) rfl rfl (by decide) inX6z fl_X10_184 rfl hd hn kk
theorem gt_X10_229 {w : WX} {adr : Nat → Nat → Nat} {k : KX} {cc : ByteArray} {nL fr lo : Nat} {pc n : Nat} {lv : List (Nat × Value)} {st : List Value} {S : St} {F : Op} (C : Cx w adr k cc RX10 nL fr lo) {o : Nat} (ho : o < 1) (hd : decode cc pc = .ok (.getfield 229, 3)) (hn : pc + 3 = n) (kk : Ge w adr k n lv (.ref (adr 11 6) :: st) S F) : Ge w adr k pc lv (.ref (adr 30 o) :: st) S F := ge_get (j := 0) C (cl_30 ho) rfl rfl (by decide) inX9z fl_X10_229 rfl hd hn kk
theorem gt_X10_260 {w : WX} {adr : Nat → Nat → Nat} {k : KX} {cc : ByteArray} {nL fr lo : Nat} {pc n : Nat} {lv : List (Nat × Value)} {st : List Value} {S : St} {F : Op} (C : Cx w adr k cc RX10 nL fr lo) {o : Nat} (ho : o < 1) (hd : decode cc pc = .ok (.getfield 260, 3)) (hn : pc + 3 = n) (kk : Ge w adr k n lv (.ref (adr 32 0) :: st) S F) : Ge w adr k pc lv (.ref (adr 31 o) :: st) S F := ge_get (j := 0) C (cl_31 ho) rfl rfl (by decide) inX5z fl_X10_260 rfl hd hn kk
theorem gt_X10_314 {w : WX} {adr : Nat → Nat → Nat} {k : KX} {cc : ByteArray} {nL fr lo : Nat} {pc n : Nat} {lv : List (Nat × Value)} {st : List Value} {S : St} {F : Op} (C : Cx w adr k cc RX10 nL fr lo) {o : Nat} (ho : o < 1) (hd : decode cc pc = .ok (.getfield 314, 3)) (hn : pc + 3 = n) (kk : Ge w adr k n lv (.int (S 19 o 0) :: st) S F) : Ge w adr k pc lv (.ref (adr 19 o) :: st) S F := ge_get (j := 0) C (cl_19 ho) rfl rfl (by decide) inX1z fl_X10_314 rfl hd hn kk
theorem pt_X10_314 {w : WX} {adr : Nat → Nat → Nat} {k : KX} {cc : ByteArray} {nL fr lo : Nat} {pc n : Nat} {lv : List (Nat × Value)} {st : List Value} {S : St} (C : Cx w adr k cc RX10 nL fr lo) {o : Nat} (ho : o < 1) {x : Int32} {f : St → Op} (hd : decode cc pc = .ok (.putfield 314, 3)) (hn : pc + 3 = n) (kk : ∀ S1 : St, Ge w adr k n lv st S1 (f S1)) : Ge w adr k pc lv (.int x :: .ref (adr 19 o) :: st) S (bs (wr S 19 o 0 x) f) := ge_putg (j := 0) (ty := .int) C (cl_19 ho) rfl rfl rfl (by decide) inX1z tyX1_ok nmX1 fl_X10_314 rfl (by decide +kernel) rfl rfl (Nat.le_of_ble_eq_true rfl) hd hn kk
theorem gt_X0_9 {w : WX} {adr : Nat → Nat → Nat} {k : KX} {cc : ByteArray} {nL fr lo : Nat} {pc n : Nat} {lv : List (Nat × Value)} {st : List Value} {S : St} {F : Op} (C : Cx w adr k cc RX0 nL fr lo) {o : Nat} (ho : o < 1) (hd : decode cc pc = .ok (.getfield 9, 3)) (hn : pc + 3 = n) (kk : Ge w adr k n lv (.ref (adr 28 0) :: st) S F) : Ge w adr k pc lv (.ref (adr 27 o) :: st) S F := ge_get (j := 0) C (cl_27 ho) rfl rfl (by decide) inX0z fl_X0_9 rfl hd hn kk
theorem gt_X0_15 {w : WX} {adr : Nat → Nat → Nat} {k : KX} {cc : ByteArray} {nL fr lo : Nat} {pc n : Nat} {lv : List (Nat × Value)} {st : List Value} {S : St} {F : Op} (C : Cx w adr k cc RX0 nL fr lo) {o : Nat} (ho : o < 1) (hd : decode cc pc = .ok (.getfield 15, 3)) (hn : pc + 3 = n) (kk : Ge w adr k n lv (.ref (adr 29 0) :: st) S F) : Ge w adr k pc lv (.ref (adr 27 o) :: st) S F := ge_get (j := 1) C (cl_27 ho) rfl rfl (by decide) inX0z fl_X0_15 rfl hd hn kk
theorem gt_X0_18 {w : WX} {adr : Nat → Nat → Nat} {k : KX} {cc : ByteArray} {nL fr lo : Nat} {pc n : Nat} {lv : List (Nat × Value)} {st : List Value} {S : St} {F : Op} (C : Cx w adr k cc RX0 nL fr lo) {o : Nat} (ho : o < 1) (hd : decode cc pc = .ok (.getfield 18, 3)) (hn : pc + 3 = n) (kk : Ge w adr k n lv (.int (S 27 o 2) :: st) S F) : Ge w adr k pc lv (.ref (adr 27 o) :: st) S F := ge_get (j := 2) C (cl_27 ho) rfl rfl (by decide) inX0z fl_X0_18 rfl hd hn kk
theorem pt_X0_18 {w : WX} {adr : Nat → Nat → Nat} {k : KX} {cc : ByteArray} {nL fr lo : Nat} {pc n : Nat} {lv : List (Nat × Value)} {st : List Value} {S : St} (C : Cx w adr k cc RX0 nL fr lo) {o : Nat} (ho : o < 1) {x : Int32} {f : St → Op} (hd : decode cc pc = .ok (.putfield 18, 3)) (hn : pc + 3 = n) (kk : ∀ S1 : St, Ge w adr k n lv st S1 (f S1)) : Ge w adr k pc lv (.int x :: .ref (adr 27 o) :: st) S (bs (wr S 27 o 2 x) f) := ge_putg (j := 2) (ty := .int) C (cl_27 ho) rfl rfl rfl (by decide) inX0z tyX0_ok nmX0 fl_X0_18 rfl (by decide +kernel) rfl rfl (Nat.le_of_ble_eq_true rfl) hd hn kk
theorem gt_X0_22 {w : WX} {adr : Nat → Nat → Nat} {k : KX} {cc : ByteArray} {nL fr lo : Nat} {pc n : Nat} {lv : List (Nat × Value)} {st : List Value} {S : St} {F : Op} (C : Cx w adr k cc RX0 nL fr lo) {o : Nat} (ho : o < 1) (hd : decode cc pc = .ok (.getfield 22, 3)) (hn : pc + 3 = n) (kk : Ge w adr k n lv (.ref (adr 10 0) :: st) S F) : Ge w adr k pc lv (.ref (adr 9 o) :: st) S F := ge_get (j := 4) C (cl_9 ho) rfl rfl (by decide) inX7z fl_X0_22 rfl hd hn kk
theorem gt_X0_28 {w : WX} {adr : Nat → Nat → Nat} {k : KX} {cc : ByteArray} {nL fr lo : Nat} {pc n : Nat} {lv : List (Nat × Value)} {st : List Value} {S : St} {F : Op} (C : Cx w adr k cc RX0 nL fr lo) {o : Nat} (ho : o < 7) (hd : decode cc pc = .ok (.getfield 28, 3)) (hn : pc + 3 = n) (kk : Ge w adr k n lv (.int (S 11 o 2) :: st) S F) : Ge w adr k pc lv (.ref (adr 11 o) :: st) S F := ge_get (j := 2) C (cl_11 ho) rfl rfl (by decide) inX3z fl_X0_28 rfl hd hn kk
theorem pt_X0_28 {w : WX} {adr : Nat → Nat → Nat} {k : KX} {cc : ByteArray} {nL fr lo : Nat} {pc n : Nat} {lv : List (Nat × Value)} {st : List Value} {S : St} (C : Cx w adr k cc RX0 nL fr lo) {o : Nat} (ho : o < 7) {x : Int32} {f : St → Op} (hd : decode cc pc = .ok (.putfield 28, 3)) (hn : pc + 3 = n) (kk : ∀ S1 : St, Ge w adr k n lv st S1 (f S1)) : Ge w adr k pc lv (.int x :: .ref (adr 11 o) :: st) S (bs (wr S 11 o 2 x) f) := ge_putg (j := 2) (ty := .int) C (cl_11 ho) rfl rfl rfl (by decide) inX3z tyX3_ok nmX3 fl_X0_28 rfl (by decide +kernel) rfl rfl (Nat.le_of_ble_eq_true rfl) hd hn kk
theorem gt_X1_7 {w : WX} {adr : Nat → Nat → Nat} {k : KX} {cc : ByteArray} {nL fr lo : Nat} {pc n : Nat} {lv : List (Nat × Value)} {st : List Value} {S : St} {F : Op} (C : Cx w adr k cc RX1 nL fr lo) {o : Nat} (ho : o < 1) (hd : decode cc pc = .ok (.getfield 7, 3)) (hn : pc + 3 = n) (kk : Ge w adr k n lv (.int (S 19 o 0) :: st) S F) : Ge w adr k pc lv (.ref (adr 19 o) :: st) S F := ge_get (j := 0) C (cl_19 ho) rfl rfl (by decide) inX1z fl_X1_7 rfl hd hn kk
theorem pt_X1_7 {w : WX} {adr : Nat → Nat → Nat} {k : KX} {cc : ByteArray} {nL fr lo : Nat} {pc n : Nat} {lv : List (Nat × Value)} {st : List Value} {S : St} (C : Cx w adr k cc RX1 nL fr lo) {o : Nat} (ho : o < 1) {x : Int32} {f : St → Op} (hd : decode cc pc = .ok (.putfield 7, 3)) (hn : pc + 3 = n) (kk : ∀ S1 : St, Ge w adr k n lv st S1 (f S1)) : Ge w adr k pc lv (.int x :: .ref (adr 19 o) :: st) S (bs (wr S 19 o 0 x) f) := ge_putg (j := 0) (ty := .int) C (cl_19 ho) rfl rfl rfl (by decide) inX1z tyX1_ok nmX1 fl_X1_7 rfl (by decide +kernel) rfl rfl (Nat.le_of_ble_eq_true rfl) hd hn kk
theorem gt_X2_9 {w : WX} {adr : Nat → Nat → Nat} {k : KX} {cc : ByteArray} {nL fr lo : Nat} {pc n : Nat} {lv : List (Nat × Value)} {st : List Value} {S : St} {F : Op} (C : Cx w adr k cc RX2 nL fr lo) {o : Nat} (ho : o < 1) (hd : decode cc pc = .ok (.getfield 9, 3)) (hn : pc + 3 = n) (kk : Ge w adr k n lv (.ref (adr 21 0) :: st) S F) : Ge w adr k pc lv (.ref (adr 20 o) :: st) S F := ge_get (j := 0) C (cl_20 ho) rfl rfl (by decide) inX2z fl_X2_9 rfl hd hn kk
theorem gt_X2_15 {w : WX} {adr : Nat → Nat → Nat} {k : KX} {cc : ByteArray} {nL fr lo : Nat} {pc n : Nat} {lv : List (Nat × Value)} {st : List Value} {S : St} {F : Op} (C : Cx w adr k cc RX2 nL fr lo) {o : Nat} (ho : o < 1) (hd : decode cc pc = .ok (.getfield 15, 3)) (hn : pc + 3 = n) (kk : Ge w adr k n lv (.ref (adr 22 0) :: st) S F) : Ge w adr k pc lv (.ref (adr 20 o) :: st) S F := ge_get (j := 1) C (cl_20 ho) rfl rfl (by decide) inX2z fl_X2_15 rfl hd hn kk
theorem gt_X2_18 {w : WX} {adr : Nat → Nat → Nat} {k : KX} {cc : ByteArray} {nL fr lo : Nat} {pc n : Nat} {lv : List (Nat × Value)} {st : List Value} {S : St} {F : Op} (C : Cx w adr k cc RX2 nL fr lo) {o : Nat} (ho : o < 1) (hd : decode cc pc = .ok (.getfield 18, 3)) (hn : pc + 3 = n) (kk : Ge w adr k n lv (.ref (adr 23 0) :: st) S F) : Ge w adr k pc lv (.ref (adr 20 o) :: st) S F := ge_get (j := 2) C (cl_20 ho) rfl rfl (by decide) inX2z fl_X2_18 rfl hd hn kk
theorem gt_X2_21 {w : WX} {adr : Nat → Nat → Nat} {k : KX} {cc : ByteArray} {nL fr lo : Nat} {pc n : Nat} {lv : List (Nat × Value)} {st : List Value} {S : St} {F : Op} (C : Cx w adr k cc RX2 nL fr lo) {o : Nat} (ho : o < 1) (hd : decode cc pc = .ok (.getfield 21, 3)) (hn : pc + 3 = n) (kk : Ge w adr k n lv (.ref (adr 24 0) :: st) S F) : Ge w adr k pc lv (.ref (adr 20 o) :: st) S F := ge_get (j := 5) C (cl_20 ho) rfl rfl (by decide) inX2z fl_X2_21 rfl hd hn kk
theorem gt_X2_24 {w : WX} {adr : Nat → Nat → Nat} {k : KX} {cc : ByteArray} {nL fr lo : Nat} {pc n : Nat} {lv : List (Nat × Value)} {st : List Value} {S : St} {F : Op} (C : Cx w adr k cc RX2 nL fr lo) {o : Nat} (ho : o < 1) (hd : decode cc pc = .ok (.getfield 24, 3)) (hn : pc + 3 = n) (kk : Ge w adr k n lv (.ref (adr 25 0) :: st) S F) : Ge w adr k pc lv (.ref (adr 20 o) :: st) S F := ge_get (j := 6) C (cl_20 ho) rfl rfl (by decide) inX2z fl_X2_24 rfl hd hn kk
theorem gt_X2_27 {w : WX} {adr : Nat → Nat → Nat} {k : KX} {cc : ByteArray} {nL fr lo : Nat} {pc n : Nat} {lv : List (Nat × Value)} {st : List Value} {S : St} {F : Op} (C : Cx w adr k cc RX2 nL fr lo) {o : Nat} (ho : o < 1) (hd : decode cc pc = .ok (.getfield 27, 3)) (hn : pc + 3 = n) (kk : Ge w adr k n lv (.ref (adr 26 0) :: st) S F) : Ge w adr k pc lv (.ref (adr 20 o) :: st) S F := ge_get (j := 7) C (cl_20 ho) rfl rfl (by decide) inX2z fl_X2_27 rfl hd hn kk
theorem gt_X2_30 {w : WX} {adr : Nat → Nat → Nat} {k : KX} {cc : ByteArray} {nL fr lo : Nat} {pc n : Nat} {lv : List (Nat × Value)} {st : List Value} {S : St} {F : Op} (C : Cx w adr k cc RX2 nL fr lo) {o : Nat} (ho : o < 1) (hd : decode cc pc = .ok (.getfield 30, 3)) (hn : pc + 3 = n) (kk : Ge w adr k n lv (.int (S 20 o 3) :: st) S F) : Ge w adr k pc lv (.ref (adr 20 o) :: st) S F := ge_get (j := 3) C (cl_20 ho) rfl rfl (by decide) inX2z fl_X2_30 rfl hd hn kk
theorem pt_X2_30 {w : WX} {adr : Nat → Nat → Nat} {k : KX} {cc : ByteArray} {nL fr lo : Nat} {pc n : Nat} {lv : List (Nat × Value)} {st : List Value} {S : St} (C : Cx w adr k cc RX2 nL fr lo) {o : Nat} (ho : o < 1) {x : Int32} {f : St → Op} (hd : decode cc pc = .ok (.putfield 30, 3)) (hn : pc + 3 = n) (kk : ∀ S1 : St, Ge w adr k n lv st S1 (f S1)) : Ge w adr k pc lv (.int x :: .ref (adr 20 o) :: st) S (bs (wr S 20 o 3 x) f) := ge_putg (j := 3) (ty := .int) C (cl_20 ho) rfl rfl rfl (by decide) inX2z tyX2_ok nmX2 fl_X2_30 rfl (by decide +kernel) rfl rfl (Nat.le_of_ble_eq_true rfl) hd hn kk
theorem gt_X2_39 {w : WX} {adr : Nat → Nat → Nat} {k : KX} {cc : ByteArray} {nL fr lo : Nat} {pc n : Nat} {lv : List (Nat × Value)} {st : List Value} {S : St} {F : Op} (C : Cx w adr k cc RX2 nL fr lo) {o : Nat} (ho : o < 1) (hd : decode cc pc = .ok (.getfield 39, 3)) (hn : pc + 3 = n) (kk : Ge w adr k n lv (.int (S 20 o 4) :: st) S F) : Ge w adr k pc lv (.ref (adr 20 o) :: st) S F := ge_get (j := 4) C (cl_20 ho) rfl rfl (by decide) inX2z fl_X2_39 rfl hd hn kk
theorem pt_X2_39 {w : WX} {adr : Nat → Nat → Nat} {k : KX} {cc : ByteArray} {nL fr lo : Nat} {pc n : Nat} {lv : List (Nat × Value)} {st : List Value} {S : St} (C : Cx w adr k cc RX2 nL fr lo) {o : Nat} (ho : o < 1) {x : Int32} {f : St → Op} (hd : decode cc pc = .ok (.putfield 39, 3)) (hn : pc + 3 = n) (kk : ∀ S1 : St, Ge w adr k n lv st S1 (f S1)) : Ge w adr k pc lv (.int x :: .ref (adr 20 o) :: st) S (bs (wr S 20 o 4 x) f) := ge_putg (j := 4) (ty := .int) C (cl_20 ho) rfl rfl rfl (by decide) inX2z tyX2_ok nmX2 fl_X2_39 rfl (by decide +kernel) rfl rfl (Nat.le_of_ble_eq_true rfl) hd hn kk
theorem gt_X2_42 {w : WX} {adr : Nat → Nat → Nat} {k : KX} {cc : ByteArray} {nL fr lo : Nat} {pc n : Nat} {lv : List (Nat × Value)} {st : List Value} {S : St} {F : Op} (C : Cx w adr k cc RX2 nL fr lo) {o : Nat} (ho : o < 2) (hd : decode cc pc = .ok (.getfield 42, 3)) (hn : pc + 3 = n) (kk : Ge w adr k n lv (.int (S 3 o 3) :: st) S F) : Ge w adr k pc lv (.ref (adr 3 o) :: st) S F := ge_get (j := 3) C (cl_3 ho) rfl rfl (by decide) inX6z fl_X2_42 rfl hd hn kk
theorem pt_X2_42 {w : WX} {adr : Nat → Nat → Nat} {k : KX} {cc : ByteArray} {nL fr lo : Nat} {pc n : Nat} {lv : List (Nat × Value)} {st : List Value} {S : St} (C : Cx w adr k cc RX2 nL fr lo) {o : Nat} (ho : o < 2) {x : Int32} {f : St → Op} (hd : decode cc pc = .ok (.putfield 42, 3)) (hn : pc + 3 = n) (kk : ∀ S1 : St, Ge w adr k n lv st S1 (f S1)) : Ge w adr k pc lv (.int x :: .ref (adr 3 o) :: st) S (bs (wr S 3 o 3 x) f) := ge_putg (j := 3) (ty := .int) C (cl_3 ho) rfl rfl rfl (by decide) inX6z tyX6_ok nmX6 fl_X2_42 rfl (by decide +kernel) rfl rfl (Nat.le_of_ble_eq_true rfl) hd hn kk
theorem gt_X3_9 {w : WX} {adr : Nat → Nat → Nat} {k : KX} {cc : ByteArray} {nL fr lo : Nat} {pc n : Nat} {lv : List (Nat × Value)} {st : List Value} {S : St} {F : Op} (C : Cx w adr k cc RX3 nL fr lo) {o : Nat} (ho : o < 7) (hd : decode cc pc = .ok (.getfield 9, 3)) (hn : pc + 3 = n) (kk : Ge w adr k n lv (.ref (adr 12 o) :: st) S F) : Ge w adr k pc lv (.ref (adr 11 o) :: st) S F := ge_get (j := 3) C (cl_11 ho) rfl rfl (by decide) inX3z fl_X3_9 rfl hd hn kk
theorem gt_X3_15 {w : WX} {adr : Nat → Nat → Nat} {k : KX} {cc : ByteArray} {nL fr lo : Nat} {pc n : Nat} {lv : List (Nat × Value)} {st : List Value} {S : St} {F : Op} (C : Cx w adr k cc RX3 nL fr lo) {o : Nat} (ho : o < 7) (hd : decode cc pc = .ok (.getfield 15, 3)) (hn : pc + 3 = n) (kk : Ge w adr k n lv (.ref (adr 13 o) :: st) S F) : Ge w adr k pc lv (.ref (adr 11 o) :: st) S F := ge_get (j := 4) C (cl_11 ho) rfl rfl (by decide) inX3z fl_X3_15 rfl hd hn kk
theorem gt_X3_18 {w : WX} {adr : Nat → Nat → Nat} {k : KX} {cc : ByteArray} {nL fr lo : Nat} {pc n : Nat} {lv : List (Nat × Value)} {st : List Value} {S : St} {F : Op} (C : Cx w adr k cc RX3 nL fr lo) {o : Nat} (ho : o < 2) (hd : decode cc pc = .ok (.getfield 18, 3)) (hn : pc + 3 = n) (kk : Ge w adr k n lv (.ref (adr 4 o) :: st) S F) : Ge w adr k pc lv (.ref (adr 3 o) :: st) S F := ge_get (j := 4) C (cl_3 ho) rfl rfl (by decide) inX6z fl_X3_18 rfl hd hn kk
theorem gt_X3_23 {w : WX} {adr : Nat → Nat → Nat} {k : KX} {cc : ByteArray} {nL fr lo : Nat} {pc n : Nat} {lv : List (Nat × Value)} {st : List Value} {S : St} {F : Op} (C : Cx w adr k cc RX3 nL fr lo) {o : Nat} (ho : o < 7) (hd : decode cc pc = .ok (.getfield 23, 3)) (hn : pc + 3 = n) (kk : Ge w adr k n lv (.int (S 11 o 0) :: st) S F) : Ge w adr k pc lv (.ref (adr 11 o) :: st) S F := ge_get (j := 0) C (cl_11 ho) rfl rfl (by decide) inX3z fl_X3_23 rfl hd hn kk
theorem pt_X3_23 {w : WX} {adr : Nat → Nat → Nat} {k : KX} {cc : ByteArray} {nL fr lo : Nat} {pc n : Nat} {lv : List (Nat × Value)} {st : List Value} {S : St} (C : Cx w adr k cc RX3 nL fr lo) {o : Nat} (ho : o < 7) {x : Int32} {f : St → Op} (hd : decode cc pc = .ok (.putfield 23, 3)) (hn : pc + 3 = n) (kk : ∀ S1 : St, Ge w adr k n lv st S1 (f S1)) : Ge w adr k pc lv (.int x :: .ref (adr 11 o) :: st) S (bs (wr S 11 o 0 x) f) := ge_putg (j := 0) (ty := .int) C (cl_11 ho) rfl rfl rfl (by decide) inX3z tyX3_ok nmX3 fl_X3_23 rfl (by decide +kernel) rfl rfl (Nat.le_of_ble_eq_true rfl) hd hn kk
theorem gt_X3_26 {w : WX} {adr : Nat → Nat → Nat} {k : KX} {cc : ByteArray} {nL fr lo : Nat} {pc n : Nat} {lv : List (Nat × Value)} {st : List Value} {S : St} {F : Op} (C : Cx w adr k cc RX3 nL fr lo) {o : Nat} (ho : o < 7) (hd : decode cc pc = .ok (.getfield 26, 3)) (hn : pc + 3 = n) (kk : Ge w adr k n lv (.int (S 11 o 1) :: st) S F) : Ge w adr k pc lv (.ref (adr 11 o) :: st) S F := ge_get (j := 1) C (cl_11 ho) rfl rfl (by decide) inX3z fl_X3_26 rfl hd hn kk
theorem pt_X3_26 {w : WX} {adr : Nat → Nat → Nat} {k : KX} {cc : ByteArray} {nL fr lo : Nat} {pc n : Nat} {lv : List (Nat × Value)} {st : List Value} {S : St} (C : Cx w adr k cc RX3 nL fr lo) {o : Nat} (ho : o < 7) {x : Int32} {f : St → Op} (hd : decode cc pc = .ok (.putfield 26, 3)) (hn : pc + 3 = n) (kk : ∀ S1 : St, Ge w adr k n lv st S1 (f S1)) : Ge w adr k pc lv (.int x :: .ref (adr 11 o) :: st) S (bs (wr S 11 o 1 x) f) := ge_putg (j := 1) (ty := .int) C (cl_11 ho) rfl rfl rfl (by decide) inX3z tyX3_ok nmX3 fl_X3_26 rfl (by decide +kernel) rfl rfl (Nat.le_of_ble_eq_true rfl) hd hn kk
theorem gt_X3_29 {w : WX} {adr : Nat → Nat → Nat} {k : KX} {cc : ByteArray} {nL fr lo : Nat} {pc n : Nat} {lv : List (Nat × Value)} {st : List Value} {S : St} {F : Op} (C : Cx w adr k cc RX3 nL fr lo) {o : Nat} (ho : o < 7) (hd : decode cc pc = .ok (.getfield 29, 3)) (hn : pc + 3 = n) (kk : Ge w adr k n lv (.int (S 11 o 2) :: st) S F) : Ge w adr k pc lv (.ref (adr 11 o) :: st) S F := ge_get (j := 2) C (cl_11 ho) rfl rfl (by decide) inX3z fl_X3_29 rfl hd hn kk
theorem pt_X3_29 {w : WX} {adr : Nat → Nat → Nat} {k : KX} {cc : ByteArray} {nL fr lo : Nat} {pc n : Nat} {lv : List (Nat × Value)} {st : List Value} {S : St} (C : Cx w adr k cc RX3 nL fr lo) {o : Nat} (ho : o < 7) {x : Int32} {f : St → Op} (hd : decode cc pc = .ok (.putfield 29, 3)) (hn : pc + 3 = n) (kk : ∀ S1 : St, Ge w adr k n lv st S1 (f S1)) : Ge w adr k pc lv (.int x :: .ref (adr 11 o) :: st) S (bs (wr S 11 o 2 x) f) := ge_putg (j := 2) (ty := .int) C (cl_11 ho) rfl rfl rfl (by decide) inX3z tyX3_ok nmX3 fl_X3_29 rfl (by decide +kernel) rfl rfl (Nat.le_of_ble_eq_true rfl) hd hn kk
theorem gt_X3_32 {w : WX} {adr : Nat → Nat → Nat} {k : KX} {cc : ByteArray} {nL fr lo : Nat} {pc n : Nat} {lv : List (Nat × Value)} {st : List Value} {S : St} {F : Op} (C : Cx w adr k cc RX3 nL fr lo) {o : Nat} (ho : o < 2) (hd : decode cc pc = .ok (.getfield 32, 3)) (hn : pc + 3 = n) (kk : Ge w adr k n lv (.ref (adr 5 o) :: st) S F) : Ge w adr k pc lv (.ref (adr 3 o) :: st) S F := ge_get (j := 5) C (cl_3 ho) rfl rfl (by decide) inX6z fl_X3_32 rfl hd hn kk
theorem gt_X4_11 {w : WX} {adr : Nat → Nat → Nat} {k : KX} {cc : ByteArray} {nL fr lo : Nat} {pc n : Nat} {lv : List (Nat × Value)} {st : List Value} {S : St} {F : Op} (C : Cx w adr k cc RX4 nL fr lo) {o : Nat} (ho : o < 1) (hd : decode cc pc = .ok (.getfield 11, 3)) (hn : pc + 3 = n) (kk : Ge w adr k n lv (.ref (adr 15 0) :: st) S F) : Ge w adr k pc lv (.ref (adr 14 o) :: st) S F := ge_get (j := 0) C (cl_14 ho) rfl rfl (by decide) inX4z fl_X4_11 rfl hd hn kk
theorem gt_X4_16 {w : WX} {adr : Nat → Nat → Nat} {k : KX} {cc : ByteArray} {nL fr lo : Nat} {pc n : Nat} {lv : List (Nat × Value)} {st : List Value} {S : St} {F : Op} (C : Cx w adr k cc RX4 nL fr lo) {o : Nat} (ho : o < 1) (hd : decode cc pc = .ok (.getfield 16, 3)) (hn : pc + 3 = n) (kk : Ge w adr k n lv (.ref (adr 16 0) :: st) S F) : Ge w adr k pc lv (.ref (adr 14 o) :: st) S F := ge_get (j := 3) C (cl_14 ho) rfl rfl (by decide) inX4z fl_X4_16 rfl hd hn kk
theorem gt_X4_19 {w : WX} {adr : Nat → Nat → Nat} {k : KX} {cc : ByteArray} {nL fr lo : Nat} {pc n : Nat} {lv : List (Nat × Value)} {st : List Value} {S : St} {F : Op} (C : Cx w adr k cc RX4 nL fr lo) {o : Nat} (ho : o < 1) (hd : decode cc pc = .ok (.getfield 19, 3)) (hn : pc + 3 = n) (kk : Ge w adr k n lv (.ref (adr 18 0) :: st) S F) : Ge w adr k pc lv (.ref (adr 14 o) :: st) S F := ge_get (j := 4) C (cl_14 ho) rfl rfl (by decide) inX4z fl_X4_19 rfl hd hn kk
theorem gt_X4_23 {w : WX} {adr : Nat → Nat → Nat} {k : KX} {cc : ByteArray} {nL fr lo : Nat} {pc n : Nat} {lv : List (Nat × Value)} {st : List Value} {S : St} {F : Op} (C : Cx w adr k cc RX4 nL fr lo) {o : Nat} (ho : o < 1) (hd : decode cc pc = .ok (.getfield 23, 3)) (hn : pc + 3 = n) (kk : Ge w adr k n lv (.int (S 14 o 1) :: st) S F) : Ge w adr k pc lv (.ref (adr 14 o) :: st) S F := ge_get (j := 1) C (cl_14 ho) rfl rfl (by decide) inX4z fl_X4_23 rfl hd hn kk
theorem pt_X4_23 {w : WX} {adr : Nat → Nat → Nat} {k : KX} {cc : ByteArray} {nL fr lo : Nat} {pc n : Nat} {lv : List (Nat × Value)} {st : List Value} {S : St} (C : Cx w adr k cc RX4 nL fr lo) {o : Nat} (ho : o < 1) {x : Int32} {f : St → Op} (hd : decode cc pc = .ok (.putfield 23, 3)) (hn : pc + 3 = n) (kk : ∀ S1 : St, Ge w adr k n lv st S1 (f S1)) : Ge w adr k pc lv (.int x :: .ref (adr 14 o) :: st) S (bs (wr S 14 o 1 x) f) := ge_putg (j := 1) (ty := .int) C (cl_14 ho) rfl rfl rfl (by decide) inX4z tyX4_ok nmX4 fl_X4_23 rfl (by decide +kernel) rfl rfl (Nat.le_of_ble_eq_true rfl) hd hn kk
theorem gt_X4_33 {w : WX} {adr : Nat → Nat → Nat} {k : KX} {cc : ByteArray} {nL fr lo : Nat} {pc n : Nat} {lv : List (Nat × Value)} {st : List Value} {S : St} {F : Op} (C : Cx w adr k cc RX4 nL fr lo) {o : Nat} (ho : o < 1) (hd : decode cc pc = .ok (.getfield 33, 3)) (hn : pc + 3 = n) (kk : Ge w adr k n lv (.int (S 14 o 2) :: st) S F) : Ge w adr k pc lv (.ref (adr 14 o) :: st) S F := ge_get (j := 2) C (cl_14 ho) rfl rfl (by decide) inX4z fl_X4_33 rfl hd hn kk
theorem pt_X4_33 {w : WX} {adr : Nat → Nat → Nat} {k : KX} {cc : ByteArray} {nL fr lo : Nat} {pc n : Nat} {lv : List (Nat × Value)} {st : List Value} {S : St} (C : Cx w adr k cc RX4 nL fr lo) {o : Nat} (ho : o < 1) {x : Int32} {f : St → Op} (hd : decode cc pc = .ok (.putfield 33, 3)) (hn : pc + 3 = n) (kk : ∀ S1 : St, Ge w adr k n lv st S1 (f S1)) : Ge w adr k pc lv (.int x :: .ref (adr 14 o) :: st) S (bs (wr S 14 o 2 x) f) := ge_putg (j := 2) (ty := .int) C (cl_14 ho) rfl rfl rfl (by decide) inX4z tyX4_ok nmX4 fl_X4_33 rfl (by decide +kernel) rfl rfl (Nat.le_of_ble_eq_true rfl) hd hn kk
theorem gt_X4_45 {w : WX} {adr : Nat → Nat → Nat} {k : KX} {cc : ByteArray} {nL fr lo : Nat} {pc n : Nat} {lv : List (Nat × Value)} {st : List Value} {S : St} {F : Op} (C : Cx w adr k cc RX4 nL fr lo) {o : Nat} (ho : o < 1) (hd : decode cc pc = .ok (.getfield 45, 3)) (hn : pc + 3 = n) (kk : Ge w adr k n lv (.int (S 14 o 5) :: st) S F) : Ge w adr k pc lv (.ref (adr 14 o) :: st) S F := ge_get (j := 5) C (cl_14 ho) rfl rfl (by decide) inX4z fl_X4_45 rfl hd hn kk
theorem pt_X4_45 {w : WX} {adr : Nat → Nat → Nat} {k : KX} {cc : ByteArray} {nL fr lo : Nat} {pc n : Nat} {lv : List (Nat × Value)} {st : List Value} {S : St} (C : Cx w adr k cc RX4 nL fr lo) {o : Nat} (ho : o < 1) {x : Int32} {f : St → Op} (hd : decode cc pc = .ok (.putfield 45, 3)) (hn : pc + 3 = n) (kk : ∀ S1 : St, Ge w adr k n lv st S1 (f S1)) : Ge w adr k pc lv (.int x :: .ref (adr 14 o) :: st) S (bs (wr S 14 o 5 x) f) := ge_putg (j := 5) (ty := .int) C (cl_14 ho) rfl rfl rfl (by decide) inX4z tyX4_ok nmX4 fl_X4_45 rfl (by decide +kernel) rfl rfl (Nat.le_of_ble_eq_true rfl) hd hn kk
theorem gt_X4_48 {w : WX} {adr : Nat → Nat → Nat} {k : KX} {cc : ByteArray} {nL fr lo : Nat} {pc n : Nat} {lv : List (Nat × Value)} {st : List Value} {S : St} {F : Op} (C : Cx w adr k cc RX4 nL fr lo) {o : Nat} (ho : o < 1) (hd : decode cc pc = .ok (.getfield 48, 3)) (hn : pc + 3 = n) (kk : Ge w adr k n lv (.int (S 19 o 0) :: st) S F) : Ge w adr k pc lv (.ref (adr 19 o) :: st) S F := ge_get (j := 0) C (cl_19 ho) rfl rfl (by decide) inX1z fl_X4_48 rfl hd hn kk
theorem pt_X4_48 {w : WX} {adr : Nat → Nat → Nat} {k : KX} {cc : ByteArray} {nL fr lo : Nat} {pc n : Nat} {lv : List (Nat × Value)} {st : List Value} {S : St} (C : Cx w adr k cc RX4 nL fr lo) {o : Nat} (ho : o < 1) {x : Int32} {f : St → Op} (hd : decode cc pc = .ok (.putfield 48, 3)) (hn : pc + 3 = n) (kk : ∀ S1 : St, Ge w adr k n lv st S1 (f S1)) : Ge w adr k pc lv (.int x :: .ref (adr 19 o) :: st) S (bs (wr S 19 o 0 x) f) := ge_putg (j := 0) (ty := .int) C (cl_19 ho) rfl rfl rfl (by decide) inX1z tyX1_ok nmX1 fl_X4_48 rfl (by decide +kernel) rfl rfl (Nat.le_of_ble_eq_true rfl) hd hn kk
theorem gt_X5_9 {w : WX} {adr : Nat → Nat → Nat} {k : KX} {cc : ByteArray} {nL fr lo : Nat} {pc n : Nat} {lv : List (Nat × Value)} {st : List Value} {S : St} {F : Op} (C : Cx w adr k cc RX5 nL fr lo) {o : Nat} (ho : o < 1) (hd : decode cc pc = .ok (.getfield 9, 3)) (hn : pc + 3 = n) (kk : Ge w adr k n lv (.ref (adr 32 0) :: st) S F) : Ge w adr k pc lv (.ref (adr 31 o) :: st) S F := ge_get (j := 0) C (cl_31 ho) rfl rfl (by decide) inX5z fl_X5_9 rfl hd hn kk
theorem gt_X5_15 {w : WX} {adr : Nat → Nat → Nat} {k : KX} {cc : ByteArray} {nL fr lo : Nat} {pc n : Nat} {lv : List (Nat × Value)} {st : List Value} {S : St} {F : Op} (C : Cx w adr k cc RX5 nL fr lo) {o : Nat} (ho : o < 1) (hd : decode cc pc = .ok (.getfield 15, 3)) (hn : pc + 3 = n) (kk : Ge w adr k n lv (.ref (adr 33 0) :: st) S F) : Ge w adr k pc lv (.ref (adr 31 o) :: st) S F := ge_get (j := 1) C (cl_31 ho) rfl rfl (by decide) inX5z fl_X5_15 rfl hd hn kk
theorem gt_X5_18 {w : WX} {adr : Nat → Nat → Nat} {k : KX} {cc : ByteArray} {nL fr lo : Nat} {pc n : Nat} {lv : List (Nat × Value)} {st : List Value} {S : St} {F : Op} (C : Cx w adr k cc RX5 nL fr lo) {o : Nat} (ho : o < 1) (hd : decode cc pc = .ok (.getfield 18, 3)) (hn : pc + 3 = n) (kk : Ge w adr k n lv (.ref (adr 34 0) :: st) S F) : Ge w adr k pc lv (.ref (adr 31 o) :: st) S F := ge_get (j := 2) C (cl_31 ho) rfl rfl (by decide) inX5z fl_X5_18 rfl hd hn kk
theorem gt_X6_9 {w : WX} {adr : Nat → Nat → Nat} {k : KX} {cc : ByteArray} {nL fr lo : Nat} {pc n : Nat} {lv : List (Nat × Value)} {st : List Value} {S : St} {F : Op} (C : Cx w adr k cc RX6 nL fr lo) {o : Nat} (ho : o < 2) (hd : decode cc pc = .ok (.getfield 9, 3)) (hn : pc + 3 = n) (kk : Ge w adr k n lv (.ref (adr 4 o) :: st) S F) : Ge w adr k pc lv (.ref (adr 3 o) :: st) S F := ge_get (j := 4) C (cl_3 ho) rfl rfl (by decide) inX6z fl_X6_9 rfl hd hn kk
theorem gt_X6_17 {w : WX} {adr : Nat → Nat → Nat} {k : KX} {cc : ByteArray} {nL fr lo : Nat} {pc n : Nat} {lv : List (Nat × Value)} {st : List Value} {S : St} {F : Op} (C : Cx w adr k cc RX6 nL fr lo) {o : Nat} (ho : o < 2) (hd : decode cc pc = .ok (.getfield 17, 3)) (hn : pc + 3 = n) (kk : Ge w adr k n lv (.ref (adr 5 o) :: st) S F) : Ge w adr k pc lv (.ref (adr 3 o) :: st) S F := ge_get (j := 5) C (cl_3 ho) rfl rfl (by decide) inX6z fl_X6_17 rfl hd hn kk
theorem gt_X6_20 {w : WX} {adr : Nat → Nat → Nat} {k : KX} {cc : ByteArray} {nL fr lo : Nat} {pc n : Nat} {lv : List (Nat × Value)} {st : List Value} {S : St} {F : Op} (C : Cx w adr k cc RX6 nL fr lo) {o : Nat} (ho : o < 2) (hd : decode cc pc = .ok (.getfield 20, 3)) (hn : pc + 3 = n) (kk : Ge w adr k n lv (.ref (adr 7 o) :: st) S F) : Ge w adr k pc lv (.ref (adr 3 o) :: st) S F := ge_get (j := 6) C (cl_3 ho) rfl rfl (by decide) inX6z fl_X6_20 rfl hd hn kk
theorem gt_X6_23 {w : WX} {adr : Nat → Nat → Nat} {k : KX} {cc : ByteArray} {nL fr lo : Nat} {pc n : Nat} {lv : List (Nat × Value)} {st : List Value} {S : St} {F : Op} (C : Cx w adr k cc RX6 nL fr lo) {o : Nat} (ho : o < 2) (hd : decode cc pc = .ok (.getfield 23, 3)) (hn : pc + 3 = n) (kk : Ge w adr k n lv (.ref (adr 8 o) :: st) S F) : Ge w adr k pc lv (.ref (adr 3 o) :: st) S F := ge_get (j := 7) C (cl_3 ho) rfl rfl (by decide) inX6z fl_X6_23 rfl hd hn kk
theorem gt_X6_26 {w : WX} {adr : Nat → Nat → Nat} {k : KX} {cc : ByteArray} {nL fr lo : Nat} {pc n : Nat} {lv : List (Nat × Value)} {st : List Value} {S : St} {F : Op} (C : Cx w adr k cc RX6 nL fr lo) {o : Nat} (ho : o < 2) (hd : decode cc pc = .ok (.getfield 26, 3)) (hn : pc + 3 = n) (kk : Ge w adr k n lv (.int (S 3 o 0) :: st) S F) : Ge w adr k pc lv (.ref (adr 3 o) :: st) S F := ge_get (j := 0) C (cl_3 ho) rfl rfl (by decide) inX6z fl_X6_26 rfl hd hn kk
theorem pt_X6_26 {w : WX} {adr : Nat → Nat → Nat} {k : KX} {cc : ByteArray} {nL fr lo : Nat} {pc n : Nat} {lv : List (Nat × Value)} {st : List Value} {S : St} (C : Cx w adr k cc RX6 nL fr lo) {o : Nat} (ho : o < 2) {x : Int32} {f : St → Op} (hd : decode cc pc = .ok (.putfield 26, 3)) (hn : pc + 3 = n) (kk : ∀ S1 : St, Ge w adr k n lv st S1 (f S1)) : Ge w adr k pc lv (.int x :: .ref (adr 3 o) :: st) S (bs (wr S 3 o 0 x) f) := ge_putg (j := 0) (ty := .int) C (cl_3 ho) rfl rfl rfl (by decide) inX6z tyX6_ok nmX6 fl_X6_26 rfl (by decide +kernel) rfl rfl (Nat.le_of_ble_eq_true rfl) hd hn kk
theorem gt_X6_30 {w : WX} {adr : Nat → Nat → Nat} {k : KX} {cc : ByteArray} {nL fr lo : Nat} {pc n : Nat} {lv : List (Nat × Value)} {st : List Value} {S : St} {F : Op} (C : Cx w adr k cc RX6 nL fr lo) {o : Nat} (ho : o < 2) (hd : decode cc pc = .ok (.getfield 30, 3)) (hn : pc + 3 = n) (kk : Ge w adr k n lv (.int (S 3 o 1) :: st) S F) : Ge w adr k pc lv (.ref (adr 3 o) :: st) S F := ge_get (j := 1) C (cl_3 ho) rfl rfl (by decide) inX6z fl_X6_30 rfl hd hn kk
theorem pt_X6_30 {w : WX} {adr : Nat → Nat → Nat} {k : KX} {cc : ByteArray} {nL fr lo : Nat} {pc n : Nat} {lv : List (Nat × Value)} {st : List Value} {S : St} (C : Cx w adr k cc RX6 nL fr lo) {o : Nat} (ho : o < 2) {x : Int32} {f : St → Op} (hd : decode cc pc = .ok (.putfield 30, 3)) (hn : pc + 3 = n) (kk : ∀ S1 : St, Ge w adr k n lv st S1 (f S1)) : Ge w adr k pc lv (.int x :: .ref (adr 3 o) :: st) S (bs (wr S 3 o 1 x) f) := ge_putg (j := 1) (ty := .int) C (cl_3 ho) rfl rfl rfl (by decide) inX6z tyX6_ok nmX6 fl_X6_30 rfl (by decide +kernel) rfl rfl (Nat.le_of_ble_eq_true rfl) hd hn kk
theorem gt_X6_33 {w : WX} {adr : Nat → Nat → Nat} {k : KX} {cc : ByteArray} {nL fr lo : Nat} {pc n : Nat} {lv : List (Nat × Value)} {st : List Value} {S : St} {F : Op} (C : Cx w adr k cc RX6 nL fr lo) {o : Nat} (ho : o < 2) (hd : decode cc pc = .ok (.getfield 33, 3)) (hn : pc + 3 = n) (kk : Ge w adr k n lv (.int (S 3 o 2) :: st) S F) : Ge w adr k pc lv (.ref (adr 3 o) :: st) S F := ge_get (j := 2) C (cl_3 ho) rfl rfl (by decide) inX6z fl_X6_33 rfl hd hn kk
theorem pt_X6_33 {w : WX} {adr : Nat → Nat → Nat} {k : KX} {cc : ByteArray} {nL fr lo : Nat} {pc n : Nat} {lv : List (Nat × Value)} {st : List Value} {S : St} (C : Cx w adr k cc RX6 nL fr lo) {o : Nat} (ho : o < 2) {x : Int32} {f : St → Op} (hd : decode cc pc = .ok (.putfield 33, 3)) (hn : pc + 3 = n) (kk : ∀ S1 : St, Ge w adr k n lv st S1 (f S1)) : Ge w adr k pc lv (.int x :: .ref (adr 3 o) :: st) S (bs (wr S 3 o 2 x) f) := ge_putg (j := 2) (ty := .int) C (cl_3 ho) rfl rfl rfl (by decide) inX6z tyX6_ok nmX6 fl_X6_33 rfl (by decide +kernel) rfl rfl (Nat.le_of_ble_eq_true rfl) hd hn kk
theorem gt_X6_36 {w : WX} {adr : Nat → Nat → Nat} {k : KX} {cc : ByteArray} {nL fr lo : Nat} {pc n : Nat} {lv : List (Nat × Value)} {st : List Value} {S : St} {F : Op} (C : Cx w adr k cc RX6 nL fr lo) {o : Nat} (ho : o < 2) (hd : decode cc pc = .ok (.getfield 36, 3)) (hn : pc + 3 = n) (kk : Ge w adr k n lv (.int (S 3 o 3) :: st) S F) : Ge w adr k pc lv (.ref (adr 3 o) :: st) S F := ge_get (j := 3) C (cl_3 ho) rfl rfl (by decide) inX6z fl_X6_36 rfl hd hn kk
theorem pt_X6_36 {w : WX} {adr : Nat → Nat → Nat} {k : KX} {cc : ByteArray} {nL fr lo : Nat} {pc n : Nat} {lv : List (Nat × Value)} {st : List Value} {S : St} (C : Cx w adr k cc RX6 nL fr lo) {o : Nat} (ho : o < 2) {x : Int32} {f : St → Op} (hd : decode cc pc = .ok (.putfield 36, 3)) (hn : pc + 3 = n) (kk : ∀ S1 : St, Ge w adr k n lv st S1 (f S1)) : Ge w adr k pc lv (.int x :: .ref (adr 3 o) :: st) S (bs (wr S 3 o 3 x) f) := ge_putg (j := 3) (ty := .int) C (cl_3 ho) rfl rfl rfl (by decide) inX6z tyX6_ok nmX6 fl_X6_36 rfl (by decide +kernel) rfl rfl (Nat.le_of_ble_eq_true rfl) hd hn kk
theorem gt_X6_39 {w : WX} {adr : Nat → Nat → Nat} {k : KX} {cc : ByteArray} {nL fr lo : Nat} {pc n : Nat} {lv : List (Nat × Value)} {st : List Value} {S : St} {F : Op} (C : Cx w adr k cc RX6 nL fr lo) {o : Nat} (ho : o < 7) (hd : decode cc pc = .ok (.getfield 39, 3)) (hn : pc + 3 = n) (kk : Ge w adr k n lv (.ref (adr 12 o) :: st) S F) : Ge w adr k pc lv (.ref (adr 11 o) :: st) S F := ge_get (j := 3) C (cl_11 ho) rfl rfl (by decide) inX3z fl_X6_39 rfl hd hn kk
theorem gt_X6_43 {w : WX} {adr : Nat → Nat → Nat} {k : KX} {cc : ByteArray} {nL fr lo : Nat} {pc n : Nat} {lv : List (Nat × Value)} {st : List Value} {S : St} {F : Op} (C : Cx w adr k cc RX6 nL fr lo) {o : Nat} (ho : o < 7) (hd : decode cc pc = .ok (.getfield 43, 3)) (hn : pc + 3 = n) (kk : Ge w adr k n lv (.ref (adr 13 o) :: st) S F) : Ge w adr k pc lv (.ref (adr 11 o) :: st) S F := ge_get (j := 4) C (cl_11 ho) rfl rfl (by decide) inX3z fl_X6_43 rfl hd hn kk
theorem gt_X7_11 {w : WX} {adr : Nat → Nat → Nat} {k : KX} {cc : ByteArray} {nL fr lo : Nat} {pc n : Nat} {lv : List (Nat × Value)} {st : List Value} {S : St} {F : Op} (C : Cx w adr k cc RX7 nL fr lo) {o : Nat} (ho : o < 1) (hd : decode cc pc = .ok (.getfield 11, 3)) (hn : pc + 3 = n) (kk : Ge w adr k n lv (.ref (adr 10 0) :: st) S F) : Ge w adr k pc lv (.ref (adr 9 o) :: st) S F := ge_get (j := 4) C (cl_9 ho) rfl rfl (by decide) inX7z fl_X7_11 rfl hd hn kk
theorem gt_X7_17 {w : WX} {adr : Nat → Nat → Nat} {k : KX} {cc : ByteArray} {nL fr lo : Nat} {pc n : Nat} {lv : List (Nat × Value)} {st : List Value} {S : St} {F : Op} (C : Cx w adr k cc RX7 nL fr lo) {o : Nat} (ho : o < 1) (hd : decode cc pc = .ok (.getfield 17, 3)) (hn : pc + 3 = n) (kk : Ge w adr k n lv (.ref (adr 3 (pid (S 9 o 0))) :: st) S F) : Ge w adr k pc lv (.ref (adr 9 o) :: st) S F := ge_get (j := 0) C (cl_9 ho) rfl rfl (by decide) inX7z fl_X7_17 rfl hd hn kk
theorem pt_X7_17 {w : WX} {adr : Nat → Nat → Nat} {k : KX} {cc : ByteArray} {nL fr lo : Nat} {pc n : Nat} {lv : List (Nat × Value)} {st : List Value} {S : St} (C : Cx w adr k cc RX7 nL fr lo) {o : Nat} (ho : o < 1) {q : Nat} (hq : q < 2) {f : St → Op} (hd : decode cc pc = .ok (.putfield 17, 3)) (hn : pc + 3 = n) (kk : ∀ S1 : St, Ge w adr k n lv st S1 (f S1)) : Ge w adr k pc lv (.ref (adr 3 q) :: .ref (adr 9 o) :: st) S (bs (wr S 9 o 0 (uid q)) f) := by
  refine ge_putg (j := 0) (ty := .object "TannedMen$Plan") C (cl_9 ho) rfl ?_ rfl (by decide) inX7z tyX7_ok nmX7 fl_X7_17 rfl (by decide +kernel) rfl rfl (Nat.le_of_ble_eq_true rfl) hd hn kk
  show (Sum.inr (7, [.ref (adr 3 (pid (upd (S 9 o) 0 (uid q) 0))), .int (upd (S 9 o) 0 (uid q) 1), .int (upd (S 9 o) 0 (uid q) 2), .int (upd (S 9 o) 0 (uid q) 3), .ref (adr 10 0)]) : va_E) = Sum.inr (7, [.ref (adr 3 q), .int (S 9 o 1), .int (S 9 o 2), .int (S 9 o 3), .ref (adr 10 0)])
  have e : upd (S 9 o) 0 (uid q) 0 = uid q := if_pos rfl
  rw [e, pid_uid hq]
  rfl
theorem gt_X7_22 {w : WX} {adr : Nat → Nat → Nat} {k : KX} {cc : ByteArray} {nL fr lo : Nat} {pc n : Nat} {lv : List (Nat × Value)} {st : List Value} {S : St} {F : Op} (C : Cx w adr k cc RX7 nL fr lo) {o : Nat} (ho : o < 1) (hd : decode cc pc = .ok (.getfield 22, 3)) (hn : pc + 3 = n) (kk : Ge w adr k n lv (.int (S 9 o 1) :: st) S F) : Ge w adr k pc lv (.ref (adr 9 o) :: st) S F := ge_get (j := 1) C (cl_9 ho) rfl rfl (by decide) inX7z fl_X7_22 rfl hd hn kk
theorem pt_X7_22 {w : WX} {adr : Nat → Nat → Nat} {k : KX} {cc : ByteArray} {nL fr lo : Nat} {pc n : Nat} {lv : List (Nat × Value)} {st : List Value} {S : St} (C : Cx w adr k cc RX7 nL fr lo) {o : Nat} (ho : o < 1) {x : Int32} {f : St → Op} (hd : decode cc pc = .ok (.putfield 22, 3)) (hn : pc + 3 = n) (kk : ∀ S1 : St, Ge w adr k n lv st S1 (f S1)) : Ge w adr k pc lv (.int x :: .ref (adr 9 o) :: st) S (bs (wr S 9 o 1 x) f) := ge_putg (j := 1) (ty := .int) C (cl_9 ho) rfl rfl rfl (by decide) inX7z tyX7_ok nmX7 fl_X7_22 rfl (by decide +kernel) rfl rfl (Nat.le_of_ble_eq_true rfl) hd hn kk
theorem gt_X7_26 {w : WX} {adr : Nat → Nat → Nat} {k : KX} {cc : ByteArray} {nL fr lo : Nat} {pc n : Nat} {lv : List (Nat × Value)} {st : List Value} {S : St} {F : Op} (C : Cx w adr k cc RX7 nL fr lo) {o : Nat} (ho : o < 2) (hd : decode cc pc = .ok (.getfield 26, 3)) (hn : pc + 3 = n) (kk : Ge w adr k n lv (.int (S 3 o 1) :: st) S F) : Ge w adr k pc lv (.ref (adr 3 o) :: st) S F := ge_get (j := 1) C (cl_3 ho) rfl rfl (by decide) inX6z fl_X7_26 rfl hd hn kk
theorem pt_X7_26 {w : WX} {adr : Nat → Nat → Nat} {k : KX} {cc : ByteArray} {nL fr lo : Nat} {pc n : Nat} {lv : List (Nat × Value)} {st : List Value} {S : St} (C : Cx w adr k cc RX7 nL fr lo) {o : Nat} (ho : o < 2) {x : Int32} {f : St → Op} (hd : decode cc pc = .ok (.putfield 26, 3)) (hn : pc + 3 = n) (kk : ∀ S1 : St, Ge w adr k n lv st S1 (f S1)) : Ge w adr k pc lv (.int x :: .ref (adr 3 o) :: st) S (bs (wr S 3 o 1 x) f) := ge_putg (j := 1) (ty := .int) C (cl_3 ho) rfl rfl rfl (by decide) inX6z tyX6_ok nmX6 fl_X7_26 rfl (by decide +kernel) rfl rfl (Nat.le_of_ble_eq_true rfl) hd hn kk
theorem gt_X7_31 {w : WX} {adr : Nat → Nat → Nat} {k : KX} {cc : ByteArray} {nL fr lo : Nat} {pc n : Nat} {lv : List (Nat × Value)} {st : List Value} {S : St} {F : Op} (C : Cx w adr k cc RX7 nL fr lo) {o : Nat} (ho : o < 1) (hd : decode cc pc = .ok (.getfield 31, 3)) (hn : pc + 3 = n) (kk : Ge w adr k n lv (.int (S 9 o 2) :: st) S F) : Ge w adr k pc lv (.ref (adr 9 o) :: st) S F := ge_get (j := 2) C (cl_9 ho) rfl rfl (by decide) inX7z fl_X7_31 rfl hd hn kk
theorem pt_X7_31 {w : WX} {adr : Nat → Nat → Nat} {k : KX} {cc : ByteArray} {nL fr lo : Nat} {pc n : Nat} {lv : List (Nat × Value)} {st : List Value} {S : St} (C : Cx w adr k cc RX7 nL fr lo) {o : Nat} (ho : o < 1) {x : Int32} {f : St → Op} (hd : decode cc pc = .ok (.putfield 31, 3)) (hn : pc + 3 = n) (kk : ∀ S1 : St, Ge w adr k n lv st S1 (f S1)) : Ge w adr k pc lv (.int x :: .ref (adr 9 o) :: st) S (bs (wr S 9 o 2 x) f) := ge_putg (j := 2) (ty := .int) C (cl_9 ho) rfl rfl rfl (by decide) inX7z tyX7_ok nmX7 fl_X7_31 rfl (by decide +kernel) rfl rfl (Nat.le_of_ble_eq_true rfl) hd hn kk
theorem gt_X7_32 {w : WX} {adr : Nat → Nat → Nat} {k : KX} {cc : ByteArray} {nL fr lo : Nat} {pc n : Nat} {lv : List (Nat × Value)} {st : List Value} {S : St} {F : Op} (C : Cx w adr k cc RX7 nL fr lo) {o : Nat} (ho : o < 1) (hd : decode cc pc = .ok (.getfield 32, 3)) (hn : pc + 3 = n) (kk : Ge w adr k n lv (.int (S 9 o 3) :: st) S F) : Ge w adr k pc lv (.ref (adr 9 o) :: st) S F := ge_get (j := 3) C (cl_9 ho) rfl rfl (by decide) inX7z fl_X7_32 rfl hd hn kk
theorem pt_X7_32 {w : WX} {adr : Nat → Nat → Nat} {k : KX} {cc : ByteArray} {nL fr lo : Nat} {pc n : Nat} {lv : List (Nat × Value)} {st : List Value} {S : St} (C : Cx w adr k cc RX7 nL fr lo) {o : Nat} (ho : o < 1) {x : Int32} {f : St → Op} (hd : decode cc pc = .ok (.putfield 32, 3)) (hn : pc + 3 = n) (kk : ∀ S1 : St, Ge w adr k n lv st S1 (f S1)) : Ge w adr k pc lv (.int x :: .ref (adr 9 o) :: st) S (bs (wr S 9 o 3 x) f) := ge_putg (j := 3) (ty := .int) C (cl_9 ho) rfl rfl rfl (by decide) inX7z tyX7_ok nmX7 fl_X7_32 rfl (by decide +kernel) rfl rfl (Nat.le_of_ble_eq_true rfl) hd hn kk
theorem gt_X7_35 {w : WX} {adr : Nat → Nat → Nat} {k : KX} {cc : ByteArray} {nL fr lo : Nat} {pc n : Nat} {lv : List (Nat × Value)} {st : List Value} {S : St} {F : Op} (C : Cx w adr k cc RX7 nL fr lo) {o : Nat} (ho : o < 2) (hd : decode cc pc = .ok (.getfield 35, 3)) (hn : pc + 3 = n) (kk : Ge w adr k n lv (.int (S 3 o 2) :: st) S F) : Ge w adr k pc lv (.ref (adr 3 o) :: st) S F := ge_get (j := 2) C (cl_3 ho) rfl rfl (by decide) inX6z fl_X7_35 rfl hd hn kk
theorem pt_X7_35 {w : WX} {adr : Nat → Nat → Nat} {k : KX} {cc : ByteArray} {nL fr lo : Nat} {pc n : Nat} {lv : List (Nat × Value)} {st : List Value} {S : St} (C : Cx w adr k cc RX7 nL fr lo) {o : Nat} (ho : o < 2) {x : Int32} {f : St → Op} (hd : decode cc pc = .ok (.putfield 35, 3)) (hn : pc + 3 = n) (kk : ∀ S1 : St, Ge w adr k n lv st S1 (f S1)) : Ge w adr k pc lv (.int x :: .ref (adr 3 o) :: st) S (bs (wr S 3 o 2 x) f) := ge_putg (j := 2) (ty := .int) C (cl_3 ho) rfl rfl rfl (by decide) inX6z tyX6_ok nmX6 fl_X7_35 rfl (by decide +kernel) rfl rfl (Nat.le_of_ble_eq_true rfl) hd hn kk
theorem gt_X7_41 {w : WX} {adr : Nat → Nat → Nat} {k : KX} {cc : ByteArray} {nL fr lo : Nat} {pc n : Nat} {lv : List (Nat × Value)} {st : List Value} {S : St} {F : Op} (C : Cx w adr k cc RX7 nL fr lo) {o : Nat} (ho : o < 7) (hd : decode cc pc = .ok (.getfield 41, 3)) (hn : pc + 3 = n) (kk : Ge w adr k n lv (.int (S 11 o 1) :: st) S F) : Ge w adr k pc lv (.ref (adr 11 o) :: st) S F := ge_get (j := 1) C (cl_11 ho) rfl rfl (by decide) inX3z fl_X7_41 rfl hd hn kk
theorem pt_X7_41 {w : WX} {adr : Nat → Nat → Nat} {k : KX} {cc : ByteArray} {nL fr lo : Nat} {pc n : Nat} {lv : List (Nat × Value)} {st : List Value} {S : St} (C : Cx w adr k cc RX7 nL fr lo) {o : Nat} (ho : o < 7) {x : Int32} {f : St → Op} (hd : decode cc pc = .ok (.putfield 41, 3)) (hn : pc + 3 = n) (kk : ∀ S1 : St, Ge w adr k n lv st S1 (f S1)) : Ge w adr k pc lv (.int x :: .ref (adr 11 o) :: st) S (bs (wr S 11 o 1 x) f) := ge_putg (j := 1) (ty := .int) C (cl_11 ho) rfl rfl rfl (by decide) inX3z tyX3_ok nmX3 fl_X7_41 rfl (by decide +kernel) rfl rfl (Nat.le_of_ble_eq_true rfl) hd hn kk
theorem gt_X7_48 {w : WX} {adr : Nat → Nat → Nat} {k : KX} {cc : ByteArray} {nL fr lo : Nat} {pc n : Nat} {lv : List (Nat × Value)} {st : List Value} {S : St} {F : Op} (C : Cx w adr k cc RX7 nL fr lo) {o : Nat} (ho : o < 2) (hd : decode cc pc = .ok (.getfield 48, 3)) (hn : pc + 3 = n) (kk : Ge w adr k n lv (.int (S 3 o 0) :: st) S F) : Ge w adr k pc lv (.ref (adr 3 o) :: st) S F := ge_get (j := 0) C (cl_3 ho) rfl rfl (by decide) inX6z fl_X7_48 rfl hd hn kk
theorem pt_X7_48 {w : WX} {adr : Nat → Nat → Nat} {k : KX} {cc : ByteArray} {nL fr lo : Nat} {pc n : Nat} {lv : List (Nat × Value)} {st : List Value} {S : St} (C : Cx w adr k cc RX7 nL fr lo) {o : Nat} (ho : o < 2) {x : Int32} {f : St → Op} (hd : decode cc pc = .ok (.putfield 48, 3)) (hn : pc + 3 = n) (kk : ∀ S1 : St, Ge w adr k n lv st S1 (f S1)) : Ge w adr k pc lv (.int x :: .ref (adr 3 o) :: st) S (bs (wr S 3 o 0 x) f) := ge_putg (j := 0) (ty := .int) C (cl_3 ho) rfl rfl rfl (by decide) inX6z tyX6_ok nmX6 fl_X7_48 rfl (by decide +kernel) rfl rfl (Nat.le_of_ble_eq_true rfl) hd hn kk
theorem gt_X7_61 {w : WX} {adr : Nat → Nat → Nat} {k : KX} {cc : ByteArray} {nL fr lo : Nat} {pc n : Nat} {lv : List (Nat × Value)} {st : List Value} {S : St} {F : Op} (C : Cx w adr k cc RX7 nL fr lo) {o : Nat} (ho : o < 7) (hd : decode cc pc = .ok (.getfield 61, 3)) (hn : pc + 3 = n) (kk : Ge w adr k n lv (.int (S 11 o 2) :: st) S F) : Ge w adr k pc lv (.ref (adr 11 o) :: st) S F := ge_get (j := 2) C (cl_11 ho) rfl rfl (by decide) inX3z fl_X7_61 rfl hd hn kk
theorem pt_X7_61 {w : WX} {adr : Nat → Nat → Nat} {k : KX} {cc : ByteArray} {nL fr lo : Nat} {pc n : Nat} {lv : List (Nat × Value)} {st : List Value} {S : St} (C : Cx w adr k cc RX7 nL fr lo) {o : Nat} (ho : o < 7) {x : Int32} {f : St → Op} (hd : decode cc pc = .ok (.putfield 61, 3)) (hn : pc + 3 = n) (kk : ∀ S1 : St, Ge w adr k n lv st S1 (f S1)) : Ge w adr k pc lv (.int x :: .ref (adr 11 o) :: st) S (bs (wr S 11 o 2 x) f) := ge_putg (j := 2) (ty := .int) C (cl_11 ho) rfl rfl rfl (by decide) inX3z tyX3_ok nmX3 fl_X7_61 rfl (by decide +kernel) rfl rfl (Nat.le_of_ble_eq_true rfl) hd hn kk
theorem gt_X7_64 {w : WX} {adr : Nat → Nat → Nat} {k : KX} {cc : ByteArray} {nL fr lo : Nat} {pc n : Nat} {lv : List (Nat × Value)} {st : List Value} {S : St} {F : Op} (C : Cx w adr k cc RX7 nL fr lo) {o : Nat} (ho : o < 7) (hd : decode cc pc = .ok (.getfield 64, 3)) (hn : pc + 3 = n) (kk : Ge w adr k n lv (.ref (adr 12 o) :: st) S F) : Ge w adr k pc lv (.ref (adr 11 o) :: st) S F := ge_get (j := 3) C (cl_11 ho) rfl rfl (by decide) inX3z fl_X7_64 rfl hd hn kk
theorem gt_X7_88 {w : WX} {adr : Nat → Nat → Nat} {k : KX} {cc : ByteArray} {nL fr lo : Nat} {pc n : Nat} {lv : List (Nat × Value)} {st : List Value} {S : St} {F : Op} (C : Cx w adr k cc RX7 nL fr lo) {o : Nat} (ho : o < 2) (hd : decode cc pc = .ok (.getfield 88, 3)) (hn : pc + 3 = n) (kk : Ge w adr k n lv (.int (S 3 o 3) :: st) S F) : Ge w adr k pc lv (.ref (adr 3 o) :: st) S F := ge_get (j := 3) C (cl_3 ho) rfl rfl (by decide) inX6z fl_X7_88 rfl hd hn kk
theorem pt_X7_88 {w : WX} {adr : Nat → Nat → Nat} {k : KX} {cc : ByteArray} {nL fr lo : Nat} {pc n : Nat} {lv : List (Nat × Value)} {st : List Value} {S : St} (C : Cx w adr k cc RX7 nL fr lo) {o : Nat} (ho : o < 2) {x : Int32} {f : St → Op} (hd : decode cc pc = .ok (.putfield 88, 3)) (hn : pc + 3 = n) (kk : ∀ S1 : St, Ge w adr k n lv st S1 (f S1)) : Ge w adr k pc lv (.int x :: .ref (adr 3 o) :: st) S (bs (wr S 3 o 3 x) f) := ge_putg (j := 3) (ty := .int) C (cl_3 ho) rfl rfl rfl (by decide) inX6z tyX6_ok nmX6 fl_X7_88 rfl (by decide +kernel) rfl rfl (Nat.le_of_ble_eq_true rfl) hd hn kk
theorem gt_X7_111 {w : WX} {adr : Nat → Nat → Nat} {k : KX} {cc : ByteArray} {nL fr lo : Nat} {pc n : Nat} {lv : List (Nat × Value)} {st : List Value} {S : St} {F : Op} (C : Cx w adr k cc RX7 nL fr lo) {o : Nat} (ho : o < 7) (hd : decode cc pc = .ok (.getfield 111, 3)) (hn : pc + 3 = n) (kk : Ge w adr k n lv (.ref (adr 13 o) :: st) S F) : Ge w adr k pc lv (.ref (adr 11 o) :: st) S F := ge_get (j := 4) C (cl_11 ho) rfl rfl (by decide) inX3z fl_X7_111 rfl hd hn kk
theorem gt_X8_9 {w : WX} {adr : Nat → Nat → Nat} {k : KX} {cc : ByteArray} {nL fr lo : Nat} {pc n : Nat} {lv : List (Nat × Value)} {st : List Value} {S : St} {F : Op} (C : Cx w adr k cc RX8 nL fr lo) {o : Nat} (ho : o < 1) (hd : decode cc pc = .ok (.getfield 9, 3)) (hn : pc + 3 = n) (kk : Ge w adr k n lv (.ref (adr 2 0) :: st) S F) : Ge w adr k pc lv (.ref (adr 1 o) :: st) S F := ge_get (j := 0) C (cl_1 ho) rfl rfl (by decide) inX8z fl_X8_9 rfl hd hn kk
theorem gt_X8_15 {w : WX} {adr : Nat → Nat → Nat} {k : KX} {cc : ByteArray} {nL fr lo : Nat} {pc n : Nat} {lv : List (Nat × Value)} {st : List Value} {S : St} {F : Op} (C : Cx w adr k cc RX8 nL fr lo) {o : Nat} (ho : o < 1) (hd : decode cc pc = .ok (.getfield 15, 3)) (hn : pc + 3 = n) (kk : Ge w adr k n lv (.int (S 1 o 4) :: st) S F) : Ge w adr k pc lv (.ref (adr 1 o) :: st) S F := ge_get (j := 4) C (cl_1 ho) rfl rfl (by decide) inX8z fl_X8_15 rfl hd hn kk
theorem pt_X8_15 {w : WX} {adr : Nat → Nat → Nat} {k : KX} {cc : ByteArray} {nL fr lo : Nat} {pc n : Nat} {lv : List (Nat × Value)} {st : List Value} {S : St} (C : Cx w adr k cc RX8 nL fr lo) {o : Nat} (ho : o < 1) {x : Int32} {f : St → Op} (hd : decode cc pc = .ok (.putfield 15, 3)) (hn : pc + 3 = n) (kk : ∀ S1 : St, Ge w adr k n lv st S1 (f S1)) : Ge w adr k pc lv (.int x :: .ref (adr 1 o) :: st) S (bs (wr S 1 o 4 x) f) := ge_putg (j := 4) (ty := .int) C (cl_1 ho) rfl rfl rfl (by decide) inX8z tyX8_ok nmX8 fl_X8_15 rfl (by decide +kernel) rfl rfl (Nat.le_of_ble_eq_true rfl) hd hn kk
theorem gt_X8_19 {w : WX} {adr : Nat → Nat → Nat} {k : KX} {cc : ByteArray} {nL fr lo : Nat} {pc n : Nat} {lv : List (Nat × Value)} {st : List Value} {S : St} {F : Op} (C : Cx w adr k cc RX8 nL fr lo) {o : Nat} (ho : o < 1) (hd : decode cc pc = .ok (.getfield 19, 3)) (hn : pc + 3 = n) (kk : Ge w adr k n lv (.int (S 1 o 1) :: st) S F) : Ge w adr k pc lv (.ref (adr 1 o) :: st) S F := ge_get (j := 1) C (cl_1 ho) rfl rfl (by decide) inX8z fl_X8_19 rfl hd hn kk
theorem pt_X8_19 {w : WX} {adr : Nat → Nat → Nat} {k : KX} {cc : ByteArray} {nL fr lo : Nat} {pc n : Nat} {lv : List (Nat × Value)} {st : List Value} {S : St} (C : Cx w adr k cc RX8 nL fr lo) {o : Nat} (ho : o < 1) {x : Int32} {f : St → Op} (hd : decode cc pc = .ok (.putfield 19, 3)) (hn : pc + 3 = n) (kk : ∀ S1 : St, Ge w adr k n lv st S1 (f S1)) : Ge w adr k pc lv (.int x :: .ref (adr 1 o) :: st) S (bs (wr S 1 o 1 x) f) := ge_putg (j := 1) (ty := .int) C (cl_1 ho) rfl rfl rfl (by decide) inX8z tyX8_ok nmX8 fl_X8_19 rfl (by decide +kernel) rfl rfl (Nat.le_of_ble_eq_true rfl) hd hn kk
theorem gt_X8_27 {w : WX} {adr : Nat → Nat → Nat} {k : KX} {cc : ByteArray} {nL fr lo : Nat} {pc n : Nat} {lv : List (Nat × Value)} {st : List Value} {S : St} {F : Op} (C : Cx w adr k cc RX8 nL fr lo) {o : Nat} (ho : o < 1) (hd : decode cc pc = .ok (.getfield 27, 3)) (hn : pc + 3 = n) (kk : Ge w adr k n lv (.int (S 1 o 2) :: st) S F) : Ge w adr k pc lv (.ref (adr 1 o) :: st) S F := ge_get (j := 2) C (cl_1 ho) rfl rfl (by decide) inX8z fl_X8_27 rfl hd hn kk
theorem pt_X8_27 {w : WX} {adr : Nat → Nat → Nat} {k : KX} {cc : ByteArray} {nL fr lo : Nat} {pc n : Nat} {lv : List (Nat × Value)} {st : List Value} {S : St} (C : Cx w adr k cc RX8 nL fr lo) {o : Nat} (ho : o < 1) {x : Int32} {f : St → Op} (hd : decode cc pc = .ok (.putfield 27, 3)) (hn : pc + 3 = n) (kk : ∀ S1 : St, Ge w adr k n lv st S1 (f S1)) : Ge w adr k pc lv (.int x :: .ref (adr 1 o) :: st) S (bs (wr S 1 o 2 x) f) := ge_putg (j := 2) (ty := .int) C (cl_1 ho) rfl rfl rfl (by decide) inX8z tyX8_ok nmX8 fl_X8_27 rfl (by decide +kernel) rfl rfl (Nat.le_of_ble_eq_true rfl) hd hn kk
theorem gt_X8_30 {w : WX} {adr : Nat → Nat → Nat} {k : KX} {cc : ByteArray} {nL fr lo : Nat} {pc n : Nat} {lv : List (Nat × Value)} {st : List Value} {S : St} {F : Op} (C : Cx w adr k cc RX8 nL fr lo) {o : Nat} (ho : o < 1) (hd : decode cc pc = .ok (.getfield 30, 3)) (hn : pc + 3 = n) (kk : Ge w adr k n lv (.int (S 1 o 3) :: st) S F) : Ge w adr k pc lv (.ref (adr 1 o) :: st) S F := ge_get (j := 3) C (cl_1 ho) rfl rfl (by decide) inX8z fl_X8_30 rfl hd hn kk
theorem pt_X8_30 {w : WX} {adr : Nat → Nat → Nat} {k : KX} {cc : ByteArray} {nL fr lo : Nat} {pc n : Nat} {lv : List (Nat × Value)} {st : List Value} {S : St} (C : Cx w adr k cc RX8 nL fr lo) {o : Nat} (ho : o < 1) {x : Int32} {f : St → Op} (hd : decode cc pc = .ok (.putfield 30, 3)) (hn : pc + 3 = n) (kk : ∀ S1 : St, Ge w adr k n lv st S1 (f S1)) : Ge w adr k pc lv (.int x :: .ref (adr 1 o) :: st) S (bs (wr S 1 o 3 x) f) := ge_putg (j := 3) (ty := .int) C (cl_1 ho) rfl rfl rfl (by decide) inX8z tyX8_ok nmX8 fl_X8_30 rfl (by decide +kernel) rfl rfl (Nat.le_of_ble_eq_true rfl) hd hn kk
theorem gt_X8_69 {w : WX} {adr : Nat → Nat → Nat} {k : KX} {cc : ByteArray} {nL fr lo : Nat} {pc n : Nat} {lv : List (Nat × Value)} {st : List Value} {S : St} {F : Op} (C : Cx w adr k cc RX8 nL fr lo) {o : Nat} (ho : o < 2) (hd : decode cc pc = .ok (.getfield 69, 3)) (hn : pc + 3 = n) (kk : Ge w adr k n lv (.int (S 3 o 2) :: st) S F) : Ge w adr k pc lv (.ref (adr 3 o) :: st) S F := ge_get (j := 2) C (cl_3 ho) rfl rfl (by decide) inX6z fl_X8_69 rfl hd hn kk
theorem pt_X8_69 {w : WX} {adr : Nat → Nat → Nat} {k : KX} {cc : ByteArray} {nL fr lo : Nat} {pc n : Nat} {lv : List (Nat × Value)} {st : List Value} {S : St} (C : Cx w adr k cc RX8 nL fr lo) {o : Nat} (ho : o < 2) {x : Int32} {f : St → Op} (hd : decode cc pc = .ok (.putfield 69, 3)) (hn : pc + 3 = n) (kk : ∀ S1 : St, Ge w adr k n lv st S1 (f S1)) : Ge w adr k pc lv (.int x :: .ref (adr 3 o) :: st) S (bs (wr S 3 o 2 x) f) := ge_putg (j := 2) (ty := .int) C (cl_3 ho) rfl rfl rfl (by decide) inX6z tyX6_ok nmX6 fl_X8_69 rfl (by decide +kernel) rfl rfl (Nat.le_of_ble_eq_true rfl) hd hn kk
theorem gt_X8_72 {w : WX} {adr : Nat → Nat → Nat} {k : KX} {cc : ByteArray} {nL fr lo : Nat} {pc n : Nat} {lv : List (Nat × Value)} {st : List Value} {S : St} {F : Op} (C : Cx w adr k cc RX8 nL fr lo) {o : Nat} (ho : o < 2) (hd : decode cc pc = .ok (.getfield 72, 3)) (hn : pc + 3 = n) (kk : Ge w adr k n lv (.int (S 3 o 3) :: st) S F) : Ge w adr k pc lv (.ref (adr 3 o) :: st) S F := ge_get (j := 3) C (cl_3 ho) rfl rfl (by decide) inX6z fl_X8_72 rfl hd hn kk
theorem pt_X8_72 {w : WX} {adr : Nat → Nat → Nat} {k : KX} {cc : ByteArray} {nL fr lo : Nat} {pc n : Nat} {lv : List (Nat × Value)} {st : List Value} {S : St} (C : Cx w adr k cc RX8 nL fr lo) {o : Nat} (ho : o < 2) {x : Int32} {f : St → Op} (hd : decode cc pc = .ok (.putfield 72, 3)) (hn : pc + 3 = n) (kk : ∀ S1 : St, Ge w adr k n lv st S1 (f S1)) : Ge w adr k pc lv (.int x :: .ref (adr 3 o) :: st) S (bs (wr S 3 o 3 x) f) := ge_putg (j := 3) (ty := .int) C (cl_3 ho) rfl rfl rfl (by decide) inX6z tyX6_ok nmX6 fl_X8_72 rfl (by decide +kernel) rfl rfl (Nat.le_of_ble_eq_true rfl) hd hn kk
theorem gt_X8_79 {w : WX} {adr : Nat → Nat → Nat} {k : KX} {cc : ByteArray} {nL fr lo : Nat} {pc n : Nat} {lv : List (Nat × Value)} {st : List Value} {S : St} {F : Op} (C : Cx w adr k cc RX8 nL fr lo) {o : Nat} (ho : o < 2) (hd : decode cc pc = .ok (.getfield 79, 3)) (hn : pc + 3 = n) (kk : Ge w adr k n lv (.int (S 3 o 0) :: st) S F) : Ge w adr k pc lv (.ref (adr 3 o) :: st) S F := ge_get (j := 0) C (cl_3 ho) rfl rfl (by decide) inX6z fl_X8_79 rfl hd hn kk
theorem pt_X8_79 {w : WX} {adr : Nat → Nat → Nat} {k : KX} {cc : ByteArray} {nL fr lo : Nat} {pc n : Nat} {lv : List (Nat × Value)} {st : List Value} {S : St} (C : Cx w adr k cc RX8 nL fr lo) {o : Nat} (ho : o < 2) {x : Int32} {f : St → Op} (hd : decode cc pc = .ok (.putfield 79, 3)) (hn : pc + 3 = n) (kk : ∀ S1 : St, Ge w adr k n lv st S1 (f S1)) : Ge w adr k pc lv (.int x :: .ref (adr 3 o) :: st) S (bs (wr S 3 o 0 x) f) := ge_putg (j := 0) (ty := .int) C (cl_3 ho) rfl rfl rfl (by decide) inX6z tyX6_ok nmX6 fl_X8_79 rfl (by decide +kernel) rfl rfl (Nat.le_of_ble_eq_true rfl) hd hn kk
theorem gt_X8_82 {w : WX} {adr : Nat → Nat → Nat} {k : KX} {cc : ByteArray} {nL fr lo : Nat} {pc n : Nat} {lv : List (Nat × Value)} {st : List Value} {S : St} {F : Op} (C : Cx w adr k cc RX8 nL fr lo) {o : Nat} (ho : o < 2) (hd : decode cc pc = .ok (.getfield 82, 3)) (hn : pc + 3 = n) (kk : Ge w adr k n lv (.int (S 3 o 1) :: st) S F) : Ge w adr k pc lv (.ref (adr 3 o) :: st) S F := ge_get (j := 1) C (cl_3 ho) rfl rfl (by decide) inX6z fl_X8_82 rfl hd hn kk
theorem pt_X8_82 {w : WX} {adr : Nat → Nat → Nat} {k : KX} {cc : ByteArray} {nL fr lo : Nat} {pc n : Nat} {lv : List (Nat × Value)} {st : List Value} {S : St} (C : Cx w adr k cc RX8 nL fr lo) {o : Nat} (ho : o < 2) {x : Int32} {f : St → Op} (hd : decode cc pc = .ok (.putfield 82, 3)) (hn : pc + 3 = n) (kk : ∀ S1 : St, Ge w adr k n lv st S1 (f S1)) : Ge w adr k pc lv (.int x :: .ref (adr 3 o) :: st) S (bs (wr S 3 o 1 x) f) := ge_putg (j := 1) (ty := .int) C (cl_3 ho) rfl rfl rfl (by decide) inX6z tyX6_ok nmX6 fl_X8_82 rfl (by decide +kernel) rfl rfl (Nat.le_of_ble_eq_true rfl) hd hn kk
theorem gt_X8_85 {w : WX} {adr : Nat → Nat → Nat} {k : KX} {cc : ByteArray} {nL fr lo : Nat} {pc n : Nat} {lv : List (Nat × Value)} {st : List Value} {S : St} {F : Op} (C : Cx w adr k cc RX8 nL fr lo) {o : Nat} (ho : o < 2) (hd : decode cc pc = .ok (.getfield 85, 3)) (hn : pc + 3 = n) (kk : Ge w adr k n lv (.ref (adr 4 o) :: st) S F) : Ge w adr k pc lv (.ref (adr 3 o) :: st) S F := ge_get (j := 4) C (cl_3 ho) rfl rfl (by decide) inX6z fl_X8_85 rfl hd hn kk
theorem gt_X8_88 {w : WX} {adr : Nat → Nat → Nat} {k : KX} {cc : ByteArray} {nL fr lo : Nat} {pc n : Nat} {lv : List (Nat × Value)} {st : List Value} {S : St} {F : Op} (C : Cx w adr k cc RX8 nL fr lo) {o : Nat} (ho : o < 2) (hd : decode cc pc = .ok (.getfield 88, 3)) (hn : pc + 3 = n) (kk : Ge w adr k n lv (.ref (adr 5 o) :: st) S F) : Ge w adr k pc lv (.ref (adr 3 o) :: st) S F := ge_get (j := 5) C (cl_3 ho) rfl rfl (by decide) inX6z fl_X8_88 rfl hd hn kk
theorem gt_X8_92 {w : WX} {adr : Nat → Nat → Nat} {k : KX} {cc : ByteArray} {nL fr lo : Nat} {pc n : Nat} {lv : List (Nat × Value)} {st : List Value} {S : St} {F : Op} (C : Cx w adr k cc RX8 nL fr lo) {o : Nat} (ho : o < 2) (hd : decode cc pc = .ok (.getfield 92, 3)) (hn : pc + 3 = n) (kk : Ge w adr k n lv (.ref (adr 7 o) :: st) S F) : Ge w adr k pc lv (.ref (adr 3 o) :: st) S F := ge_get (j := 6) C (cl_3 ho) rfl rfl (by decide) inX6z fl_X8_92 rfl hd hn kk
theorem gt_X8_95 {w : WX} {adr : Nat → Nat → Nat} {k : KX} {cc : ByteArray} {nL fr lo : Nat} {pc n : Nat} {lv : List (Nat × Value)} {st : List Value} {S : St} {F : Op} (C : Cx w adr k cc RX8 nL fr lo) {o : Nat} (ho : o < 2) (hd : decode cc pc = .ok (.getfield 95, 3)) (hn : pc + 3 = n) (kk : Ge w adr k n lv (.ref (adr 8 o) :: st) S F) : Ge w adr k pc lv (.ref (adr 3 o) :: st) S F := ge_get (j := 7) C (cl_3 ho) rfl rfl (by decide) inX6z fl_X8_95 rfl hd hn kk
theorem gt_X9_12 {w : WX} {adr : Nat → Nat → Nat} {k : KX} {cc : ByteArray} {nL fr lo : Nat} {pc n : Nat} {lv : List (Nat × Value)} {st : List Value} {S : St} {F : Op} (C : Cx w adr k cc RX9 nL fr lo) {o : Nat} (ho : o < 1) (hd : decode cc pc = .ok (.getfield 12, 3)) (hn : pc + 3 = n) (kk : Ge w adr k n lv (.ref (adr 11 6) :: st) S F) : Ge w adr k pc lv (.ref (adr 30 o) :: st) S F := ge_get (j := 0) C (cl_30 ho) rfl rfl (by decide) inX9z fl_X9_12 rfl hd hn kk
theorem gt_X9_18 {w : WX} {adr : Nat → Nat → Nat} {k : KX} {cc : ByteArray} {nL fr lo : Nat} {pc n : Nat} {lv : List (Nat × Value)} {st : List Value} {S : St} {F : Op} (C : Cx w adr k cc RX9 nL fr lo) {o : Nat} (ho : o < 1) (hd : decode cc pc = .ok (.getfield 18, 3)) (hn : pc + 3 = n) (kk : Ge w adr k n lv (.ref (adr 10 0) :: st) S F) : Ge w adr k pc lv (.ref (adr 9 o) :: st) S F := ge_get (j := 4) C (cl_9 ho) rfl rfl (by decide) inX7z fl_X9_18 rfl hd hn kk
theorem gt_X9_28 {w : WX} {adr : Nat → Nat → Nat} {k : KX} {cc : ByteArray} {nL fr lo : Nat} {pc n : Nat} {lv : List (Nat × Value)} {st : List Value} {S : St} {F : Op} (C : Cx w adr k cc RX9 nL fr lo) {o : Nat} (ho : o < 1) (hd : decode cc pc = .ok (.getfield 28, 3)) (hn : pc + 3 = n) (kk : Ge w adr k n lv (.int (S 9 o 2) :: st) S F) : Ge w adr k pc lv (.ref (adr 9 o) :: st) S F := ge_get (j := 2) C (cl_9 ho) rfl rfl (by decide) inX7z fl_X9_28 rfl hd hn kk
theorem pt_X9_28 {w : WX} {adr : Nat → Nat → Nat} {k : KX} {cc : ByteArray} {nL fr lo : Nat} {pc n : Nat} {lv : List (Nat × Value)} {st : List Value} {S : St} (C : Cx w adr k cc RX9 nL fr lo) {o : Nat} (ho : o < 1) {x : Int32} {f : St → Op} (hd : decode cc pc = .ok (.putfield 28, 3)) (hn : pc + 3 = n) (kk : ∀ S1 : St, Ge w adr k n lv st S1 (f S1)) : Ge w adr k pc lv (.int x :: .ref (adr 9 o) :: st) S (bs (wr S 9 o 2 x) f) := ge_putg (j := 2) (ty := .int) C (cl_9 ho) rfl rfl rfl (by decide) inX7z tyX7_ok nmX7 fl_X9_28 rfl (by decide +kernel) rfl rfl (Nat.le_of_ble_eq_true rfl) hd hn kk
theorem gt_X9_32 {w : WX} {adr : Nat → Nat → Nat} {k : KX} {cc : ByteArray} {nL fr lo : Nat} {pc n : Nat} {lv : List (Nat × Value)} {st : List Value} {S : St} {F : Op} (C : Cx w adr k cc RX9 nL fr lo) {o : Nat} (ho : o < 1) (hd : decode cc pc = .ok (.getfield 32, 3)) (hn : pc + 3 = n) (kk : Ge w adr k n lv (.int (S 30 o 1) :: st) S F) : Ge w adr k pc lv (.ref (adr 30 o) :: st) S F := ge_get (j := 1) C (cl_30 ho) rfl rfl (by decide) inX9z fl_X9_32 rfl hd hn kk
theorem pt_X9_32 {w : WX} {adr : Nat → Nat → Nat} {k : KX} {cc : ByteArray} {nL fr lo : Nat} {pc n : Nat} {lv : List (Nat × Value)} {st : List Value} {S : St} (C : Cx w adr k cc RX9 nL fr lo) {o : Nat} (ho : o < 1) {x : Int32} {f : St → Op} (hd : decode cc pc = .ok (.putfield 32, 3)) (hn : pc + 3 = n) (kk : ∀ S1 : St, Ge w adr k n lv st S1 (f S1)) : Ge w adr k pc lv (.int x :: .ref (adr 30 o) :: st) S (bs (wr S 30 o 1 x) f) := ge_putg (j := 1) (ty := .int) C (cl_30 ho) rfl rfl rfl (by decide) inX9z tyX9_ok nmX9 fl_X9_32 rfl (by decide +kernel) rfl rfl (Nat.le_of_ble_eq_true rfl) hd hn kk
theorem gt_X9_33 {w : WX} {adr : Nat → Nat → Nat} {k : KX} {cc : ByteArray} {nL fr lo : Nat} {pc n : Nat} {lv : List (Nat × Value)} {st : List Value} {S : St} {F : Op} (C : Cx w adr k cc RX9 nL fr lo) {o : Nat} (ho : o < 1) (hd : decode cc pc = .ok (.getfield 33, 3)) (hn : pc + 3 = n) (kk : Ge w adr k n lv (.int (S 9 o 1) :: st) S F) : Ge w adr k pc lv (.ref (adr 9 o) :: st) S F := ge_get (j := 1) C (cl_9 ho) rfl rfl (by decide) inX7z fl_X9_33 rfl hd hn kk
theorem pt_X9_33 {w : WX} {adr : Nat → Nat → Nat} {k : KX} {cc : ByteArray} {nL fr lo : Nat} {pc n : Nat} {lv : List (Nat × Value)} {st : List Value} {S : St} (C : Cx w adr k cc RX9 nL fr lo) {o : Nat} (ho : o < 1) {x : Int32} {f : St → Op} (hd : decode cc pc = .ok (.putfield 33, 3)) (hn : pc + 3 = n) (kk : ∀ S1 : St, Ge w adr k n lv st S1 (f S1)) : Ge w adr k pc lv (.int x :: .ref (adr 9 o) :: st) S (bs (wr S 9 o 1 x) f) := ge_putg (j := 1) (ty := .int) C (cl_9 ho) rfl rfl rfl (by decide) inX7z tyX7_ok nmX7 fl_X9_33 rfl (by decide +kernel) rfl rfl (Nat.le_of_ble_eq_true rfl) hd hn kk
theorem gt_X9_36 {w : WX} {adr : Nat → Nat → Nat} {k : KX} {cc : ByteArray} {nL fr lo : Nat} {pc n : Nat} {lv : List (Nat × Value)} {st : List Value} {S : St} {F : Op} (C : Cx w adr k cc RX9 nL fr lo) {o : Nat} (ho : o < 1) (hd : decode cc pc = .ok (.getfield 36, 3)) (hn : pc + 3 = n) (kk : Ge w adr k n lv (.int (S 30 o 2) :: st) S F) : Ge w adr k pc lv (.ref (adr 30 o) :: st) S F := ge_get (j := 2) C (cl_30 ho) rfl rfl (by decide) inX9z fl_X9_36 rfl hd hn kk
theorem pt_X9_36 {w : WX} {adr : Nat → Nat → Nat} {k : KX} {cc : ByteArray} {nL fr lo : Nat} {pc n : Nat} {lv : List (Nat × Value)} {st : List Value} {S : St} (C : Cx w adr k cc RX9 nL fr lo) {o : Nat} (ho : o < 1) {x : Int32} {f : St → Op} (hd : decode cc pc = .ok (.putfield 36, 3)) (hn : pc + 3 = n) (kk : ∀ S1 : St, Ge w adr k n lv st S1 (f S1)) : Ge w adr k pc lv (.int x :: .ref (adr 30 o) :: st) S (bs (wr S 30 o 2 x) f) := ge_putg (j := 2) (ty := .int) C (cl_30 ho) rfl rfl rfl (by decide) inX9z tyX9_ok nmX9 fl_X9_36 rfl (by decide +kernel) rfl rfl (Nat.le_of_ble_eq_true rfl) hd hn kk
theorem gt_X9_44 {w : WX} {adr : Nat → Nat → Nat} {k : KX} {cc : ByteArray} {nL fr lo : Nat} {pc n : Nat} {lv : List (Nat × Value)} {st : List Value} {S : St} {F : Op} (C : Cx w adr k cc RX9 nL fr lo) {o : Nat} (ho : o < 2) (hd : decode cc pc = .ok (.getfield 44, 3)) (hn : pc + 3 = n) (kk : Ge w adr k n lv (.int (S 3 o 1) :: st) S F) : Ge w adr k pc lv (.ref (adr 3 o) :: st) S F := ge_get (j := 1) C (cl_3 ho) rfl rfl (by decide) inX6z fl_X9_44 rfl hd hn kk
theorem pt_X9_44 {w : WX} {adr : Nat → Nat → Nat} {k : KX} {cc : ByteArray} {nL fr lo : Nat} {pc n : Nat} {lv : List (Nat × Value)} {st : List Value} {S : St} (C : Cx w adr k cc RX9 nL fr lo) {o : Nat} (ho : o < 2) {x : Int32} {f : St → Op} (hd : decode cc pc = .ok (.putfield 44, 3)) (hn : pc + 3 = n) (kk : ∀ S1 : St, Ge w adr k n lv st S1 (f S1)) : Ge w adr k pc lv (.int x :: .ref (adr 3 o) :: st) S (bs (wr S 3 o 1 x) f) := ge_putg (j := 1) (ty := .int) C (cl_3 ho) rfl rfl rfl (by decide) inX6z tyX6_ok nmX6 fl_X9_44 rfl (by decide +kernel) rfl rfl (Nat.le_of_ble_eq_true rfl) hd hn kk
theorem gt_X9_47 {w : WX} {adr : Nat → Nat → Nat} {k : KX} {cc : ByteArray} {nL fr lo : Nat} {pc n : Nat} {lv : List (Nat × Value)} {st : List Value} {S : St} {F : Op} (C : Cx w adr k cc RX9 nL fr lo) {o : Nat} (ho : o < 1) (hd : decode cc pc = .ok (.getfield 47, 3)) (hn : pc + 3 = n) (kk : Ge w adr k n lv (.int (S 30 o 3) :: st) S F) : Ge w adr k pc lv (.ref (adr 30 o) :: st) S F := ge_get (j := 3) C (cl_30 ho) rfl rfl (by decide) inX9z fl_X9_47 rfl hd hn kk
theorem pt_X9_47 {w : WX} {adr : Nat → Nat → Nat} {k : KX} {cc : ByteArray} {nL fr lo : Nat} {pc n : Nat} {lv : List (Nat × Value)} {st : List Value} {S : St} (C : Cx w adr k cc RX9 nL fr lo) {o : Nat} (ho : o < 1) {x : Int32} {f : St → Op} (hd : decode cc pc = .ok (.putfield 47, 3)) (hn : pc + 3 = n) (kk : ∀ S1 : St, Ge w adr k n lv st S1 (f S1)) : Ge w adr k pc lv (.int x :: .ref (adr 30 o) :: st) S (bs (wr S 30 o 3 x) f) := ge_putg (j := 3) (ty := .int) C (cl_30 ho) rfl rfl rfl (by decide) inX9z tyX9_ok nmX9 fl_X9_47 rfl (by decide +kernel) rfl rfl (Nat.le_of_ble_eq_true rfl) hd hn kk
theorem gt_X9_50 {w : WX} {adr : Nat → Nat → Nat} {k : KX} {cc : ByteArray} {nL fr lo : Nat} {pc n : Nat} {lv : List (Nat × Value)} {st : List Value} {S : St} {F : Op} (C : Cx w adr k cc RX9 nL fr lo) {o : Nat} (ho : o < 1) (hd : decode cc pc = .ok (.getfield 50, 3)) (hn : pc + 3 = n) (kk : Ge w adr k n lv (.int (S 30 o 4) :: st) S F) : Ge w adr k pc lv (.ref (adr 30 o) :: st) S F := ge_get (j := 4) C (cl_30 ho) rfl rfl (by decide) inX9z fl_X9_50 rfl hd hn kk
theorem pt_X9_50 {w : WX} {adr : Nat → Nat → Nat} {k : KX} {cc : ByteArray} {nL fr lo : Nat} {pc n : Nat} {lv : List (Nat × Value)} {st : List Value} {S : St} (C : Cx w adr k cc RX9 nL fr lo) {o : Nat} (ho : o < 1) {x : Int32} {f : St → Op} (hd : decode cc pc = .ok (.putfield 50, 3)) (hn : pc + 3 = n) (kk : ∀ S1 : St, Ge w adr k n lv st S1 (f S1)) : Ge w adr k pc lv (.int x :: .ref (adr 30 o) :: st) S (bs (wr S 30 o 4 x) f) := ge_putg (j := 4) (ty := .int) C (cl_30 ho) rfl rfl rfl (by decide) inX9z tyX9_ok nmX9 fl_X9_50 rfl (by decide +kernel) rfl rfl (Nat.le_of_ble_eq_true rfl) hd hn kk
theorem gt_X9_53 {w : WX} {adr : Nat → Nat → Nat} {k : KX} {cc : ByteArray} {nL fr lo : Nat} {pc n : Nat} {lv : List (Nat × Value)} {st : List Value} {S : St} {F : Op} (C : Cx w adr k cc RX9 nL fr lo) {o : Nat} (ho : o < 1) (hd : decode cc pc = .ok (.getfield 53, 3)) (hn : pc + 3 = n) (kk : Ge w adr k n lv (.int (S 30 o 5) :: st) S F) : Ge w adr k pc lv (.ref (adr 30 o) :: st) S F := ge_get (j := 5) C (cl_30 ho) rfl rfl (by decide) inX9z fl_X9_53 rfl hd hn kk
theorem pt_X9_53 {w : WX} {adr : Nat → Nat → Nat} {k : KX} {cc : ByteArray} {nL fr lo : Nat} {pc n : Nat} {lv : List (Nat × Value)} {st : List Value} {S : St} (C : Cx w adr k cc RX9 nL fr lo) {o : Nat} (ho : o < 1) {x : Int32} {f : St → Op} (hd : decode cc pc = .ok (.putfield 53, 3)) (hn : pc + 3 = n) (kk : ∀ S1 : St, Ge w adr k n lv st S1 (f S1)) : Ge w adr k pc lv (.int x :: .ref (adr 30 o) :: st) S (bs (wr S 30 o 5 x) f) := ge_putg (j := 5) (ty := .int) C (cl_30 ho) rfl rfl rfl (by decide) inX9z tyX9_ok nmX9 fl_X9_53 rfl (by decide +kernel) rfl rfl (Nat.le_of_ble_eq_true rfl) hd hn kk
theorem gt_X11_7 {w : WX} {adr : Nat → Nat → Nat} {k : KX} {cc : ByteArray} {nL fr lo : Nat} {pc n : Nat} {lv : List (Nat × Value)} {st : List Value} {S : St} {F : Op} (C : Cx w adr k cc RX11 nL fr lo) {o : Nat} (ho : o < 1) (hd : decode cc pc = .ok (.getfield 7, 3)) (hn : pc + 3 = n) (kk : Ge w adr k n lv (.ref (adr 36 0) :: st) S F) : Ge w adr k pc lv (.ref (adr 35 o) :: st) S F := ge_get (j := 3) C (cl_35 ho) rfl rfl (by decide) inX11z fl_X11_7 rfl hd hn kk
theorem gt_X11_13 {w : WX} {adr : Nat → Nat → Nat} {k : KX} {cc : ByteArray} {nL fr lo : Nat} {pc n : Nat} {lv : List (Nat × Value)} {st : List Value} {S : St} {F : Op} (C : Cx w adr k cc RX11 nL fr lo) {o : Nat} (ho : o < 1) (hd : decode cc pc = .ok (.getfield 13, 3)) (hn : pc + 3 = n) (kk : Ge w adr k n lv (.ref (adr 37 0) :: st) S F) : Ge w adr k pc lv (.ref (adr 35 o) :: st) S F := ge_get (j := 4) C (cl_35 ho) rfl rfl (by decide) inX11z fl_X11_13 rfl hd hn kk
theorem gt_X11_16 {w : WX} {adr : Nat → Nat → Nat} {k : KX} {cc : ByteArray} {nL fr lo : Nat} {pc n : Nat} {lv : List (Nat × Value)} {st : List Value} {S : St} {F : Op} (C : Cx w adr k cc RX11 nL fr lo) {o : Nat} (ho : o < 1) (hd : decode cc pc = .ok (.getfield 16, 3)) (hn : pc + 3 = n) (kk : Ge w adr k n lv (.ref (adr 38 0) :: st) S F) : Ge w adr k pc lv (.ref (adr 35 o) :: st) S F := ge_get (j := 6) C (cl_35 ho) rfl rfl (by decide) inX11z fl_X11_16 rfl hd hn kk
theorem gt_X11_19 {w : WX} {adr : Nat → Nat → Nat} {k : KX} {cc : ByteArray} {nL fr lo : Nat} {pc n : Nat} {lv : List (Nat × Value)} {st : List Value} {S : St} {F : Op} (C : Cx w adr k cc RX11 nL fr lo) {o : Nat} (ho : o < 1) (hd : decode cc pc = .ok (.getfield 19, 3)) (hn : pc + 3 = n) (kk : Ge w adr k n lv (.ref (adr 39 0) :: st) S F) : Ge w adr k pc lv (.ref (adr 35 o) :: st) S F := ge_get (j := 7) C (cl_35 ho) rfl rfl (by decide) inX11z fl_X11_19 rfl hd hn kk
theorem gt_X11_22 {w : WX} {adr : Nat → Nat → Nat} {k : KX} {cc : ByteArray} {nL fr lo : Nat} {pc n : Nat} {lv : List (Nat × Value)} {st : List Value} {S : St} {F : Op} (C : Cx w adr k cc RX11 nL fr lo) {o : Nat} (ho : o < 1) (hd : decode cc pc = .ok (.getfield 22, 3)) (hn : pc + 3 = n) (kk : Ge w adr k n lv (.ref (adr 40 0) :: st) S F) : Ge w adr k pc lv (.ref (adr 35 o) :: st) S F := ge_get (j := 8) C (cl_35 ho) rfl rfl (by decide) inX11z fl_X11_22 rfl hd hn kk
theorem gt_X11_25 {w : WX} {adr : Nat → Nat → Nat} {k : KX} {cc : ByteArray} {nL fr lo : Nat} {pc n : Nat} {lv : List (Nat × Value)} {st : List Value} {S : St} {F : Op} (C : Cx w adr k cc RX11 nL fr lo) {o : Nat} (ho : o < 1) (hd : decode cc pc = .ok (.getfield 25, 3)) (hn : pc + 3 = n) (kk : Ge w adr k n lv (.ref (adr 41 0) :: st) S F) : Ge w adr k pc lv (.ref (adr 35 o) :: st) S F := ge_get (j := 11) C (cl_35 ho) rfl rfl (by decide) inX11z fl_X11_25 rfl hd hn kk
theorem gt_X11_28 {w : WX} {adr : Nat → Nat → Nat} {k : KX} {cc : ByteArray} {nL fr lo : Nat} {pc n : Nat} {lv : List (Nat × Value)} {st : List Value} {S : St} {F : Op} (C : Cx w adr k cc RX11 nL fr lo) {o : Nat} (ho : o < 1) (hd : decode cc pc = .ok (.getfield 28, 3)) (hn : pc + 3 = n) (kk : Ge w adr k n lv (.ref (adr 42 0) :: st) S F) : Ge w adr k pc lv (.ref (adr 35 o) :: st) S F := ge_get (j := 12) C (cl_35 ho) rfl rfl (by decide) inX11z fl_X11_28 rfl hd hn kk
theorem gt_X11_31 {w : WX} {adr : Nat → Nat → Nat} {k : KX} {cc : ByteArray} {nL fr lo : Nat} {pc n : Nat} {lv : List (Nat × Value)} {st : List Value} {S : St} {F : Op} (C : Cx w adr k cc RX11 nL fr lo) {o : Nat} (ho : o < 1) (hd : decode cc pc = .ok (.getfield 31, 3)) (hn : pc + 3 = n) (kk : Ge w adr k n lv (.ref (adr 43 0) :: st) S F) : Ge w adr k pc lv (.ref (adr 35 o) :: st) S F := ge_get (j := 13) C (cl_35 ho) rfl rfl (by decide) inX11z fl_X11_31 rfl hd hn kk
theorem gt_X11_34 {w : WX} {adr : Nat → Nat → Nat} {k : KX} {cc : ByteArray} {nL fr lo : Nat} {pc n : Nat} {lv : List (Nat × Value)} {st : List Value} {S : St} {F : Op} (C : Cx w adr k cc RX11 nL fr lo) {o : Nat} (ho : o < 1) (hd : decode cc pc = .ok (.getfield 34, 3)) (hn : pc + 3 = n) (kk : Ge w adr k n lv (.ref (adr 44 0) :: st) S F) : Ge w adr k pc lv (.ref (adr 35 o) :: st) S F := ge_get (j := 15) C (cl_35 ho) rfl rfl (by decide) inX11z fl_X11_34 rfl hd hn kk
theorem gt_X11_37 {w : WX} {adr : Nat → Nat → Nat} {k : KX} {cc : ByteArray} {nL fr lo : Nat} {pc n : Nat} {lv : List (Nat × Value)} {st : List Value} {S : St} {F : Op} (C : Cx w adr k cc RX11 nL fr lo) {o : Nat} (ho : o < 1) (hd : decode cc pc = .ok (.getfield 37, 3)) (hn : pc + 3 = n) (kk : Ge w adr k n lv (.ref (adr 45 0) :: st) S F) : Ge w adr k pc lv (.ref (adr 35 o) :: st) S F := ge_get (j := 16) C (cl_35 ho) rfl rfl (by decide) inX11z fl_X11_37 rfl hd hn kk
theorem gt_X11_40 {w : WX} {adr : Nat → Nat → Nat} {k : KX} {cc : ByteArray} {nL fr lo : Nat} {pc n : Nat} {lv : List (Nat × Value)} {st : List Value} {S : St} {F : Op} (C : Cx w adr k cc RX11 nL fr lo) {o : Nat} (ho : o < 1) (hd : decode cc pc = .ok (.getfield 40, 3)) (hn : pc + 3 = n) (kk : Ge w adr k n lv (.ref (adr 46 0) :: st) S F) : Ge w adr k pc lv (.ref (adr 35 o) :: st) S F := ge_get (j := 17) C (cl_35 ho) rfl rfl (by decide) inX11z fl_X11_40 rfl hd hn kk
theorem gt_X11_43 {w : WX} {adr : Nat → Nat → Nat} {k : KX} {cc : ByteArray} {nL fr lo : Nat} {pc n : Nat} {lv : List (Nat × Value)} {st : List Value} {S : St} {F : Op} (C : Cx w adr k cc RX11 nL fr lo) {o : Nat} (ho : o < 1) (hd : decode cc pc = .ok (.getfield 43, 3)) (hn : pc + 3 = n) (kk : Ge w adr k n lv (.int (S 35 o 19) :: st) S F) : Ge w adr k pc lv (.ref (adr 35 o) :: st) S F := ge_get (j := 19) C (cl_35 ho) rfl rfl (by decide) inX11z fl_X11_43 rfl hd hn kk
theorem pt_X11_43 {w : WX} {adr : Nat → Nat → Nat} {k : KX} {cc : ByteArray} {nL fr lo : Nat} {pc n : Nat} {lv : List (Nat × Value)} {st : List Value} {S : St} (C : Cx w adr k cc RX11 nL fr lo) {o : Nat} (ho : o < 1) {x : Int32} {f : St → Op} (hd : decode cc pc = .ok (.putfield 43, 3)) (hn : pc + 3 = n) (kk : ∀ S1 : St, Ge w adr k n lv st S1 (f S1)) : Ge w adr k pc lv (.int x :: .ref (adr 35 o) :: st) S (bs (wr S 35 o 19 x) f) := ge_putg (j := 19) (ty := .int) C (cl_35 ho) rfl rfl rfl (by decide) inX11z tyX11_ok nmX11 fl_X11_43 rfl (by decide +kernel) rfl rfl (Nat.le_of_ble_eq_true rfl) hd hn kk
theorem gt_X11_47 {w : WX} {adr : Nat → Nat → Nat} {k : KX} {cc : ByteArray} {nL fr lo : Nat} {pc n : Nat} {lv : List (Nat × Value)} {st : List Value} {S : St} {F : Op} (C : Cx w adr k cc RX11 nL fr lo) {o : Nat} (ho : o < 1) (hd : decode cc pc = .ok (.getfield 47, 3)) (hn : pc + 3 = n) (kk : Ge w adr k n lv (.ref (adr 47 0) :: st) S F) : Ge w adr k pc lv (.ref (adr 35 o) :: st) S F := ge_get (j := 26) C (cl_35 ho) rfl rfl (by decide) inX11z fl_X11_47 rfl hd hn kk
theorem gt_X11_50 {w : WX} {adr : Nat → Nat → Nat} {k : KX} {cc : ByteArray} {nL fr lo : Nat} {pc n : Nat} {lv : List (Nat × Value)} {st : List Value} {S : St} {F : Op} (C : Cx w adr k cc RX11 nL fr lo) {o : Nat} (ho : o < 1) (hd : decode cc pc = .ok (.getfield 50, 3)) (hn : pc + 3 = n) (kk : Ge w adr k n lv (.ref (adr 48 0) :: st) S F) : Ge w adr k pc lv (.ref (adr 35 o) :: st) S F := ge_get (j := 27) C (cl_35 ho) rfl rfl (by decide) inX11z fl_X11_50 rfl hd hn kk
theorem gt_X11_53 {w : WX} {adr : Nat → Nat → Nat} {k : KX} {cc : ByteArray} {nL fr lo : Nat} {pc n : Nat} {lv : List (Nat × Value)} {st : List Value} {S : St} {F : Op} (C : Cx w adr k cc RX11 nL fr lo) {o : Nat} (ho : o < 1) (hd : decode cc pc = .ok (.getfield 53, 3)) (hn : pc + 3 = n) (kk : Ge w adr k n lv (.ref (adr 49 0) :: st) S F) : Ge w adr k pc lv (.ref (adr 35 o) :: st) S F := ge_get (j := 29) C (cl_35 ho) rfl rfl (by decide) inX11z fl_X11_53 rfl hd hn kk
theorem gt_X11_56 {w : WX} {adr : Nat → Nat → Nat} {k : KX} {cc : ByteArray} {nL fr lo : Nat} {pc n : Nat} {lv : List (Nat × Value)} {st : List Value} {S : St} {F : Op} (C : Cx w adr k cc RX11 nL fr lo) {o : Nat} (ho : o < 1) (hd : decode cc pc = .ok (.getfield 56, 3)) (hn : pc + 3 = n) (kk : Ge w adr k n lv (.ref (adr 50 0) :: st) S F) : Ge w adr k pc lv (.ref (adr 35 o) :: st) S F := ge_get (j := 30) C (cl_35 ho) rfl rfl (by decide) inX11z fl_X11_56 rfl hd hn kk
theorem gt_X11_59 {w : WX} {adr : Nat → Nat → Nat} {k : KX} {cc : ByteArray} {nL fr lo : Nat} {pc n : Nat} {lv : List (Nat × Value)} {st : List Value} {S : St} {F : Op} (C : Cx w adr k cc RX11 nL fr lo) {o : Nat} (ho : o < 1) (hd : decode cc pc = .ok (.getfield 59, 3)) (hn : pc + 3 = n) (kk : Ge w adr k n lv (.ref (adr 51 0) :: st) S F) : Ge w adr k pc lv (.ref (adr 35 o) :: st) S F := ge_get (j := 31) C (cl_35 ho) rfl rfl (by decide) inX11z fl_X11_59 rfl hd hn kk
theorem gt_X11_62 {w : WX} {adr : Nat → Nat → Nat} {k : KX} {cc : ByteArray} {nL fr lo : Nat} {pc n : Nat} {lv : List (Nat × Value)} {st : List Value} {S : St} {F : Op} (C : Cx w adr k cc RX11 nL fr lo) {o : Nat} (ho : o < 1) (hd : decode cc pc = .ok (.getfield 62, 3)) (hn : pc + 3 = n) (kk : Ge w adr k n lv (.ref (adr 52 0) :: st) S F) : Ge w adr k pc lv (.ref (adr 35 o) :: st) S F := ge_get (j := 32) C (cl_35 ho) rfl rfl (by decide) inX11z fl_X11_62 rfl hd hn kk
theorem gt_X11_65 {w : WX} {adr : Nat → Nat → Nat} {k : KX} {cc : ByteArray} {nL fr lo : Nat} {pc n : Nat} {lv : List (Nat × Value)} {st : List Value} {S : St} {F : Op} (C : Cx w adr k cc RX11 nL fr lo) {o : Nat} (ho : o < 1) (hd : decode cc pc = .ok (.getfield 65, 3)) (hn : pc + 3 = n) (kk : Ge w adr k n lv (.ref (adr 53 0) :: st) S F) : Ge w adr k pc lv (.ref (adr 35 o) :: st) S F := ge_get (j := 33) C (cl_35 ho) rfl rfl (by decide) inX11z fl_X11_65 rfl hd hn kk
theorem gt_X11_68 {w : WX} {adr : Nat → Nat → Nat} {k : KX} {cc : ByteArray} {nL fr lo : Nat} {pc n : Nat} {lv : List (Nat × Value)} {st : List Value} {S : St} {F : Op} (C : Cx w adr k cc RX11 nL fr lo) {o : Nat} (ho : o < 1) (hd : decode cc pc = .ok (.getfield 68, 3)) (hn : pc + 3 = n) (kk : Ge w adr k n lv (.ref (adr 54 0) :: st) S F) : Ge w adr k pc lv (.ref (adr 35 o) :: st) S F := ge_get (j := 35) C (cl_35 ho) rfl rfl (by decide) inX11z fl_X11_68 rfl hd hn kk
theorem gt_X11_71 {w : WX} {adr : Nat → Nat → Nat} {k : KX} {cc : ByteArray} {nL fr lo : Nat} {pc n : Nat} {lv : List (Nat × Value)} {st : List Value} {S : St} {F : Op} (C : Cx w adr k cc RX11 nL fr lo) {o : Nat} (ho : o < 1) (hd : decode cc pc = .ok (.getfield 71, 3)) (hn : pc + 3 = n) (kk : Ge w adr k n lv (.ref (adr 55 0) :: st) S F) : Ge w adr k pc lv (.ref (adr 35 o) :: st) S F := ge_get (j := 36) C (cl_35 ho) rfl rfl (by decide) inX11z fl_X11_71 rfl hd hn kk
theorem gt_X11_74 {w : WX} {adr : Nat → Nat → Nat} {k : KX} {cc : ByteArray} {nL fr lo : Nat} {pc n : Nat} {lv : List (Nat × Value)} {st : List Value} {S : St} {F : Op} (C : Cx w adr k cc RX11 nL fr lo) {o : Nat} (ho : o < 1) (hd : decode cc pc = .ok (.getfield 74, 3)) (hn : pc + 3 = n) (kk : Ge w adr k n lv (.ref (adr 56 0) :: st) S F) : Ge w adr k pc lv (.ref (adr 35 o) :: st) S F := ge_get (j := 37) C (cl_35 ho) rfl rfl (by decide) inX11z fl_X11_74 rfl hd hn kk
theorem gt_X11_77 {w : WX} {adr : Nat → Nat → Nat} {k : KX} {cc : ByteArray} {nL fr lo : Nat} {pc n : Nat} {lv : List (Nat × Value)} {st : List Value} {S : St} {F : Op} (C : Cx w adr k cc RX11 nL fr lo) {o : Nat} (ho : o < 1) (hd : decode cc pc = .ok (.getfield 77, 3)) (hn : pc + 3 = n) (kk : Ge w adr k n lv (.ref (adr 57 0) :: st) S F) : Ge w adr k pc lv (.ref (adr 35 o) :: st) S F := ge_get (j := 38) C (cl_35 ho) rfl rfl (by decide) inX11z fl_X11_77 rfl hd hn kk
theorem gt_X11_81 {w : WX} {adr : Nat → Nat → Nat} {k : KX} {cc : ByteArray} {nL fr lo : Nat} {pc n : Nat} {lv : List (Nat × Value)} {st : List Value} {S : St} {F : Op} (C : Cx w adr k cc RX11 nL fr lo) {o : Nat} (ho : o < 1) (hd : decode cc pc = .ok (.getfield 81, 3)) (hn : pc + 3 = n) (kk : Ge w adr k n lv (.ref (adr 58 0) :: st) S F) : Ge w adr k pc lv (.ref (adr 35 o) :: st) S F := ge_get (j := 39) C (cl_35 ho) rfl rfl (by decide) inX11z fl_X11_81 rfl hd hn kk
theorem gt_X11_84 {w : WX} {adr : Nat → Nat → Nat} {k : KX} {cc : ByteArray} {nL fr lo : Nat} {pc n : Nat} {lv : List (Nat × Value)} {st : List Value} {S : St} {F : Op} (C : Cx w adr k cc RX11 nL fr lo) {o : Nat} (ho : o < 1) (hd : decode cc pc = .ok (.getfield 84, 3)) (hn : pc + 3 = n) (kk : Ge w adr k n lv (.ref (adr 59 0) :: st) S F) : Ge w adr k pc lv (.ref (adr 35 o) :: st) S F := ge_get (j := 40) C (cl_35 ho) rfl rfl (by decide) inX11z fl_X11_84 rfl hd hn kk
theorem gt_X11_87 {w : WX} {adr : Nat → Nat → Nat} {k : KX} {cc : ByteArray} {nL fr lo : Nat} {pc n : Nat} {lv : List (Nat × Value)} {st : List Value} {S : St} {F : Op} (C : Cx w adr k cc RX11 nL fr lo) {o : Nat} (ho : o < 1) (hd : decode cc pc = .ok (.getfield 87, 3)) (hn : pc + 3 = n) (kk : Ge w adr k n lv (.ref (adr 60 0) :: st) S F) : Ge w adr k pc lv (.ref (adr 35 o) :: st) S F := ge_get (j := 41) C (cl_35 ho) rfl rfl (by decide) inX11z fl_X11_87 rfl hd hn kk
theorem gt_X11_90 {w : WX} {adr : Nat → Nat → Nat} {k : KX} {cc : ByteArray} {nL fr lo : Nat} {pc n : Nat} {lv : List (Nat × Value)} {st : List Value} {S : St} {F : Op} (C : Cx w adr k cc RX11 nL fr lo) {o : Nat} (ho : o < 1) (hd : decode cc pc = .ok (.getfield 90, 3)) (hn : pc + 3 = n) (kk : Ge w adr k n lv (.int (S 35 o 0) :: st) S F) : Ge w adr k pc lv (.ref (adr 35 o) :: st) S F := ge_get (j := 0) C (cl_35 ho) rfl rfl (by decide) inX11z fl_X11_90 rfl hd hn kk
theorem pt_X11_90 {w : WX} {adr : Nat → Nat → Nat} {k : KX} {cc : ByteArray} {nL fr lo : Nat} {pc n : Nat} {lv : List (Nat × Value)} {st : List Value} {S : St} (C : Cx w adr k cc RX11 nL fr lo) {o : Nat} (ho : o < 1) {x : Int32} {f : St → Op} (hd : decode cc pc = .ok (.putfield 90, 3)) (hn : pc + 3 = n) (kk : ∀ S1 : St, Ge w adr k n lv st S1 (f S1)) : Ge w adr k pc lv (.int x :: .ref (adr 35 o) :: st) S (bs (wr S 35 o 0 x) f) := ge_putg (j := 0) (ty := .int) C (cl_35 ho) rfl rfl rfl (by decide) inX11z tyX11_ok nmX11 fl_X11_90 rfl (by decide +kernel) rfl rfl (Nat.le_of_ble_eq_true rfl) hd hn kk
theorem gt_X11_93 {w : WX} {adr : Nat → Nat → Nat} {k : KX} {cc : ByteArray} {nL fr lo : Nat} {pc n : Nat} {lv : List (Nat × Value)} {st : List Value} {S : St} {F : Op} (C : Cx w adr k cc RX11 nL fr lo) {o : Nat} (ho : o < 1) (hd : decode cc pc = .ok (.getfield 93, 3)) (hn : pc + 3 = n) (kk : Ge w adr k n lv (.int (S 35 o 2) :: st) S F) : Ge w adr k pc lv (.ref (adr 35 o) :: st) S F := ge_get (j := 2) C (cl_35 ho) rfl rfl (by decide) inX11z fl_X11_93 rfl hd hn kk
theorem pt_X11_93 {w : WX} {adr : Nat → Nat → Nat} {k : KX} {cc : ByteArray} {nL fr lo : Nat} {pc n : Nat} {lv : List (Nat × Value)} {st : List Value} {S : St} (C : Cx w adr k cc RX11 nL fr lo) {o : Nat} (ho : o < 1) {x : Int32} {f : St → Op} (hd : decode cc pc = .ok (.putfield 93, 3)) (hn : pc + 3 = n) (kk : ∀ S1 : St, Ge w adr k n lv st S1 (f S1)) : Ge w adr k pc lv (.int x :: .ref (adr 35 o) :: st) S (bs (wr S 35 o 2 x) f) := ge_putg (j := 2) (ty := .int) C (cl_35 ho) rfl rfl rfl (by decide) inX11z tyX11_ok nmX11 fl_X11_93 rfl (by decide +kernel) rfl rfl (Nat.le_of_ble_eq_true rfl) hd hn kk
theorem gt_X11_100 {w : WX} {adr : Nat → Nat → Nat} {k : KX} {cc : ByteArray} {nL fr lo : Nat} {pc n : Nat} {lv : List (Nat × Value)} {st : List Value} {S : St} {F : Op} (C : Cx w adr k cc RX11 nL fr lo) {o : Nat} (ho : o < 1) (hd : decode cc pc = .ok (.getfield 100, 3)) (hn : pc + 3 = n) (kk : Ge w adr k n lv (.int (S 35 o 5) :: st) S F) : Ge w adr k pc lv (.ref (adr 35 o) :: st) S F := ge_get (j := 5) C (cl_35 ho) rfl rfl (by decide) inX11z fl_X11_100 rfl hd hn kk
theorem pt_X11_100 {w : WX} {adr : Nat → Nat → Nat} {k : KX} {cc : ByteArray} {nL fr lo : Nat} {pc n : Nat} {lv : List (Nat × Value)} {st : List Value} {S : St} (C : Cx w adr k cc RX11 nL fr lo) {o : Nat} (ho : o < 1) {x : Int32} {f : St → Op} (hd : decode cc pc = .ok (.putfield 100, 3)) (hn : pc + 3 = n) (kk : ∀ S1 : St, Ge w adr k n lv st S1 (f S1)) : Ge w adr k pc lv (.int x :: .ref (adr 35 o) :: st) S (bs (wr S 35 o 5 x) f) := ge_putg (j := 5) (ty := .int) C (cl_35 ho) rfl rfl rfl (by decide) inX11z tyX11_ok nmX11 fl_X11_100 rfl (by decide +kernel) rfl rfl (Nat.le_of_ble_eq_true rfl) hd hn kk
theorem gt_X11_108 {w : WX} {adr : Nat → Nat → Nat} {k : KX} {cc : ByteArray} {nL fr lo : Nat} {pc n : Nat} {lv : List (Nat × Value)} {st : List Value} {S : St} {F : Op} (C : Cx w adr k cc RX11 nL fr lo) {o : Nat} (ho : o < 1) (hd : decode cc pc = .ok (.getfield 108, 3)) (hn : pc + 3 = n) (kk : Ge w adr k n lv (.int (S 35 o 18) :: st) S F) : Ge w adr k pc lv (.ref (adr 35 o) :: st) S F := ge_get (j := 18) C (cl_35 ho) rfl rfl (by decide) inX11z fl_X11_108 rfl hd hn kk
theorem pt_X11_108 {w : WX} {adr : Nat → Nat → Nat} {k : KX} {cc : ByteArray} {nL fr lo : Nat} {pc n : Nat} {lv : List (Nat × Value)} {st : List Value} {S : St} (C : Cx w adr k cc RX11 nL fr lo) {o : Nat} (ho : o < 1) {x : Int32} {f : St → Op} (hd : decode cc pc = .ok (.putfield 108, 3)) (hn : pc + 3 = n) (kk : ∀ S1 : St, Ge w adr k n lv st S1 (f S1)) : Ge w adr k pc lv (.int x :: .ref (adr 35 o) :: st) S (bs (wr S 35 o 18 x) f) := ge_putg (j := 18) (ty := .int) C (cl_35 ho) rfl rfl rfl (by decide) inX11z tyX11_ok nmX11 fl_X11_108 rfl (by decide +kernel) rfl rfl (Nat.le_of_ble_eq_true rfl) hd hn kk
theorem gt_X11_112 {w : WX} {adr : Nat → Nat → Nat} {k : KX} {cc : ByteArray} {nL fr lo : Nat} {pc n : Nat} {lv : List (Nat × Value)} {st : List Value} {S : St} {F : Op} (C : Cx w adr k cc RX11 nL fr lo) {o : Nat} (ho : o < 1) (hd : decode cc pc = .ok (.getfield 112, 3)) (hn : pc + 3 = n) (kk : Ge w adr k n lv (.int (S 35 o 20) :: st) S F) : Ge w adr k pc lv (.ref (adr 35 o) :: st) S F := ge_get (j := 20) C (cl_35 ho) rfl rfl (by decide) inX11z fl_X11_112 rfl hd hn kk
theorem pt_X11_112 {w : WX} {adr : Nat → Nat → Nat} {k : KX} {cc : ByteArray} {nL fr lo : Nat} {pc n : Nat} {lv : List (Nat × Value)} {st : List Value} {S : St} (C : Cx w adr k cc RX11 nL fr lo) {o : Nat} (ho : o < 1) {x : Int32} {f : St → Op} (hd : decode cc pc = .ok (.putfield 112, 3)) (hn : pc + 3 = n) (kk : ∀ S1 : St, Ge w adr k n lv st S1 (f S1)) : Ge w adr k pc lv (.int x :: .ref (adr 35 o) :: st) S (bs (wr S 35 o 20 x) f) := ge_putg (j := 20) (ty := .int) C (cl_35 ho) rfl rfl rfl (by decide) inX11z tyX11_ok nmX11 fl_X11_112 rfl (by decide +kernel) rfl rfl (Nat.le_of_ble_eq_true rfl) hd hn kk
theorem gt_X11_127 {w : WX} {adr : Nat → Nat → Nat} {k : KX} {cc : ByteArray} {nL fr lo : Nat} {pc n : Nat} {lv : List (Nat × Value)} {st : List Value} {S : St} {F : Op} (C : Cx w adr k cc RX11 nL fr lo) {o : Nat} (ho : o < 1) (hd : decode cc pc = .ok (.getfield 127, 3)) (hn : pc + 3 = n) (kk : Ge w adr k n lv (.int (S 35 o 22) :: st) S F) : Ge w adr k pc lv (.ref (adr 35 o) :: st) S F := ge_get (j := 22) C (cl_35 ho) rfl rfl (by decide) inX11z fl_X11_127 rfl hd hn kk
theorem pt_X11_127 {w : WX} {adr : Nat → Nat → Nat} {k : KX} {cc : ByteArray} {nL fr lo : Nat} {pc n : Nat} {lv : List (Nat × Value)} {st : List Value} {S : St} (C : Cx w adr k cc RX11 nL fr lo) {o : Nat} (ho : o < 1) {x : Int32} {f : St → Op} (hd : decode cc pc = .ok (.putfield 127, 3)) (hn : pc + 3 = n) (kk : ∀ S1 : St, Ge w adr k n lv st S1 (f S1)) : Ge w adr k pc lv (.int x :: .ref (adr 35 o) :: st) S (bs (wr S 35 o 22 x) f) := ge_putg (j := 22) (ty := .int) C (cl_35 ho) rfl rfl rfl (by decide) inX11z tyX11_ok nmX11 fl_X11_127 rfl (by decide +kernel) rfl rfl (Nat.le_of_ble_eq_true rfl) hd hn kk
theorem gt_X11_130 {w : WX} {adr : Nat → Nat → Nat} {k : KX} {cc : ByteArray} {nL fr lo : Nat} {pc n : Nat} {lv : List (Nat × Value)} {st : List Value} {S : St} {F : Op} (C : Cx w adr k cc RX11 nL fr lo) {o : Nat} (ho : o < 1) (hd : decode cc pc = .ok (.getfield 130, 3)) (hn : pc + 3 = n) (kk : Ge w adr k n lv (.int (S 35 o 21) :: st) S F) : Ge w adr k pc lv (.ref (adr 35 o) :: st) S F := ge_get (j := 21) C (cl_35 ho) rfl rfl (by decide) inX11z fl_X11_130 rfl hd hn kk
theorem pt_X11_130 {w : WX} {adr : Nat → Nat → Nat} {k : KX} {cc : ByteArray} {nL fr lo : Nat} {pc n : Nat} {lv : List (Nat × Value)} {st : List Value} {S : St} (C : Cx w adr k cc RX11 nL fr lo) {o : Nat} (ho : o < 1) {x : Int32} {f : St → Op} (hd : decode cc pc = .ok (.putfield 130, 3)) (hn : pc + 3 = n) (kk : ∀ S1 : St, Ge w adr k n lv st S1 (f S1)) : Ge w adr k pc lv (.int x :: .ref (adr 35 o) :: st) S (bs (wr S 35 o 21 x) f) := ge_putg (j := 21) (ty := .int) C (cl_35 ho) rfl rfl rfl (by decide) inX11z tyX11_ok nmX11 fl_X11_130 rfl (by decide +kernel) rfl rfl (Nat.le_of_ble_eq_true rfl) hd hn kk
theorem gt_X11_136 {w : WX} {adr : Nat → Nat → Nat} {k : KX} {cc : ByteArray} {nL fr lo : Nat} {pc n : Nat} {lv : List (Nat × Value)} {st : List Value} {S : St} {F : Op} (C : Cx w adr k cc RX11 nL fr lo) {o : Nat} (ho : o < 1) (hd : decode cc pc = .ok (.getfield 136, 3)) (hn : pc + 3 = n) (kk : Ge w adr k n lv (.int (S 35 o 23) :: st) S F) : Ge w adr k pc lv (.ref (adr 35 o) :: st) S F := ge_get (j := 23) C (cl_35 ho) rfl rfl (by decide) inX11z fl_X11_136 rfl hd hn kk
theorem pt_X11_136 {w : WX} {adr : Nat → Nat → Nat} {k : KX} {cc : ByteArray} {nL fr lo : Nat} {pc n : Nat} {lv : List (Nat × Value)} {st : List Value} {S : St} (C : Cx w adr k cc RX11 nL fr lo) {o : Nat} (ho : o < 1) {x : Int32} {f : St → Op} (hd : decode cc pc = .ok (.putfield 136, 3)) (hn : pc + 3 = n) (kk : ∀ S1 : St, Ge w adr k n lv st S1 (f S1)) : Ge w adr k pc lv (.int x :: .ref (adr 35 o) :: st) S (bs (wr S 35 o 23 x) f) := ge_putg (j := 23) (ty := .int) C (cl_35 ho) rfl rfl rfl (by decide) inX11z tyX11_ok nmX11 fl_X11_136 rfl (by decide +kernel) rfl rfl (Nat.le_of_ble_eq_true rfl) hd hn kk
theorem gt_X11_139 {w : WX} {adr : Nat → Nat → Nat} {k : KX} {cc : ByteArray} {nL fr lo : Nat} {pc n : Nat} {lv : List (Nat × Value)} {st : List Value} {S : St} {F : Op} (C : Cx w adr k cc RX11 nL fr lo) {o : Nat} (ho : o < 1) (hd : decode cc pc = .ok (.getfield 139, 3)) (hn : pc + 3 = n) (kk : Ge w adr k n lv (.int (S 35 o 24) :: st) S F) : Ge w adr k pc lv (.ref (adr 35 o) :: st) S F := ge_get (j := 24) C (cl_35 ho) rfl rfl (by decide) inX11z fl_X11_139 rfl hd hn kk
theorem pt_X11_139 {w : WX} {adr : Nat → Nat → Nat} {k : KX} {cc : ByteArray} {nL fr lo : Nat} {pc n : Nat} {lv : List (Nat × Value)} {st : List Value} {S : St} (C : Cx w adr k cc RX11 nL fr lo) {o : Nat} (ho : o < 1) {x : Int32} {f : St → Op} (hd : decode cc pc = .ok (.putfield 139, 3)) (hn : pc + 3 = n) (kk : ∀ S1 : St, Ge w adr k n lv st S1 (f S1)) : Ge w adr k pc lv (.int x :: .ref (adr 35 o) :: st) S (bs (wr S 35 o 24 x) f) := ge_putg (j := 24) (ty := .int) C (cl_35 ho) rfl rfl rfl (by decide) inX11z tyX11_ok nmX11 fl_X11_139 rfl (by decide +kernel) rfl rfl (Nat.le_of_ble_eq_true rfl) hd hn kk
theorem gt_X11_142 {w : WX} {adr : Nat → Nat → Nat} {k : KX} {cc : ByteArray} {nL fr lo : Nat} {pc n : Nat} {lv : List (Nat × Value)} {st : List Value} {S : St} {F : Op} (C : Cx w adr k cc RX11 nL fr lo) {o : Nat} (ho : o < 1) (hd : decode cc pc = .ok (.getfield 142, 3)) (hn : pc + 3 = n) (kk : Ge w adr k n lv (.int (S 35 o 25) :: st) S F) : Ge w adr k pc lv (.ref (adr 35 o) :: st) S F := ge_get (j := 25) C (cl_35 ho) rfl rfl (by decide) inX11z fl_X11_142 rfl hd hn kk
theorem pt_X11_142 {w : WX} {adr : Nat → Nat → Nat} {k : KX} {cc : ByteArray} {nL fr lo : Nat} {pc n : Nat} {lv : List (Nat × Value)} {st : List Value} {S : St} (C : Cx w adr k cc RX11 nL fr lo) {o : Nat} (ho : o < 1) {x : Int32} {f : St → Op} (hd : decode cc pc = .ok (.putfield 142, 3)) (hn : pc + 3 = n) (kk : ∀ S1 : St, Ge w adr k n lv st S1 (f S1)) : Ge w adr k pc lv (.int x :: .ref (adr 35 o) :: st) S (bs (wr S 35 o 25 x) f) := ge_putg (j := 25) (ty := .int) C (cl_35 ho) rfl rfl rfl (by decide) inX11z tyX11_ok nmX11 fl_X11_142 rfl (by decide +kernel) rfl rfl (Nat.le_of_ble_eq_true rfl) hd hn kk
theorem gt_X11_145 {w : WX} {adr : Nat → Nat → Nat} {k : KX} {cc : ByteArray} {nL fr lo : Nat} {pc n : Nat} {lv : List (Nat × Value)} {st : List Value} {S : St} {F : Op} (C : Cx w adr k cc RX11 nL fr lo) {o : Nat} (ho : o < 1) (hd : decode cc pc = .ok (.getfield 145, 3)) (hn : pc + 3 = n) (kk : Ge w adr k n lv (.int (S 35 o 28) :: st) S F) : Ge w adr k pc lv (.ref (adr 35 o) :: st) S F := ge_get (j := 28) C (cl_35 ho) rfl rfl (by decide) inX11z fl_X11_145 rfl hd hn kk
theorem pt_X11_145 {w : WX} {adr : Nat → Nat → Nat} {k : KX} {cc : ByteArray} {nL fr lo : Nat} {pc n : Nat} {lv : List (Nat × Value)} {st : List Value} {S : St} (C : Cx w adr k cc RX11 nL fr lo) {o : Nat} (ho : o < 1) {x : Int32} {f : St → Op} (hd : decode cc pc = .ok (.putfield 145, 3)) (hn : pc + 3 = n) (kk : ∀ S1 : St, Ge w adr k n lv st S1 (f S1)) : Ge w adr k pc lv (.int x :: .ref (adr 35 o) :: st) S (bs (wr S 35 o 28 x) f) := ge_putg (j := 28) (ty := .int) C (cl_35 ho) rfl rfl rfl (by decide) inX11z tyX11_ok nmX11 fl_X11_145 rfl (by decide +kernel) rfl rfl (Nat.le_of_ble_eq_true rfl) hd hn kk
theorem gt_X11_165 {w : WX} {adr : Nat → Nat → Nat} {k : KX} {cc : ByteArray} {nL fr lo : Nat} {pc n : Nat} {lv : List (Nat × Value)} {st : List Value} {S : St} {F : Op} (C : Cx w adr k cc RX11 nL fr lo) {o : Nat} (ho : o < 1) (hd : decode cc pc = .ok (.getfield 165, 3)) (hn : pc + 3 = n) (kk : Ge w adr k n lv (.int (S 35 o 1) :: st) S F) : Ge w adr k pc lv (.ref (adr 35 o) :: st) S F := ge_get (j := 1) C (cl_35 ho) rfl rfl (by decide) inX11z fl_X11_165 rfl hd hn kk
theorem pt_X11_165 {w : WX} {adr : Nat → Nat → Nat} {k : KX} {cc : ByteArray} {nL fr lo : Nat} {pc n : Nat} {lv : List (Nat × Value)} {st : List Value} {S : St} (C : Cx w adr k cc RX11 nL fr lo) {o : Nat} (ho : o < 1) {x : Int32} {f : St → Op} (hd : decode cc pc = .ok (.putfield 165, 3)) (hn : pc + 3 = n) (kk : ∀ S1 : St, Ge w adr k n lv st S1 (f S1)) : Ge w adr k pc lv (.int x :: .ref (adr 35 o) :: st) S (bs (wr S 35 o 1 x) f) := ge_putg (j := 1) (ty := .int) C (cl_35 ho) rfl rfl rfl (by decide) inX11z tyX11_ok nmX11 fl_X11_165 rfl (by decide +kernel) rfl rfl (Nat.le_of_ble_eq_true rfl) hd hn kk
theorem gt_X11_174 {w : WX} {adr : Nat → Nat → Nat} {k : KX} {cc : ByteArray} {nL fr lo : Nat} {pc n : Nat} {lv : List (Nat × Value)} {st : List Value} {S : St} {F : Op} (C : Cx w adr k cc RX11 nL fr lo) {o : Nat} (ho : o < 1) (hd : decode cc pc = .ok (.getfield 174, 3)) (hn : pc + 3 = n) (kk : Ge w adr k n lv (.int (S 35 o 10) :: st) S F) : Ge w adr k pc lv (.ref (adr 35 o) :: st) S F := ge_get (j := 10) C (cl_35 ho) rfl rfl (by decide) inX11z fl_X11_174 rfl hd hn kk
theorem pt_X11_174 {w : WX} {adr : Nat → Nat → Nat} {k : KX} {cc : ByteArray} {nL fr lo : Nat} {pc n : Nat} {lv : List (Nat × Value)} {st : List Value} {S : St} (C : Cx w adr k cc RX11 nL fr lo) {o : Nat} (ho : o < 1) {x : Int32} {f : St → Op} (hd : decode cc pc = .ok (.putfield 174, 3)) (hn : pc + 3 = n) (kk : ∀ S1 : St, Ge w adr k n lv st S1 (f S1)) : Ge w adr k pc lv (.int x :: .ref (adr 35 o) :: st) S (bs (wr S 35 o 10 x) f) := ge_putg (j := 10) (ty := .int) C (cl_35 ho) rfl rfl rfl (by decide) inX11z tyX11_ok nmX11 fl_X11_174 rfl (by decide +kernel) rfl rfl (Nat.le_of_ble_eq_true rfl) hd hn kk
theorem gt_X11_177 {w : WX} {adr : Nat → Nat → Nat} {k : KX} {cc : ByteArray} {nL fr lo : Nat} {pc n : Nat} {lv : List (Nat × Value)} {st : List Value} {S : St} {F : Op} (C : Cx w adr k cc RX11 nL fr lo) {o : Nat} (ho : o < 1) (hd : decode cc pc = .ok (.getfield 177, 3)) (hn : pc + 3 = n) (kk : Ge w adr k n lv (.int (S 35 o 14) :: st) S F) : Ge w adr k pc lv (.ref (adr 35 o) :: st) S F := ge_get (j := 14) C (cl_35 ho) rfl rfl (by decide) inX11z fl_X11_177 rfl hd hn kk
theorem pt_X11_177 {w : WX} {adr : Nat → Nat → Nat} {k : KX} {cc : ByteArray} {nL fr lo : Nat} {pc n : Nat} {lv : List (Nat × Value)} {st : List Value} {S : St} (C : Cx w adr k cc RX11 nL fr lo) {o : Nat} (ho : o < 1) {x : Int32} {f : St → Op} (hd : decode cc pc = .ok (.putfield 177, 3)) (hn : pc + 3 = n) (kk : ∀ S1 : St, Ge w adr k n lv st S1 (f S1)) : Ge w adr k pc lv (.int x :: .ref (adr 35 o) :: st) S (bs (wr S 35 o 14 x) f) := ge_putg (j := 14) (ty := .int) C (cl_35 ho) rfl rfl rfl (by decide) inX11z tyX11_ok nmX11 fl_X11_177 rfl (by decide +kernel) rfl rfl (Nat.le_of_ble_eq_true rfl) hd hn kk
theorem gt_X11_180 {w : WX} {adr : Nat → Nat → Nat} {k : KX} {cc : ByteArray} {nL fr lo : Nat} {pc n : Nat} {lv : List (Nat × Value)} {st : List Value} {S : St} {F : Op} (C : Cx w adr k cc RX11 nL fr lo) {o : Nat} (ho : o < 1) (hd : decode cc pc = .ok (.getfield 180, 3)) (hn : pc + 3 = n) (kk : Ge w adr k n lv (.int (S 35 o 34) :: st) S F) : Ge w adr k pc lv (.ref (adr 35 o) :: st) S F := ge_get (j := 34) C (cl_35 ho) rfl rfl (by decide) inX11z fl_X11_180 rfl hd hn kk
theorem pt_X11_180 {w : WX} {adr : Nat → Nat → Nat} {k : KX} {cc : ByteArray} {nL fr lo : Nat} {pc n : Nat} {lv : List (Nat × Value)} {st : List Value} {S : St} (C : Cx w adr k cc RX11 nL fr lo) {o : Nat} (ho : o < 1) {x : Int32} {f : St → Op} (hd : decode cc pc = .ok (.putfield 180, 3)) (hn : pc + 3 = n) (kk : ∀ S1 : St, Ge w adr k n lv st S1 (f S1)) : Ge w adr k pc lv (.int x :: .ref (adr 35 o) :: st) S (bs (wr S 35 o 34 x) f) := ge_putg (j := 34) (ty := .int) C (cl_35 ho) rfl rfl rfl (by decide) inX11z tyX11_ok nmX11 fl_X11_180 rfl (by decide +kernel) rfl rfl (Nat.le_of_ble_eq_true rfl) hd hn kk
theorem gt_X11_265 {w : WX} {adr : Nat → Nat → Nat} {k : KX} {cc : ByteArray} {nL fr lo : Nat} {pc n : Nat} {lv : List (Nat × Value)} {st : List Value} {S : St} {F : Op} (C : Cx w adr k cc RX11 nL fr lo) {o : Nat} (ho : o < 1) (hd : decode cc pc = .ok (.getfield 265, 3)) (hn : pc + 3 = n) (kk : Ge w adr k n lv (.int (S 35 o 9) :: st) S F) : Ge w adr k pc lv (.ref (adr 35 o) :: st) S F := ge_get (j := 9) C (cl_35 ho) rfl rfl (by decide) inX11z fl_X11_265 rfl hd hn kk
theorem pt_X11_265 {w : WX} {adr : Nat → Nat → Nat} {k : KX} {cc : ByteArray} {nL fr lo : Nat} {pc n : Nat} {lv : List (Nat × Value)} {st : List Value} {S : St} (C : Cx w adr k cc RX11 nL fr lo) {o : Nat} (ho : o < 1) {x : Int32} {f : St → Op} (hd : decode cc pc = .ok (.putfield 265, 3)) (hn : pc + 3 = n) (kk : ∀ S1 : St, Ge w adr k n lv st S1 (f S1)) : Ge w adr k pc lv (.int x :: .ref (adr 35 o) :: st) S (bs (wr S 35 o 9 x) f) := ge_putg (j := 9) (ty := .int) C (cl_35 ho) rfl rfl rfl (by decide) inX11z tyX11_ok nmX11 fl_X11_265 rfl (by decide +kernel) rfl rfl (Nat.le_of_ble_eq_true rfl) hd hn kk
theorem al_2 {w : WX} {adr : Nat → Nat → Nat} {k : KX} {cc : ByteArray} {nL fr lo : Nat} {pc n : Nat} {lv : List (Nat × Value)} {st : List Value} {S : St} {F : Op} {own : String} (C : Cx w adr k cc own nL fr lo) {o : Nat} (ho : o < 1) {i : Int32} (hd : decode cc pc = .ok (.iaload, 1)) (hn : pc + 1 = n) (kk : Ge w adr k n lv (.int (S 2 o i.toNatClampNeg) :: st) S F) : Ge w adr k pc lv (.int i :: .ref (adr 2 o) :: st) S (ck i 240 F) := ge_iald C (cl_2 ho) rfl hd hn (fun _ => kk)
theorem as_2 {w : WX} {adr : Nat → Nat → Nat} {k : KX} {cc : ByteArray} {nL fr lo : Nat} {pc n : Nat} {lv : List (Nat × Value)} {st : List Value} {S : St} {own : String} (C : Cx w adr k cc own nL fr lo) {o : Nat} (ho : o < 1) {i x : Int32} {f : St → Op} (hd : decode cc pc = .ok (.iastore, 1)) (hn : pc + 1 = n) (kk : ∀ S1 : St, Ge w adr k n lv st S1 (f S1)) : Ge w adr k pc lv (.int x :: .int i :: .ref (adr 2 o) :: st) S (ck i 240 (bs (wr S 2 o i.toNatClampNeg x) f)) := ge_iast C (cl_2 ho) (fun _ => rfl) hd hn kk
theorem al_4 {w : WX} {adr : Nat → Nat → Nat} {k : KX} {cc : ByteArray} {nL fr lo : Nat} {pc n : Nat} {lv : List (Nat × Value)} {st : List Value} {S : St} {F : Op} {own : String} (C : Cx w adr k cc own nL fr lo) {o : Nat} (ho : o < 2) {i : Int32} (hd : decode cc pc = .ok (.iaload, 1)) (hn : pc + 1 = n) (kk : Ge w adr k n lv (.int (S 4 o i.toNatClampNeg) :: st) S F) : Ge w adr k pc lv (.int i :: .ref (adr 4 o) :: st) S (ck i 6 F) := ge_iald C (cl_4 ho) rfl hd hn (fun _ => kk)
theorem as_4 {w : WX} {adr : Nat → Nat → Nat} {k : KX} {cc : ByteArray} {nL fr lo : Nat} {pc n : Nat} {lv : List (Nat × Value)} {st : List Value} {S : St} {own : String} (C : Cx w adr k cc own nL fr lo) {o : Nat} (ho : o < 2) {i x : Int32} {f : St → Op} (hd : decode cc pc = .ok (.iastore, 1)) (hn : pc + 1 = n) (kk : ∀ S1 : St, Ge w adr k n lv st S1 (f S1)) : Ge w adr k pc lv (.int x :: .int i :: .ref (adr 4 o) :: st) S (ck i 6 (bs (wr S 4 o i.toNatClampNeg x) f)) := ge_iast C (cl_4 ho) (fun _ => rfl) hd hn kk
theorem al_5 {w : WX} {adr : Nat → Nat → Nat} {k : KX} {cc : ByteArray} {nL fr lo : Nat} {pc n : Nat} {lv : List (Nat × Value)} {st : List Value} {S : St} {F : Op} {own : String} (C : Cx w adr k cc own nL fr lo) {o : Nat} (ho : o < 2) {i : Int32} (hd : decode cc pc = .ok (.aaload, 1)) (hn : pc + 1 = n) (kk : ¬ (i < 0 ∨ 6 ≤ i.toNatClampNeg) → Ge w adr k n lv (.ref (adr 6 (6 * o + i.toNatClampNeg)) :: st) S F) : Ge w adr k pc lv (.int i :: .ref (adr 5 o) :: st) S (ck i 6 F) := ge_aald (t0 := 3) (g := fun i => adr 6 (6 * o + i)) C (cl_5 ho) rfl rfl rfl hd hn kk
theorem al_6 {w : WX} {adr : Nat → Nat → Nat} {k : KX} {cc : ByteArray} {nL fr lo : Nat} {pc n : Nat} {lv : List (Nat × Value)} {st : List Value} {S : St} {F : Op} {own : String} (C : Cx w adr k cc own nL fr lo) {o : Nat} (ho : o < 12) {i : Int32} (hd : decode cc pc = .ok (.iaload, 1)) (hn : pc + 1 = n) (kk : Ge w adr k n lv (.int (S 6 o i.toNatClampNeg) :: st) S F) : Ge w adr k pc lv (.int i :: .ref (adr 6 o) :: st) S (ck i 5 F) := ge_iald C (cl_6 ho) rfl hd hn (fun _ => kk)
theorem as_6 {w : WX} {adr : Nat → Nat → Nat} {k : KX} {cc : ByteArray} {nL fr lo : Nat} {pc n : Nat} {lv : List (Nat × Value)} {st : List Value} {S : St} {own : String} (C : Cx w adr k cc own nL fr lo) {o : Nat} (ho : o < 12) {i x : Int32} {f : St → Op} (hd : decode cc pc = .ok (.iastore, 1)) (hn : pc + 1 = n) (kk : ∀ S1 : St, Ge w adr k n lv st S1 (f S1)) : Ge w adr k pc lv (.int x :: .int i :: .ref (adr 6 o) :: st) S (ck i 5 (bs (wr S 6 o i.toNatClampNeg x) f)) := ge_iast C (cl_6 ho) (fun _ => rfl) hd hn kk
theorem al_7 {w : WX} {adr : Nat → Nat → Nat} {k : KX} {cc : ByteArray} {nL fr lo : Nat} {pc n : Nat} {lv : List (Nat × Value)} {st : List Value} {S : St} {F : Op} {own : String} (C : Cx w adr k cc own nL fr lo) {o : Nat} (ho : o < 2) {i : Int32} (hd : decode cc pc = .ok (.iaload, 1)) (hn : pc + 1 = n) (kk : Ge w adr k n lv (.int (S 7 o i.toNatClampNeg) :: st) S F) : Ge w adr k pc lv (.int i :: .ref (adr 7 o) :: st) S (ck i 8 F) := ge_iald C (cl_7 ho) rfl hd hn (fun _ => kk)
theorem as_7 {w : WX} {adr : Nat → Nat → Nat} {k : KX} {cc : ByteArray} {nL fr lo : Nat} {pc n : Nat} {lv : List (Nat × Value)} {st : List Value} {S : St} {own : String} (C : Cx w adr k cc own nL fr lo) {o : Nat} (ho : o < 2) {i x : Int32} {f : St → Op} (hd : decode cc pc = .ok (.iastore, 1)) (hn : pc + 1 = n) (kk : ∀ S1 : St, Ge w adr k n lv st S1 (f S1)) : Ge w adr k pc lv (.int x :: .int i :: .ref (adr 7 o) :: st) S (ck i 8 (bs (wr S 7 o i.toNatClampNeg x) f)) := ge_iast C (cl_7 ho) (fun _ => rfl) hd hn kk
theorem al_8 {w : WX} {adr : Nat → Nat → Nat} {k : KX} {cc : ByteArray} {nL fr lo : Nat} {pc n : Nat} {lv : List (Nat × Value)} {st : List Value} {S : St} {F : Op} {own : String} (C : Cx w adr k cc own nL fr lo) {o : Nat} (ho : o < 2) {i : Int32} (hd : decode cc pc = .ok (.iaload, 1)) (hn : pc + 1 = n) (kk : Ge w adr k n lv (.int (S 8 o i.toNatClampNeg) :: st) S F) : Ge w adr k pc lv (.int i :: .ref (adr 8 o) :: st) S (ck i 8 F) := ge_iald C (cl_8 ho) rfl hd hn (fun _ => kk)
theorem as_8 {w : WX} {adr : Nat → Nat → Nat} {k : KX} {cc : ByteArray} {nL fr lo : Nat} {pc n : Nat} {lv : List (Nat × Value)} {st : List Value} {S : St} {own : String} (C : Cx w adr k cc own nL fr lo) {o : Nat} (ho : o < 2) {i x : Int32} {f : St → Op} (hd : decode cc pc = .ok (.iastore, 1)) (hn : pc + 1 = n) (kk : ∀ S1 : St, Ge w adr k n lv st S1 (f S1)) : Ge w adr k pc lv (.int x :: .int i :: .ref (adr 8 o) :: st) S (ck i 8 (bs (wr S 8 o i.toNatClampNeg x) f)) := ge_iast C (cl_8 ho) (fun _ => rfl) hd hn kk
theorem al_10 {w : WX} {adr : Nat → Nat → Nat} {k : KX} {cc : ByteArray} {nL fr lo : Nat} {pc n : Nat} {lv : List (Nat × Value)} {st : List Value} {S : St} {F : Op} {own : String} (C : Cx w adr k cc own nL fr lo) {o : Nat} (ho : o < 1) {i : Int32} (hd : decode cc pc = .ok (.aaload, 1)) (hn : pc + 1 = n) (kk : ¬ (i < 0 ∨ 6 ≤ i.toNatClampNeg) → Ge w adr k n lv (.ref (adr 11 i.toNatClampNeg) :: st) S F) : Ge w adr k pc lv (.int i :: .ref (adr 10 o) :: st) S (ck i 6 F) := ge_aald (t0 := 2) (g := fun i => adr 11 i) C (cl_10 ho) rfl rfl rfl hd hn kk
theorem al_12 {w : WX} {adr : Nat → Nat → Nat} {k : KX} {cc : ByteArray} {nL fr lo : Nat} {pc n : Nat} {lv : List (Nat × Value)} {st : List Value} {S : St} {F : Op} {own : String} (C : Cx w adr k cc own nL fr lo) {o : Nat} (ho : o < 7) {i : Int32} (hd : decode cc pc = .ok (.iaload, 1)) (hn : pc + 1 = n) (kk : Ge w adr k n lv (.int (S 12 o i.toNatClampNeg) :: st) S F) : Ge w adr k pc lv (.int i :: .ref (adr 12 o) :: st) S (ck i 5 F) := ge_iald C (cl_12 ho) rfl hd hn (fun _ => kk)
theorem as_12 {w : WX} {adr : Nat → Nat → Nat} {k : KX} {cc : ByteArray} {nL fr lo : Nat} {pc n : Nat} {lv : List (Nat × Value)} {st : List Value} {S : St} {own : String} (C : Cx w adr k cc own nL fr lo) {o : Nat} (ho : o < 7) {i x : Int32} {f : St → Op} (hd : decode cc pc = .ok (.iastore, 1)) (hn : pc + 1 = n) (kk : ∀ S1 : St, Ge w adr k n lv st S1 (f S1)) : Ge w adr k pc lv (.int x :: .int i :: .ref (adr 12 o) :: st) S (ck i 5 (bs (wr S 12 o i.toNatClampNeg x) f)) := ge_iast C (cl_12 ho) (fun _ => rfl) hd hn kk
theorem al_13 {w : WX} {adr : Nat → Nat → Nat} {k : KX} {cc : ByteArray} {nL fr lo : Nat} {pc n : Nat} {lv : List (Nat × Value)} {st : List Value} {S : St} {F : Op} {own : String} (C : Cx w adr k cc own nL fr lo) {o : Nat} (ho : o < 7) {i : Int32} (hd : decode cc pc = .ok (.iaload, 1)) (hn : pc + 1 = n) (kk : Ge w adr k n lv (.int (S 13 o i.toNatClampNeg) :: st) S F) : Ge w adr k pc lv (.int i :: .ref (adr 13 o) :: st) S (ck i 5 F) := ge_iald C (cl_13 ho) rfl hd hn (fun _ => kk)
theorem as_13 {w : WX} {adr : Nat → Nat → Nat} {k : KX} {cc : ByteArray} {nL fr lo : Nat} {pc n : Nat} {lv : List (Nat × Value)} {st : List Value} {S : St} {own : String} (C : Cx w adr k cc own nL fr lo) {o : Nat} (ho : o < 7) {i x : Int32} {f : St → Op} (hd : decode cc pc = .ok (.iastore, 1)) (hn : pc + 1 = n) (kk : ∀ S1 : St, Ge w adr k n lv st S1 (f S1)) : Ge w adr k pc lv (.int x :: .int i :: .ref (adr 13 o) :: st) S (ck i 5 (bs (wr S 13 o i.toNatClampNeg x) f)) := ge_iast C (cl_13 ho) (fun _ => rfl) hd hn kk
theorem al_15 {w : WX} {adr : Nat → Nat → Nat} {k : KX} {cc : ByteArray} {nL fr lo : Nat} {pc n : Nat} {lv : List (Nat × Value)} {st : List Value} {S : St} {F : Op} {own : String} (C : Cx w adr k cc own nL fr lo) {o : Nat} (ho : o < 1) {i : Int32} (hd : decode cc pc = .ok (.aaload, 1)) (hn : pc + 1 = n) (kk : ¬ (i < 0 ∨ 16 ≤ i.toNatClampNeg) → Ge w adr k n lv (.ref (adr 17 i.toNatClampNeg) :: st) S F) : Ge w adr k pc lv (.int i :: .ref (adr 15 o) :: st) S (ck i 16 F) := ge_aald (t0 := 3) (g := fun i => adr 17 i) C (cl_15 ho) rfl rfl rfl hd hn kk
theorem al_16 {w : WX} {adr : Nat → Nat → Nat} {k : KX} {cc : ByteArray} {nL fr lo : Nat} {pc n : Nat} {lv : List (Nat × Value)} {st : List Value} {S : St} {F : Op} {own : String} (C : Cx w adr k cc own nL fr lo) {o : Nat} (ho : o < 1) {i : Int32} (hd : decode cc pc = .ok (.aaload, 1)) (hn : pc + 1 = n) (kk : ¬ (i < 0 ∨ 2 ≤ i.toNatClampNeg) → Ge w adr k n lv (.ref (adr 17 (16 + i.toNatClampNeg)) :: st) S F) : Ge w adr k pc lv (.int i :: .ref (adr 16 o) :: st) S (ck i 2 F) := ge_aald (t0 := 3) (g := fun i => adr 17 (16 + i)) C (cl_16 ho) rfl rfl rfl hd hn kk
theorem al_17 {w : WX} {adr : Nat → Nat → Nat} {k : KX} {cc : ByteArray} {nL fr lo : Nat} {pc n : Nat} {lv : List (Nat × Value)} {st : List Value} {S : St} {F : Op} {own : String} (C : Cx w adr k cc own nL fr lo) {o : Nat} (ho : o < 18) {i : Int32} (hd : decode cc pc = .ok (.iaload, 1)) (hn : pc + 1 = n) (kk : Ge w adr k n lv (.int (S 17 o i.toNatClampNeg) :: st) S F) : Ge w adr k pc lv (.int i :: .ref (adr 17 o) :: st) S (ck i 75 F) := ge_iald C (cl_17 ho) rfl hd hn (fun _ => kk)
theorem as_17 {w : WX} {adr : Nat → Nat → Nat} {k : KX} {cc : ByteArray} {nL fr lo : Nat} {pc n : Nat} {lv : List (Nat × Value)} {st : List Value} {S : St} {own : String} (C : Cx w adr k cc own nL fr lo) {o : Nat} (ho : o < 18) {i x : Int32} {f : St → Op} (hd : decode cc pc = .ok (.iastore, 1)) (hn : pc + 1 = n) (kk : ∀ S1 : St, Ge w adr k n lv st S1 (f S1)) : Ge w adr k pc lv (.int x :: .int i :: .ref (adr 17 o) :: st) S (ck i 75 (bs (wr S 17 o i.toNatClampNeg x) f)) := ge_iast C (cl_17 ho) (fun _ => rfl) hd hn kk
theorem al_18 {w : WX} {adr : Nat → Nat → Nat} {k : KX} {cc : ByteArray} {nL fr lo : Nat} {pc n : Nat} {lv : List (Nat × Value)} {st : List Value} {S : St} {F : Op} {own : String} (C : Cx w adr k cc own nL fr lo) {o : Nat} (ho : o < 1) {i : Int32} (hd : decode cc pc = .ok (.iaload, 1)) (hn : pc + 1 = n) (kk : Ge w adr k n lv (.int (S 18 o i.toNatClampNeg) :: st) S F) : Ge w adr k pc lv (.int i :: .ref (adr 18 o) :: st) S (ck i 2 F) := ge_iald C (cl_18 ho) rfl hd hn (fun _ => kk)
theorem as_18 {w : WX} {adr : Nat → Nat → Nat} {k : KX} {cc : ByteArray} {nL fr lo : Nat} {pc n : Nat} {lv : List (Nat × Value)} {st : List Value} {S : St} {own : String} (C : Cx w adr k cc own nL fr lo) {o : Nat} (ho : o < 1) {i x : Int32} {f : St → Op} (hd : decode cc pc = .ok (.iastore, 1)) (hn : pc + 1 = n) (kk : ∀ S1 : St, Ge w adr k n lv st S1 (f S1)) : Ge w adr k pc lv (.int x :: .int i :: .ref (adr 18 o) :: st) S (ck i 2 (bs (wr S 18 o i.toNatClampNeg x) f)) := ge_iast C (cl_18 ho) (fun _ => rfl) hd hn kk
theorem al_21 {w : WX} {adr : Nat → Nat → Nat} {k : KX} {cc : ByteArray} {nL fr lo : Nat} {pc n : Nat} {lv : List (Nat × Value)} {st : List Value} {S : St} {F : Op} {own : String} (C : Cx w adr k cc own nL fr lo) {o : Nat} (ho : o < 1) {i : Int32} (hd : decode cc pc = .ok (.iaload, 1)) (hn : pc + 1 = n) (kk : Ge w adr k n lv (.int (S 21 o i.toNatClampNeg) :: st) S F) : Ge w adr k pc lv (.int i :: .ref (adr 21 o) :: st) S (ck i 6 F) := ge_iald C (cl_21 ho) rfl hd hn (fun _ => kk)
theorem as_21 {w : WX} {adr : Nat → Nat → Nat} {k : KX} {cc : ByteArray} {nL fr lo : Nat} {pc n : Nat} {lv : List (Nat × Value)} {st : List Value} {S : St} {own : String} (C : Cx w adr k cc own nL fr lo) {o : Nat} (ho : o < 1) {i x : Int32} {f : St → Op} (hd : decode cc pc = .ok (.iastore, 1)) (hn : pc + 1 = n) (kk : ∀ S1 : St, Ge w adr k n lv st S1 (f S1)) : Ge w adr k pc lv (.int x :: .int i :: .ref (adr 21 o) :: st) S (ck i 6 (bs (wr S 21 o i.toNatClampNeg x) f)) := ge_iast C (cl_21 ho) (fun _ => rfl) hd hn kk
theorem al_22 {w : WX} {adr : Nat → Nat → Nat} {k : KX} {cc : ByteArray} {nL fr lo : Nat} {pc n : Nat} {lv : List (Nat × Value)} {st : List Value} {S : St} {F : Op} {own : String} (C : Cx w adr k cc own nL fr lo) {o : Nat} (ho : o < 1) {i : Int32} (hd : decode cc pc = .ok (.iaload, 1)) (hn : pc + 1 = n) (kk : Ge w adr k n lv (.int (S 22 o i.toNatClampNeg) :: st) S F) : Ge w adr k pc lv (.int i :: .ref (adr 22 o) :: st) S (ck i 6 F) := ge_iald C (cl_22 ho) rfl hd hn (fun _ => kk)
theorem as_22 {w : WX} {adr : Nat → Nat → Nat} {k : KX} {cc : ByteArray} {nL fr lo : Nat} {pc n : Nat} {lv : List (Nat × Value)} {st : List Value} {S : St} {own : String} (C : Cx w adr k cc own nL fr lo) {o : Nat} (ho : o < 1) {i x : Int32} {f : St → Op} (hd : decode cc pc = .ok (.iastore, 1)) (hn : pc + 1 = n) (kk : ∀ S1 : St, Ge w adr k n lv st S1 (f S1)) : Ge w adr k pc lv (.int x :: .int i :: .ref (adr 22 o) :: st) S (ck i 6 (bs (wr S 22 o i.toNatClampNeg x) f)) := ge_iast C (cl_22 ho) (fun _ => rfl) hd hn kk
theorem al_23 {w : WX} {adr : Nat → Nat → Nat} {k : KX} {cc : ByteArray} {nL fr lo : Nat} {pc n : Nat} {lv : List (Nat × Value)} {st : List Value} {S : St} {F : Op} {own : String} (C : Cx w adr k cc own nL fr lo) {o : Nat} (ho : o < 1) {i : Int32} (hd : decode cc pc = .ok (.iaload, 1)) (hn : pc + 1 = n) (kk : Ge w adr k n lv (.int (S 23 o i.toNatClampNeg) :: st) S F) : Ge w adr k pc lv (.int i :: .ref (adr 23 o) :: st) S (ck i 6 F) := ge_iald C (cl_23 ho) rfl hd hn (fun _ => kk)
theorem as_23 {w : WX} {adr : Nat → Nat → Nat} {k : KX} {cc : ByteArray} {nL fr lo : Nat} {pc n : Nat} {lv : List (Nat × Value)} {st : List Value} {S : St} {own : String} (C : Cx w adr k cc own nL fr lo) {o : Nat} (ho : o < 1) {i x : Int32} {f : St → Op} (hd : decode cc pc = .ok (.iastore, 1)) (hn : pc + 1 = n) (kk : ∀ S1 : St, Ge w adr k n lv st S1 (f S1)) : Ge w adr k pc lv (.int x :: .int i :: .ref (adr 23 o) :: st) S (ck i 6 (bs (wr S 23 o i.toNatClampNeg x) f)) := ge_iast C (cl_23 ho) (fun _ => rfl) hd hn kk
theorem al_24 {w : WX} {adr : Nat → Nat → Nat} {k : KX} {cc : ByteArray} {nL fr lo : Nat} {pc n : Nat} {lv : List (Nat × Value)} {st : List Value} {S : St} {F : Op} {own : String} (C : Cx w adr k cc own nL fr lo) {o : Nat} (ho : o < 1) {i : Int32} (hd : decode cc pc = .ok (.iaload, 1)) (hn : pc + 1 = n) (kk : Ge w adr k n lv (.int (S 24 o i.toNatClampNeg) :: st) S F) : Ge w adr k pc lv (.int i :: .ref (adr 24 o) :: st) S (ck i 8 F) := ge_iald C (cl_24 ho) rfl hd hn (fun _ => kk)
theorem as_24 {w : WX} {adr : Nat → Nat → Nat} {k : KX} {cc : ByteArray} {nL fr lo : Nat} {pc n : Nat} {lv : List (Nat × Value)} {st : List Value} {S : St} {own : String} (C : Cx w adr k cc own nL fr lo) {o : Nat} (ho : o < 1) {i x : Int32} {f : St → Op} (hd : decode cc pc = .ok (.iastore, 1)) (hn : pc + 1 = n) (kk : ∀ S1 : St, Ge w adr k n lv st S1 (f S1)) : Ge w adr k pc lv (.int x :: .int i :: .ref (adr 24 o) :: st) S (ck i 8 (bs (wr S 24 o i.toNatClampNeg x) f)) := ge_iast C (cl_24 ho) (fun _ => rfl) hd hn kk
theorem al_25 {w : WX} {adr : Nat → Nat → Nat} {k : KX} {cc : ByteArray} {nL fr lo : Nat} {pc n : Nat} {lv : List (Nat × Value)} {st : List Value} {S : St} {F : Op} {own : String} (C : Cx w adr k cc own nL fr lo) {o : Nat} (ho : o < 1) {i : Int32} (hd : decode cc pc = .ok (.iaload, 1)) (hn : pc + 1 = n) (kk : Ge w adr k n lv (.int (S 25 o i.toNatClampNeg) :: st) S F) : Ge w adr k pc lv (.int i :: .ref (adr 25 o) :: st) S (ck i 8 F) := ge_iald C (cl_25 ho) rfl hd hn (fun _ => kk)
theorem as_25 {w : WX} {adr : Nat → Nat → Nat} {k : KX} {cc : ByteArray} {nL fr lo : Nat} {pc n : Nat} {lv : List (Nat × Value)} {st : List Value} {S : St} {own : String} (C : Cx w adr k cc own nL fr lo) {o : Nat} (ho : o < 1) {i x : Int32} {f : St → Op} (hd : decode cc pc = .ok (.iastore, 1)) (hn : pc + 1 = n) (kk : ∀ S1 : St, Ge w adr k n lv st S1 (f S1)) : Ge w adr k pc lv (.int x :: .int i :: .ref (adr 25 o) :: st) S (ck i 8 (bs (wr S 25 o i.toNatClampNeg x) f)) := ge_iast C (cl_25 ho) (fun _ => rfl) hd hn kk
theorem al_26 {w : WX} {adr : Nat → Nat → Nat} {k : KX} {cc : ByteArray} {nL fr lo : Nat} {pc n : Nat} {lv : List (Nat × Value)} {st : List Value} {S : St} {F : Op} {own : String} (C : Cx w adr k cc own nL fr lo) {o : Nat} (ho : o < 1) {i : Int32} (hd : decode cc pc = .ok (.iaload, 1)) (hn : pc + 1 = n) (kk : Ge w adr k n lv (.int (S 26 o i.toNatClampNeg) :: st) S F) : Ge w adr k pc lv (.int i :: .ref (adr 26 o) :: st) S (ck i 8 F) := ge_iald C (cl_26 ho) rfl hd hn (fun _ => kk)
theorem as_26 {w : WX} {adr : Nat → Nat → Nat} {k : KX} {cc : ByteArray} {nL fr lo : Nat} {pc n : Nat} {lv : List (Nat × Value)} {st : List Value} {S : St} {own : String} (C : Cx w adr k cc own nL fr lo) {o : Nat} (ho : o < 1) {i x : Int32} {f : St → Op} (hd : decode cc pc = .ok (.iastore, 1)) (hn : pc + 1 = n) (kk : ∀ S1 : St, Ge w adr k n lv st S1 (f S1)) : Ge w adr k pc lv (.int x :: .int i :: .ref (adr 26 o) :: st) S (ck i 8 (bs (wr S 26 o i.toNatClampNeg x) f)) := ge_iast C (cl_26 ho) (fun _ => rfl) hd hn kk
theorem al_28 {w : WX} {adr : Nat → Nat → Nat} {k : KX} {cc : ByteArray} {nL fr lo : Nat} {pc n : Nat} {lv : List (Nat × Value)} {st : List Value} {S : St} {F : Op} {own : String} (C : Cx w adr k cc own nL fr lo) {o : Nat} (ho : o < 1) {i : Int32} (hd : decode cc pc = .ok (.iaload, 1)) (hn : pc + 1 = n) (kk : Ge w adr k n lv (.int (S 28 o i.toNatClampNeg) :: st) S F) : Ge w adr k pc lv (.int i :: .ref (adr 28 o) :: st) S (ck i 15 F) := ge_iald C (cl_28 ho) rfl hd hn (fun _ => kk)
theorem as_28 {w : WX} {adr : Nat → Nat → Nat} {k : KX} {cc : ByteArray} {nL fr lo : Nat} {pc n : Nat} {lv : List (Nat × Value)} {st : List Value} {S : St} {own : String} (C : Cx w adr k cc own nL fr lo) {o : Nat} (ho : o < 1) {i x : Int32} {f : St → Op} (hd : decode cc pc = .ok (.iastore, 1)) (hn : pc + 1 = n) (kk : ∀ S1 : St, Ge w adr k n lv st S1 (f S1)) : Ge w adr k pc lv (.int x :: .int i :: .ref (adr 28 o) :: st) S (ck i 15 (bs (wr S 28 o i.toNatClampNeg x) f)) := ge_iast C (cl_28 ho) (fun _ => rfl) hd hn kk
theorem al_29 {w : WX} {adr : Nat → Nat → Nat} {k : KX} {cc : ByteArray} {nL fr lo : Nat} {pc n : Nat} {lv : List (Nat × Value)} {st : List Value} {S : St} {F : Op} {own : String} (C : Cx w adr k cc own nL fr lo) {o : Nat} (ho : o < 1) {i : Int32} (hd : decode cc pc = .ok (.iaload, 1)) (hn : pc + 1 = n) (kk : Ge w adr k n lv (.int (S 29 o i.toNatClampNeg) :: st) S F) : Ge w adr k pc lv (.int i :: .ref (adr 29 o) :: st) S (ck i 15 F) := ge_iald C (cl_29 ho) rfl hd hn (fun _ => kk)
theorem as_29 {w : WX} {adr : Nat → Nat → Nat} {k : KX} {cc : ByteArray} {nL fr lo : Nat} {pc n : Nat} {lv : List (Nat × Value)} {st : List Value} {S : St} {own : String} (C : Cx w adr k cc own nL fr lo) {o : Nat} (ho : o < 1) {i x : Int32} {f : St → Op} (hd : decode cc pc = .ok (.iastore, 1)) (hn : pc + 1 = n) (kk : ∀ S1 : St, Ge w adr k n lv st S1 (f S1)) : Ge w adr k pc lv (.int x :: .int i :: .ref (adr 29 o) :: st) S (ck i 15 (bs (wr S 29 o i.toNatClampNeg x) f)) := ge_iast C (cl_29 ho) (fun _ => rfl) hd hn kk
theorem al_32 {w : WX} {adr : Nat → Nat → Nat} {k : KX} {cc : ByteArray} {nL fr lo : Nat} {pc n : Nat} {lv : List (Nat × Value)} {st : List Value} {S : St} {F : Op} {own : String} (C : Cx w adr k cc own nL fr lo) {o : Nat} (ho : o < 1) {i : Int32} (hd : decode cc pc = .ok (.iaload, 1)) (hn : pc + 1 = n) (kk : Ge w adr k n lv (.int (S 32 o i.toNatClampNeg) :: st) S F) : Ge w adr k pc lv (.int i :: .ref (adr 32 o) :: st) S (ck i 6 F) := ge_iald C (cl_32 ho) rfl hd hn (fun _ => kk)
theorem as_32 {w : WX} {adr : Nat → Nat → Nat} {k : KX} {cc : ByteArray} {nL fr lo : Nat} {pc n : Nat} {lv : List (Nat × Value)} {st : List Value} {S : St} {own : String} (C : Cx w adr k cc own nL fr lo) {o : Nat} (ho : o < 1) {i x : Int32} {f : St → Op} (hd : decode cc pc = .ok (.iastore, 1)) (hn : pc + 1 = n) (kk : ∀ S1 : St, Ge w adr k n lv st S1 (f S1)) : Ge w adr k pc lv (.int x :: .int i :: .ref (adr 32 o) :: st) S (ck i 6 (bs (wr S 32 o i.toNatClampNeg x) f)) := ge_iast C (cl_32 ho) (fun _ => rfl) hd hn kk
theorem al_33 {w : WX} {adr : Nat → Nat → Nat} {k : KX} {cc : ByteArray} {nL fr lo : Nat} {pc n : Nat} {lv : List (Nat × Value)} {st : List Value} {S : St} {F : Op} {own : String} (C : Cx w adr k cc own nL fr lo) {o : Nat} (ho : o < 1) {i : Int32} (hd : decode cc pc = .ok (.iaload, 1)) (hn : pc + 1 = n) (kk : Ge w adr k n lv (.int (S 33 o i.toNatClampNeg) :: st) S F) : Ge w adr k pc lv (.int i :: .ref (adr 33 o) :: st) S (ck i 64 F) := ge_iald C (cl_33 ho) rfl hd hn (fun _ => kk)
theorem as_33 {w : WX} {adr : Nat → Nat → Nat} {k : KX} {cc : ByteArray} {nL fr lo : Nat} {pc n : Nat} {lv : List (Nat × Value)} {st : List Value} {S : St} {own : String} (C : Cx w adr k cc own nL fr lo) {o : Nat} (ho : o < 1) {i x : Int32} {f : St → Op} (hd : decode cc pc = .ok (.iastore, 1)) (hn : pc + 1 = n) (kk : ∀ S1 : St, Ge w adr k n lv st S1 (f S1)) : Ge w adr k pc lv (.int x :: .int i :: .ref (adr 33 o) :: st) S (ck i 64 (bs (wr S 33 o i.toNatClampNeg x) f)) := ge_iast C (cl_33 ho) (fun _ => rfl) hd hn kk
theorem al_34 {w : WX} {adr : Nat → Nat → Nat} {k : KX} {cc : ByteArray} {nL fr lo : Nat} {pc n : Nat} {lv : List (Nat × Value)} {st : List Value} {S : St} {F : Op} {own : String} (C : Cx w adr k cc own nL fr lo) {o : Nat} (ho : o < 1) {i : Int32} (hd : decode cc pc = .ok (.iaload, 1)) (hn : pc + 1 = n) (kk : Ge w adr k n lv (.int (S 34 o i.toNatClampNeg) :: st) S F) : Ge w adr k pc lv (.int i :: .ref (adr 34 o) :: st) S (ck i 64 F) := ge_iald C (cl_34 ho) rfl hd hn (fun _ => kk)
theorem as_34 {w : WX} {adr : Nat → Nat → Nat} {k : KX} {cc : ByteArray} {nL fr lo : Nat} {pc n : Nat} {lv : List (Nat × Value)} {st : List Value} {S : St} {own : String} (C : Cx w adr k cc own nL fr lo) {o : Nat} (ho : o < 1) {i x : Int32} {f : St → Op} (hd : decode cc pc = .ok (.iastore, 1)) (hn : pc + 1 = n) (kk : ∀ S1 : St, Ge w adr k n lv st S1 (f S1)) : Ge w adr k pc lv (.int x :: .int i :: .ref (adr 34 o) :: st) S (ck i 64 (bs (wr S 34 o i.toNatClampNeg x) f)) := ge_iast C (cl_34 ho) (fun _ => rfl) hd hn kk
theorem al_36 {w : WX} {adr : Nat → Nat → Nat} {k : KX} {cc : ByteArray} {nL fr lo : Nat} {pc n : Nat} {lv : List (Nat × Value)} {st : List Value} {S : St} {F : Op} {own : String} (C : Cx w adr k cc own nL fr lo) {o : Nat} (ho : o < 1) {i : Int32} (hd : decode cc pc = .ok (.iaload, 1)) (hn : pc + 1 = n) (kk : Ge w adr k n lv (.int (S 36 o i.toNatClampNeg) :: st) S F) : Ge w adr k pc lv (.int i :: .ref (adr 36 o) :: st) S (ck i 6 F) := ge_iald C (cl_36 ho) rfl hd hn (fun _ => kk)
theorem as_36 {w : WX} {adr : Nat → Nat → Nat} {k : KX} {cc : ByteArray} {nL fr lo : Nat} {pc n : Nat} {lv : List (Nat × Value)} {st : List Value} {S : St} {own : String} (C : Cx w adr k cc own nL fr lo) {o : Nat} (ho : o < 1) {i x : Int32} {f : St → Op} (hd : decode cc pc = .ok (.iastore, 1)) (hn : pc + 1 = n) (kk : ∀ S1 : St, Ge w adr k n lv st S1 (f S1)) : Ge w adr k pc lv (.int x :: .int i :: .ref (adr 36 o) :: st) S (ck i 6 (bs (wr S 36 o i.toNatClampNeg x) f)) := ge_iast C (cl_36 ho) (fun _ => rfl) hd hn kk
theorem al_37 {w : WX} {adr : Nat → Nat → Nat} {k : KX} {cc : ByteArray} {nL fr lo : Nat} {pc n : Nat} {lv : List (Nat × Value)} {st : List Value} {S : St} {F : Op} {own : String} (C : Cx w adr k cc own nL fr lo) {o : Nat} (ho : o < 1) {i : Int32} (hd : decode cc pc = .ok (.iaload, 1)) (hn : pc + 1 = n) (kk : Ge w adr k n lv (.int (S 37 o i.toNatClampNeg) :: st) S F) : Ge w adr k pc lv (.int i :: .ref (adr 37 o) :: st) S (ck i 30 F) := ge_iald C (cl_37 ho) rfl hd hn (fun _ => kk)
theorem as_37 {w : WX} {adr : Nat → Nat → Nat} {k : KX} {cc : ByteArray} {nL fr lo : Nat} {pc n : Nat} {lv : List (Nat × Value)} {st : List Value} {S : St} {own : String} (C : Cx w adr k cc own nL fr lo) {o : Nat} (ho : o < 1) {i x : Int32} {f : St → Op} (hd : decode cc pc = .ok (.iastore, 1)) (hn : pc + 1 = n) (kk : ∀ S1 : St, Ge w adr k n lv st S1 (f S1)) : Ge w adr k pc lv (.int x :: .int i :: .ref (adr 37 o) :: st) S (ck i 30 (bs (wr S 37 o i.toNatClampNeg x) f)) := ge_iast C (cl_37 ho) (fun _ => rfl) hd hn kk
theorem al_38 {w : WX} {adr : Nat → Nat → Nat} {k : KX} {cc : ByteArray} {nL fr lo : Nat} {pc n : Nat} {lv : List (Nat × Value)} {st : List Value} {S : St} {F : Op} {own : String} (C : Cx w adr k cc own nL fr lo) {o : Nat} (ho : o < 1) {i : Int32} (hd : decode cc pc = .ok (.iaload, 1)) (hn : pc + 1 = n) (kk : Ge w adr k n lv (.int (S 38 o i.toNatClampNeg) :: st) S F) : Ge w adr k pc lv (.int i :: .ref (adr 38 o) :: st) S (ck i 8 F) := ge_iald C (cl_38 ho) rfl hd hn (fun _ => kk)
theorem as_38 {w : WX} {adr : Nat → Nat → Nat} {k : KX} {cc : ByteArray} {nL fr lo : Nat} {pc n : Nat} {lv : List (Nat × Value)} {st : List Value} {S : St} {own : String} (C : Cx w adr k cc own nL fr lo) {o : Nat} (ho : o < 1) {i x : Int32} {f : St → Op} (hd : decode cc pc = .ok (.iastore, 1)) (hn : pc + 1 = n) (kk : ∀ S1 : St, Ge w adr k n lv st S1 (f S1)) : Ge w adr k pc lv (.int x :: .int i :: .ref (adr 38 o) :: st) S (ck i 8 (bs (wr S 38 o i.toNatClampNeg x) f)) := ge_iast C (cl_38 ho) (fun _ => rfl) hd hn kk
theorem al_39 {w : WX} {adr : Nat → Nat → Nat} {k : KX} {cc : ByteArray} {nL fr lo : Nat} {pc n : Nat} {lv : List (Nat × Value)} {st : List Value} {S : St} {F : Op} {own : String} (C : Cx w adr k cc own nL fr lo) {o : Nat} (ho : o < 1) {i : Int32} (hd : decode cc pc = .ok (.iaload, 1)) (hn : pc + 1 = n) (kk : Ge w adr k n lv (.int (S 39 o i.toNatClampNeg) :: st) S F) : Ge w adr k pc lv (.int i :: .ref (adr 39 o) :: st) S (ck i 8 F) := ge_iald C (cl_39 ho) rfl hd hn (fun _ => kk)
theorem as_39 {w : WX} {adr : Nat → Nat → Nat} {k : KX} {cc : ByteArray} {nL fr lo : Nat} {pc n : Nat} {lv : List (Nat × Value)} {st : List Value} {S : St} {own : String} (C : Cx w adr k cc own nL fr lo) {o : Nat} (ho : o < 1) {i x : Int32} {f : St → Op} (hd : decode cc pc = .ok (.iastore, 1)) (hn : pc + 1 = n) (kk : ∀ S1 : St, Ge w adr k n lv st S1 (f S1)) : Ge w adr k pc lv (.int x :: .int i :: .ref (adr 39 o) :: st) S (ck i 8 (bs (wr S 39 o i.toNatClampNeg x) f)) := ge_iast C (cl_39 ho) (fun _ => rfl) hd hn kk
theorem al_40 {w : WX} {adr : Nat → Nat → Nat} {k : KX} {cc : ByteArray} {nL fr lo : Nat} {pc n : Nat} {lv : List (Nat × Value)} {st : List Value} {S : St} {F : Op} {own : String} (C : Cx w adr k cc own nL fr lo) {o : Nat} (ho : o < 1) {i : Int32} (hd : decode cc pc = .ok (.iaload, 1)) (hn : pc + 1 = n) (kk : Ge w adr k n lv (.int (S 40 o i.toNatClampNeg) :: st) S F) : Ge w adr k pc lv (.int i :: .ref (adr 40 o) :: st) S (ck i 70 F) := ge_iald C (cl_40 ho) rfl hd hn (fun _ => kk)
theorem as_40 {w : WX} {adr : Nat → Nat → Nat} {k : KX} {cc : ByteArray} {nL fr lo : Nat} {pc n : Nat} {lv : List (Nat × Value)} {st : List Value} {S : St} {own : String} (C : Cx w adr k cc own nL fr lo) {o : Nat} (ho : o < 1) {i x : Int32} {f : St → Op} (hd : decode cc pc = .ok (.iastore, 1)) (hn : pc + 1 = n) (kk : ∀ S1 : St, Ge w adr k n lv st S1 (f S1)) : Ge w adr k pc lv (.int x :: .int i :: .ref (adr 40 o) :: st) S (ck i 70 (bs (wr S 40 o i.toNatClampNeg x) f)) := ge_iast C (cl_40 ho) (fun _ => rfl) hd hn kk
theorem al_41 {w : WX} {adr : Nat → Nat → Nat} {k : KX} {cc : ByteArray} {nL fr lo : Nat} {pc n : Nat} {lv : List (Nat × Value)} {st : List Value} {S : St} {F : Op} {own : String} (C : Cx w adr k cc own nL fr lo) {o : Nat} (ho : o < 1) {i : Int32} (hd : decode cc pc = .ok (.iaload, 1)) (hn : pc + 1 = n) (kk : Ge w adr k n lv (.int (S 41 o i.toNatClampNeg) :: st) S F) : Ge w adr k pc lv (.int i :: .ref (adr 41 o) :: st) S (ck i 6 F) := ge_iald C (cl_41 ho) rfl hd hn (fun _ => kk)
theorem as_41 {w : WX} {adr : Nat → Nat → Nat} {k : KX} {cc : ByteArray} {nL fr lo : Nat} {pc n : Nat} {lv : List (Nat × Value)} {st : List Value} {S : St} {own : String} (C : Cx w adr k cc own nL fr lo) {o : Nat} (ho : o < 1) {i x : Int32} {f : St → Op} (hd : decode cc pc = .ok (.iastore, 1)) (hn : pc + 1 = n) (kk : ∀ S1 : St, Ge w adr k n lv st S1 (f S1)) : Ge w adr k pc lv (.int x :: .int i :: .ref (adr 41 o) :: st) S (ck i 6 (bs (wr S 41 o i.toNatClampNeg x) f)) := ge_iast C (cl_41 ho) (fun _ => rfl) hd hn kk
theorem al_42 {w : WX} {adr : Nat → Nat → Nat} {k : KX} {cc : ByteArray} {nL fr lo : Nat} {pc n : Nat} {lv : List (Nat × Value)} {st : List Value} {S : St} {F : Op} {own : String} (C : Cx w adr k cc own nL fr lo) {o : Nat} (ho : o < 1) {i : Int32} (hd : decode cc pc = .ok (.iaload, 1)) (hn : pc + 1 = n) (kk : Ge w adr k n lv (.int (S 42 o i.toNatClampNeg) :: st) S F) : Ge w adr k pc lv (.int i :: .ref (adr 42 o) :: st) S (ck i 6 F) := ge_iald C (cl_42 ho) rfl hd hn (fun _ => kk)
theorem as_42 {w : WX} {adr : Nat → Nat → Nat} {k : KX} {cc : ByteArray} {nL fr lo : Nat} {pc n : Nat} {lv : List (Nat × Value)} {st : List Value} {S : St} {own : String} (C : Cx w adr k cc own nL fr lo) {o : Nat} (ho : o < 1) {i x : Int32} {f : St → Op} (hd : decode cc pc = .ok (.iastore, 1)) (hn : pc + 1 = n) (kk : ∀ S1 : St, Ge w adr k n lv st S1 (f S1)) : Ge w adr k pc lv (.int x :: .int i :: .ref (adr 42 o) :: st) S (ck i 6 (bs (wr S 42 o i.toNatClampNeg x) f)) := ge_iast C (cl_42 ho) (fun _ => rfl) hd hn kk
theorem al_43 {w : WX} {adr : Nat → Nat → Nat} {k : KX} {cc : ByteArray} {nL fr lo : Nat} {pc n : Nat} {lv : List (Nat × Value)} {st : List Value} {S : St} {F : Op} {own : String} (C : Cx w adr k cc own nL fr lo) {o : Nat} (ho : o < 1) {i : Int32} (hd : decode cc pc = .ok (.iaload, 1)) (hn : pc + 1 = n) (kk : Ge w adr k n lv (.int (S 43 o i.toNatClampNeg) :: st) S F) : Ge w adr k pc lv (.int i :: .ref (adr 43 o) :: st) S (ck i 6 F) := ge_iald C (cl_43 ho) rfl hd hn (fun _ => kk)
theorem as_43 {w : WX} {adr : Nat → Nat → Nat} {k : KX} {cc : ByteArray} {nL fr lo : Nat} {pc n : Nat} {lv : List (Nat × Value)} {st : List Value} {S : St} {own : String} (C : Cx w adr k cc own nL fr lo) {o : Nat} (ho : o < 1) {i x : Int32} {f : St → Op} (hd : decode cc pc = .ok (.iastore, 1)) (hn : pc + 1 = n) (kk : ∀ S1 : St, Ge w adr k n lv st S1 (f S1)) : Ge w adr k pc lv (.int x :: .int i :: .ref (adr 43 o) :: st) S (ck i 6 (bs (wr S 43 o i.toNatClampNeg x) f)) := ge_iast C (cl_43 ho) (fun _ => rfl) hd hn kk
theorem al_44 {w : WX} {adr : Nat → Nat → Nat} {k : KX} {cc : ByteArray} {nL fr lo : Nat} {pc n : Nat} {lv : List (Nat × Value)} {st : List Value} {S : St} {F : Op} {own : String} (C : Cx w adr k cc own nL fr lo) {o : Nat} (ho : o < 1) {i : Int32} (hd : decode cc pc = .ok (.iaload, 1)) (hn : pc + 1 = n) (kk : Ge w adr k n lv (.int (S 44 o i.toNatClampNeg) :: st) S F) : Ge w adr k pc lv (.int i :: .ref (adr 44 o) :: st) S (ck i 15 F) := ge_iald C (cl_44 ho) rfl hd hn (fun _ => kk)
theorem as_44 {w : WX} {adr : Nat → Nat → Nat} {k : KX} {cc : ByteArray} {nL fr lo : Nat} {pc n : Nat} {lv : List (Nat × Value)} {st : List Value} {S : St} {own : String} (C : Cx w adr k cc own nL fr lo) {o : Nat} (ho : o < 1) {i x : Int32} {f : St → Op} (hd : decode cc pc = .ok (.iastore, 1)) (hn : pc + 1 = n) (kk : ∀ S1 : St, Ge w adr k n lv st S1 (f S1)) : Ge w adr k pc lv (.int x :: .int i :: .ref (adr 44 o) :: st) S (ck i 15 (bs (wr S 44 o i.toNatClampNeg x) f)) := ge_iast C (cl_44 ho) (fun _ => rfl) hd hn kk
theorem al_45 {w : WX} {adr : Nat → Nat → Nat} {k : KX} {cc : ByteArray} {nL fr lo : Nat} {pc n : Nat} {lv : List (Nat × Value)} {st : List Value} {S : St} {F : Op} {own : String} (C : Cx w adr k cc own nL fr lo) {o : Nat} (ho : o < 1) {i : Int32} (hd : decode cc pc = .ok (.iaload, 1)) (hn : pc + 1 = n) (kk : Ge w adr k n lv (.int (S 45 o i.toNatClampNeg) :: st) S F) : Ge w adr k pc lv (.int i :: .ref (adr 45 o) :: st) S (ck i 15 F) := ge_iald C (cl_45 ho) rfl hd hn (fun _ => kk)
theorem as_45 {w : WX} {adr : Nat → Nat → Nat} {k : KX} {cc : ByteArray} {nL fr lo : Nat} {pc n : Nat} {lv : List (Nat × Value)} {st : List Value} {S : St} {own : String} (C : Cx w adr k cc own nL fr lo) {o : Nat} (ho : o < 1) {i x : Int32} {f : St → Op} (hd : decode cc pc = .ok (.iastore, 1)) (hn : pc + 1 = n) (kk : ∀ S1 : St, Ge w adr k n lv st S1 (f S1)) : Ge w adr k pc lv (.int x :: .int i :: .ref (adr 45 o) :: st) S (ck i 15 (bs (wr S 45 o i.toNatClampNeg x) f)) := ge_iast C (cl_45 ho) (fun _ => rfl) hd hn kk
theorem al_46 {w : WX} {adr : Nat → Nat → Nat} {k : KX} {cc : ByteArray} {nL fr lo : Nat} {pc n : Nat} {lv : List (Nat × Value)} {st : List Value} {S : St} {F : Op} {own : String} (C : Cx w adr k cc own nL fr lo) {o : Nat} (ho : o < 1) {i : Int32} (hd : decode cc pc = .ok (.iaload, 1)) (hn : pc + 1 = n) (kk : Ge w adr k n lv (.int (S 46 o i.toNatClampNeg) :: st) S F) : Ge w adr k pc lv (.int i :: .ref (adr 46 o) :: st) S (ck i 240 F) := ge_iald C (cl_46 ho) rfl hd hn (fun _ => kk)
theorem as_46 {w : WX} {adr : Nat → Nat → Nat} {k : KX} {cc : ByteArray} {nL fr lo : Nat} {pc n : Nat} {lv : List (Nat × Value)} {st : List Value} {S : St} {own : String} (C : Cx w adr k cc own nL fr lo) {o : Nat} (ho : o < 1) {i x : Int32} {f : St → Op} (hd : decode cc pc = .ok (.iastore, 1)) (hn : pc + 1 = n) (kk : ∀ S1 : St, Ge w adr k n lv st S1 (f S1)) : Ge w adr k pc lv (.int x :: .int i :: .ref (adr 46 o) :: st) S (ck i 240 (bs (wr S 46 o i.toNatClampNeg x) f)) := ge_iast C (cl_46 ho) (fun _ => rfl) hd hn kk
theorem al_47 {w : WX} {adr : Nat → Nat → Nat} {k : KX} {cc : ByteArray} {nL fr lo : Nat} {pc n : Nat} {lv : List (Nat × Value)} {st : List Value} {S : St} {F : Op} {own : String} (C : Cx w adr k cc own nL fr lo) {o : Nat} (ho : o < 1) {i : Int32} (hd : decode cc pc = .ok (.iaload, 1)) (hn : pc + 1 = n) (kk : Ge w adr k n lv (.int (S 47 o i.toNatClampNeg) :: st) S F) : Ge w adr k pc lv (.int i :: .ref (adr 47 o) :: st) S (ck i 6 F) := ge_iald C (cl_47 ho) rfl hd hn (fun _ => kk)
theorem as_47 {w : WX} {adr : Nat → Nat → Nat} {k : KX} {cc : ByteArray} {nL fr lo : Nat} {pc n : Nat} {lv : List (Nat × Value)} {st : List Value} {S : St} {own : String} (C : Cx w adr k cc own nL fr lo) {o : Nat} (ho : o < 1) {i x : Int32} {f : St → Op} (hd : decode cc pc = .ok (.iastore, 1)) (hn : pc + 1 = n) (kk : ∀ S1 : St, Ge w adr k n lv st S1 (f S1)) : Ge w adr k pc lv (.int x :: .int i :: .ref (adr 47 o) :: st) S (ck i 6 (bs (wr S 47 o i.toNatClampNeg x) f)) := ge_iast C (cl_47 ho) (fun _ => rfl) hd hn kk
theorem al_48 {w : WX} {adr : Nat → Nat → Nat} {k : KX} {cc : ByteArray} {nL fr lo : Nat} {pc n : Nat} {lv : List (Nat × Value)} {st : List Value} {S : St} {F : Op} {own : String} (C : Cx w adr k cc own nL fr lo) {o : Nat} (ho : o < 1) {i : Int32} (hd : decode cc pc = .ok (.iaload, 1)) (hn : pc + 1 = n) (kk : Ge w adr k n lv (.int (S 48 o i.toNatClampNeg) :: st) S F) : Ge w adr k pc lv (.int i :: .ref (adr 48 o) :: st) S (ck i 30 F) := ge_iald C (cl_48 ho) rfl hd hn (fun _ => kk)
theorem as_48 {w : WX} {adr : Nat → Nat → Nat} {k : KX} {cc : ByteArray} {nL fr lo : Nat} {pc n : Nat} {lv : List (Nat × Value)} {st : List Value} {S : St} {own : String} (C : Cx w adr k cc own nL fr lo) {o : Nat} (ho : o < 1) {i x : Int32} {f : St → Op} (hd : decode cc pc = .ok (.iastore, 1)) (hn : pc + 1 = n) (kk : ∀ S1 : St, Ge w adr k n lv st S1 (f S1)) : Ge w adr k pc lv (.int x :: .int i :: .ref (adr 48 o) :: st) S (ck i 30 (bs (wr S 48 o i.toNatClampNeg x) f)) := ge_iast C (cl_48 ho) (fun _ => rfl) hd hn kk
theorem al_49 {w : WX} {adr : Nat → Nat → Nat} {k : KX} {cc : ByteArray} {nL fr lo : Nat} {pc n : Nat} {lv : List (Nat × Value)} {st : List Value} {S : St} {F : Op} {own : String} (C : Cx w adr k cc own nL fr lo) {o : Nat} (ho : o < 1) {i : Int32} (hd : decode cc pc = .ok (.iaload, 1)) (hn : pc + 1 = n) (kk : Ge w adr k n lv (.int (S 49 o i.toNatClampNeg) :: st) S F) : Ge w adr k pc lv (.int i :: .ref (adr 49 o) :: st) S (ck i 8 F) := ge_iald C (cl_49 ho) rfl hd hn (fun _ => kk)
theorem as_49 {w : WX} {adr : Nat → Nat → Nat} {k : KX} {cc : ByteArray} {nL fr lo : Nat} {pc n : Nat} {lv : List (Nat × Value)} {st : List Value} {S : St} {own : String} (C : Cx w adr k cc own nL fr lo) {o : Nat} (ho : o < 1) {i x : Int32} {f : St → Op} (hd : decode cc pc = .ok (.iastore, 1)) (hn : pc + 1 = n) (kk : ∀ S1 : St, Ge w adr k n lv st S1 (f S1)) : Ge w adr k pc lv (.int x :: .int i :: .ref (adr 49 o) :: st) S (ck i 8 (bs (wr S 49 o i.toNatClampNeg x) f)) := ge_iast C (cl_49 ho) (fun _ => rfl) hd hn kk
theorem al_50 {w : WX} {adr : Nat → Nat → Nat} {k : KX} {cc : ByteArray} {nL fr lo : Nat} {pc n : Nat} {lv : List (Nat × Value)} {st : List Value} {S : St} {F : Op} {own : String} (C : Cx w adr k cc own nL fr lo) {o : Nat} (ho : o < 1) {i : Int32} (hd : decode cc pc = .ok (.iaload, 1)) (hn : pc + 1 = n) (kk : Ge w adr k n lv (.int (S 50 o i.toNatClampNeg) :: st) S F) : Ge w adr k pc lv (.int i :: .ref (adr 50 o) :: st) S (ck i 8 F) := ge_iald C (cl_50 ho) rfl hd hn (fun _ => kk)
theorem as_50 {w : WX} {adr : Nat → Nat → Nat} {k : KX} {cc : ByteArray} {nL fr lo : Nat} {pc n : Nat} {lv : List (Nat × Value)} {st : List Value} {S : St} {own : String} (C : Cx w adr k cc own nL fr lo) {o : Nat} (ho : o < 1) {i x : Int32} {f : St → Op} (hd : decode cc pc = .ok (.iastore, 1)) (hn : pc + 1 = n) (kk : ∀ S1 : St, Ge w adr k n lv st S1 (f S1)) : Ge w adr k pc lv (.int x :: .int i :: .ref (adr 50 o) :: st) S (ck i 8 (bs (wr S 50 o i.toNatClampNeg x) f)) := ge_iast C (cl_50 ho) (fun _ => rfl) hd hn kk
theorem al_51 {w : WX} {adr : Nat → Nat → Nat} {k : KX} {cc : ByteArray} {nL fr lo : Nat} {pc n : Nat} {lv : List (Nat × Value)} {st : List Value} {S : St} {F : Op} {own : String} (C : Cx w adr k cc own nL fr lo) {o : Nat} (ho : o < 1) {i : Int32} (hd : decode cc pc = .ok (.iaload, 1)) (hn : pc + 1 = n) (kk : Ge w adr k n lv (.int (S 51 o i.toNatClampNeg) :: st) S F) : Ge w adr k pc lv (.int i :: .ref (adr 51 o) :: st) S (ck i 5 F) := ge_iald C (cl_51 ho) rfl hd hn (fun _ => kk)
theorem as_51 {w : WX} {adr : Nat → Nat → Nat} {k : KX} {cc : ByteArray} {nL fr lo : Nat} {pc n : Nat} {lv : List (Nat × Value)} {st : List Value} {S : St} {own : String} (C : Cx w adr k cc own nL fr lo) {o : Nat} (ho : o < 1) {i x : Int32} {f : St → Op} (hd : decode cc pc = .ok (.iastore, 1)) (hn : pc + 1 = n) (kk : ∀ S1 : St, Ge w adr k n lv st S1 (f S1)) : Ge w adr k pc lv (.int x :: .int i :: .ref (adr 51 o) :: st) S (ck i 5 (bs (wr S 51 o i.toNatClampNeg x) f)) := ge_iast C (cl_51 ho) (fun _ => rfl) hd hn kk
theorem al_52 {w : WX} {adr : Nat → Nat → Nat} {k : KX} {cc : ByteArray} {nL fr lo : Nat} {pc n : Nat} {lv : List (Nat × Value)} {st : List Value} {S : St} {F : Op} {own : String} (C : Cx w adr k cc own nL fr lo) {o : Nat} (ho : o < 1) {i : Int32} (hd : decode cc pc = .ok (.iaload, 1)) (hn : pc + 1 = n) (kk : Ge w adr k n lv (.int (S 52 o i.toNatClampNeg) :: st) S F) : Ge w adr k pc lv (.int i :: .ref (adr 52 o) :: st) S (ck i 5 F) := ge_iald C (cl_52 ho) rfl hd hn (fun _ => kk)
theorem as_52 {w : WX} {adr : Nat → Nat → Nat} {k : KX} {cc : ByteArray} {nL fr lo : Nat} {pc n : Nat} {lv : List (Nat × Value)} {st : List Value} {S : St} {own : String} (C : Cx w adr k cc own nL fr lo) {o : Nat} (ho : o < 1) {i x : Int32} {f : St → Op} (hd : decode cc pc = .ok (.iastore, 1)) (hn : pc + 1 = n) (kk : ∀ S1 : St, Ge w adr k n lv st S1 (f S1)) : Ge w adr k pc lv (.int x :: .int i :: .ref (adr 52 o) :: st) S (ck i 5 (bs (wr S 52 o i.toNatClampNeg x) f)) := ge_iast C (cl_52 ho) (fun _ => rfl) hd hn kk
theorem al_53 {w : WX} {adr : Nat → Nat → Nat} {k : KX} {cc : ByteArray} {nL fr lo : Nat} {pc n : Nat} {lv : List (Nat × Value)} {st : List Value} {S : St} {F : Op} {own : String} (C : Cx w adr k cc own nL fr lo) {o : Nat} (ho : o < 1) {i : Int32} (hd : decode cc pc = .ok (.iaload, 1)) (hn : pc + 1 = n) (kk : Ge w adr k n lv (.int (S 53 o i.toNatClampNeg) :: st) S F) : Ge w adr k pc lv (.int i :: .ref (adr 53 o) :: st) S (ck i 6 F) := ge_iald C (cl_53 ho) rfl hd hn (fun _ => kk)
theorem as_53 {w : WX} {adr : Nat → Nat → Nat} {k : KX} {cc : ByteArray} {nL fr lo : Nat} {pc n : Nat} {lv : List (Nat × Value)} {st : List Value} {S : St} {own : String} (C : Cx w adr k cc own nL fr lo) {o : Nat} (ho : o < 1) {i x : Int32} {f : St → Op} (hd : decode cc pc = .ok (.iastore, 1)) (hn : pc + 1 = n) (kk : ∀ S1 : St, Ge w adr k n lv st S1 (f S1)) : Ge w adr k pc lv (.int x :: .int i :: .ref (adr 53 o) :: st) S (ck i 6 (bs (wr S 53 o i.toNatClampNeg x) f)) := ge_iast C (cl_53 ho) (fun _ => rfl) hd hn kk
theorem al_54 {w : WX} {adr : Nat → Nat → Nat} {k : KX} {cc : ByteArray} {nL fr lo : Nat} {pc n : Nat} {lv : List (Nat × Value)} {st : List Value} {S : St} {F : Op} {own : String} (C : Cx w adr k cc own nL fr lo) {o : Nat} (ho : o < 1) {i : Int32} (hd : decode cc pc = .ok (.iaload, 1)) (hn : pc + 1 = n) (kk : Ge w adr k n lv (.int (S 54 o i.toNatClampNeg) :: st) S F) : Ge w adr k pc lv (.int i :: .ref (adr 54 o) :: st) S (ck i 1120 F) := ge_iald C (cl_54 ho) rfl hd hn (fun _ => kk)
theorem as_54 {w : WX} {adr : Nat → Nat → Nat} {k : KX} {cc : ByteArray} {nL fr lo : Nat} {pc n : Nat} {lv : List (Nat × Value)} {st : List Value} {S : St} {own : String} (C : Cx w adr k cc own nL fr lo) {o : Nat} (ho : o < 1) {i x : Int32} {f : St → Op} (hd : decode cc pc = .ok (.iastore, 1)) (hn : pc + 1 = n) (kk : ∀ S1 : St, Ge w adr k n lv st S1 (f S1)) : Ge w adr k pc lv (.int x :: .int i :: .ref (adr 54 o) :: st) S (ck i 1120 (bs (wr S 54 o i.toNatClampNeg x) f)) := ge_iast C (cl_54 ho) (fun _ => rfl) hd hn kk
theorem al_55 {w : WX} {adr : Nat → Nat → Nat} {k : KX} {cc : ByteArray} {nL fr lo : Nat} {pc n : Nat} {lv : List (Nat × Value)} {st : List Value} {S : St} {F : Op} {own : String} (C : Cx w adr k cc own nL fr lo) {o : Nat} (ho : o < 1) {i : Int32} (hd : decode cc pc = .ok (.iaload, 1)) (hn : pc + 1 = n) (kk : Ge w adr k n lv (.int (S 55 o i.toNatClampNeg) :: st) S F) : Ge w adr k pc lv (.int i :: .ref (adr 55 o) :: st) S (ck i 6 F) := ge_iald C (cl_55 ho) rfl hd hn (fun _ => kk)
theorem as_55 {w : WX} {adr : Nat → Nat → Nat} {k : KX} {cc : ByteArray} {nL fr lo : Nat} {pc n : Nat} {lv : List (Nat × Value)} {st : List Value} {S : St} {own : String} (C : Cx w adr k cc own nL fr lo) {o : Nat} (ho : o < 1) {i x : Int32} {f : St → Op} (hd : decode cc pc = .ok (.iastore, 1)) (hn : pc + 1 = n) (kk : ∀ S1 : St, Ge w adr k n lv st S1 (f S1)) : Ge w adr k pc lv (.int x :: .int i :: .ref (adr 55 o) :: st) S (ck i 6 (bs (wr S 55 o i.toNatClampNeg x) f)) := ge_iast C (cl_55 ho) (fun _ => rfl) hd hn kk
theorem al_56 {w : WX} {adr : Nat → Nat → Nat} {k : KX} {cc : ByteArray} {nL fr lo : Nat} {pc n : Nat} {lv : List (Nat × Value)} {st : List Value} {S : St} {F : Op} {own : String} (C : Cx w adr k cc own nL fr lo) {o : Nat} (ho : o < 1) {i : Int32} (hd : decode cc pc = .ok (.iaload, 1)) (hn : pc + 1 = n) (kk : Ge w adr k n lv (.int (S 56 o i.toNatClampNeg) :: st) S F) : Ge w adr k pc lv (.int i :: .ref (adr 56 o) :: st) S (ck i 3 F) := ge_iald C (cl_56 ho) rfl hd hn (fun _ => kk)
theorem as_56 {w : WX} {adr : Nat → Nat → Nat} {k : KX} {cc : ByteArray} {nL fr lo : Nat} {pc n : Nat} {lv : List (Nat × Value)} {st : List Value} {S : St} {own : String} (C : Cx w adr k cc own nL fr lo) {o : Nat} (ho : o < 1) {i x : Int32} {f : St → Op} (hd : decode cc pc = .ok (.iastore, 1)) (hn : pc + 1 = n) (kk : ∀ S1 : St, Ge w adr k n lv st S1 (f S1)) : Ge w adr k pc lv (.int x :: .int i :: .ref (adr 56 o) :: st) S (ck i 3 (bs (wr S 56 o i.toNatClampNeg x) f)) := ge_iast C (cl_56 ho) (fun _ => rfl) hd hn kk
theorem al_57 {w : WX} {adr : Nat → Nat → Nat} {k : KX} {cc : ByteArray} {nL fr lo : Nat} {pc n : Nat} {lv : List (Nat × Value)} {st : List Value} {S : St} {F : Op} {own : String} (C : Cx w adr k cc own nL fr lo) {o : Nat} (ho : o < 1) {i : Int32} (hd : decode cc pc = .ok (.baload, 1)) (hn : pc + 1 = n) (kk : Ge w adr k n lv (.int (S 57 o i.toNatClampNeg) :: st) S F) : Ge w adr k pc lv (.int i :: .ref (adr 57 o) :: st) S (ck i 61 F) := ge_zald C (cl_57 ho) rfl hd hn (fun _ => kk)
theorem as_57 {w : WX} {adr : Nat → Nat → Nat} {k : KX} {cc : ByteArray} {nL fr lo : Nat} {pc n : Nat} {lv : List (Nat × Value)} {st : List Value} {S : St} {own : String} (C : Cx w adr k cc own nL fr lo) {o : Nat} (ho : o < 1) {i x : Int32} {f : St → Op} (hd : decode cc pc = .ok (.bastore, 1)) (hn : pc + 1 = n) (kk : ∀ S1 : St, Ge w adr k n lv st S1 (f S1)) : Ge w adr k pc lv (.int x :: .int i :: .ref (adr 57 o) :: st) S (ck i 61 (bs (wr S 57 o i.toNatClampNeg (vp_nar .boolean x)) f)) := ge_zast C (cl_57 ho) (fun _ => rfl) hd hn kk
theorem al_58 {w : WX} {adr : Nat → Nat → Nat} {k : KX} {cc : ByteArray} {nL fr lo : Nat} {pc n : Nat} {lv : List (Nat × Value)} {st : List Value} {S : St} {F : Op} {own : String} (C : Cx w adr k cc own nL fr lo) {o : Nat} (ho : o < 1) {i : Int32} (hd : decode cc pc = .ok (.iaload, 1)) (hn : pc + 1 = n) (kk : Ge w adr k n lv (.int (S 58 o i.toNatClampNeg) :: st) S F) : Ge w adr k pc lv (.int i :: .ref (adr 58 o) :: st) S (ck i 488 F) := ge_iald C (cl_58 ho) rfl hd hn (fun _ => kk)
theorem as_58 {w : WX} {adr : Nat → Nat → Nat} {k : KX} {cc : ByteArray} {nL fr lo : Nat} {pc n : Nat} {lv : List (Nat × Value)} {st : List Value} {S : St} {own : String} (C : Cx w adr k cc own nL fr lo) {o : Nat} (ho : o < 1) {i x : Int32} {f : St → Op} (hd : decode cc pc = .ok (.iastore, 1)) (hn : pc + 1 = n) (kk : ∀ S1 : St, Ge w adr k n lv st S1 (f S1)) : Ge w adr k pc lv (.int x :: .int i :: .ref (adr 58 o) :: st) S (ck i 488 (bs (wr S 58 o i.toNatClampNeg x) f)) := ge_iast C (cl_58 ho) (fun _ => rfl) hd hn kk
theorem al_59 {w : WX} {adr : Nat → Nat → Nat} {k : KX} {cc : ByteArray} {nL fr lo : Nat} {pc n : Nat} {lv : List (Nat × Value)} {st : List Value} {S : St} {F : Op} {own : String} (C : Cx w adr k cc own nL fr lo) {o : Nat} (ho : o < 1) {i : Int32} (hd : decode cc pc = .ok (.iaload, 1)) (hn : pc + 1 = n) (kk : Ge w adr k n lv (.int (S 59 o i.toNatClampNeg) :: st) S F) : Ge w adr k pc lv (.int i :: .ref (adr 59 o) :: st) S (ck i 142 F) := ge_iald C (cl_59 ho) rfl hd hn (fun _ => kk)
theorem as_59 {w : WX} {adr : Nat → Nat → Nat} {k : KX} {cc : ByteArray} {nL fr lo : Nat} {pc n : Nat} {lv : List (Nat × Value)} {st : List Value} {S : St} {own : String} (C : Cx w adr k cc own nL fr lo) {o : Nat} (ho : o < 1) {i x : Int32} {f : St → Op} (hd : decode cc pc = .ok (.iastore, 1)) (hn : pc + 1 = n) (kk : ∀ S1 : St, Ge w adr k n lv st S1 (f S1)) : Ge w adr k pc lv (.int x :: .int i :: .ref (adr 59 o) :: st) S (ck i 142 (bs (wr S 59 o i.toNatClampNeg x) f)) := ge_iast C (cl_59 ho) (fun _ => rfl) hd hn kk
theorem al_60 {w : WX} {adr : Nat → Nat → Nat} {k : KX} {cc : ByteArray} {nL fr lo : Nat} {pc n : Nat} {lv : List (Nat × Value)} {st : List Value} {S : St} {F : Op} {own : String} (C : Cx w adr k cc own nL fr lo) {o : Nat} (ho : o < 1) {i : Int32} (hd : decode cc pc = .ok (.baload, 1)) (hn : pc + 1 = n) (kk : Ge w adr k n lv (.int (S 60 o i.toNatClampNeg) :: st) S F) : Ge w adr k pc lv (.int i :: .ref (adr 60 o) :: st) S (ck i 2 F) := ge_zald C (cl_60 ho) rfl hd hn (fun _ => kk)
theorem as_60 {w : WX} {adr : Nat → Nat → Nat} {k : KX} {cc : ByteArray} {nL fr lo : Nat} {pc n : Nat} {lv : List (Nat × Value)} {st : List Value} {S : St} {own : String} (C : Cx w adr k cc own nL fr lo) {o : Nat} (ho : o < 1) {i x : Int32} {f : St → Op} (hd : decode cc pc = .ok (.bastore, 1)) (hn : pc + 1 = n) (kk : ∀ S1 : St, Ge w adr k n lv st S1 (f S1)) : Ge w adr k pc lv (.int x :: .int i :: .ref (adr 60 o) :: st) S (ck i 2 (bs (wr S 60 o i.toNatClampNeg (vp_nar .boolean x)) f)) := ge_zast C (cl_60 ho) (fun _ => rfl) hd hn kk
end
section
def fX0_add (a1 : Int32) (a2 : Int32) (S : St) : Op :=
  if (15 : Int32) ≤ (S 27 0 2) then (some ((S 27 0 2), S)) else (ck (S 27 0 2) 15 <| bs (wr S 28 0 (Int32.toNatClampNeg (S 27 0 2)) a1) fun S_18 => ck (S_18 27 0 2) 15 <| bs (wr S_18 29 0 (Int32.toNatClampNeg (S_18 27 0 2)) a2) fun S_28 => bs (wr S_28 27 0 2 ((S_28 27 0 2) + (1 : Int32))) fun S_36 => some ((S_36 27 0 2), S_36))
def bX0_firstWrong_2 (S : St) (kk2 : Op) (ag2 : Int32 → Op) (x2_2 : Int32) : Op :=
  if (S 27 0 2) ≤ x2_2 then (kk2) else (ck x2_2 15 <| ck (S 28 0 (Int32.toNatClampNeg x2_2)) 6 <| ck x2_2 15 <| if (S 11 (Int32.toNatClampNeg (S 28 0 (Int32.toNatClampNeg x2_2))) 2) = (S 29 0 (Int32.toNatClampNeg x2_2)) then (ag2 (x2_2 + (1 : Int32))) else (some (x2_2, S)))
def fX0_firstWrong  (S : St) : Op :=
  jn (some ((-1 : Int32), S)) fun kk2 => lop (fun _ => none) (bX0_firstWrong_2 S kk2) FU (0 : Int32)
def fX1_next (a1 : Int32) (S : St) : Op :=
  bs (wr S 19 0 0 (Int64.toInt32 ((((Int32.toInt64 (S 19 0 0)) * (1103515245 : Int64)) + (12345 : Int64)) &&& (2147483647 : Int64)))) fun S_19 => if a1 ≤ (0 : Int32) then (some ((0 : Int32), S_19)) else (dz a1 <| some ((irm ((S_19 19 0 0) / (65536 : Int32)) a1), S_19))
def fX2_add (a1 : Int32) (a2 : Int32) (a3 : Int32) (S : St) : Op :=
  if (6 : Int32) ≤ (S 20 0 3) then (some ((S 20 0 3), S)) else (ck (S 20 0 3) 6 <| bs (wr S 21 0 (Int32.toNatClampNeg (S 20 0 3)) a1) fun S_18 => ck (S_18 20 0 3) 6 <| bs (wr S_18 22 0 (Int32.toNatClampNeg (S_18 20 0 3)) a2) fun S_28 => ck (S_28 20 0 3) 6 <| bs (wr S_28 23 0 (Int32.toNatClampNeg (S_28 20 0 3)) a3) fun S_38 => bs (wr S_38 20 0 3 ((S_38 20 0 3) + (1 : Int32))) fun S_46 => some ((S_46 20 0 3), S_46))
def fX6_pain (o0 : Nat) (o1 : Nat) (a2 : Int32) (S : St) : Op :=
  ck a2 8 <| bi ((S 7 o0 (Int32.toNatClampNeg a2))) fun x3_6 => ck a2 8 <| ck x3_6 5 <| ck x3_6 5 <| some ((imax (0 : Int32) (((S 8 o0 (Int32.toNatClampNeg a2)) + (S 12 o1 (Int32.toNatClampNeg x3_6))) - (S 13 o1 (Int32.toNatClampNeg x3_6)))), S)
def bX2_agree_3 (o1 : Nat) (o2 : Nat) (a3 : Int32) (kk3 : St → Op) (ag3 : Int32 → St → Op) (x4_3 : Int32) (S_3 : St) : Op :=
  if (S_3 20 0 3) ≤ x4_3 then (kk3 S_3) else (ck x4_3 6 <| if (S_3 21 0 (Int32.toNatClampNeg x4_3)) = a3 then (ck x4_3 6 <| cal (fX6_pain o1 o2 (S_3 22 0 (Int32.toNatClampNeg x4_3)) S_3) fun r_32 S_32 => ck x4_3 6 <| if r_32 = (S_32 23 0 (Int32.toNatClampNeg x4_3)) then (ag3 (x4_3 + (1 : Int32)) S_32) else (some ((0 : Int32), S_32))) else (ag3 (x4_3 + (1 : Int32)) S_3))
def fX2_agree (o1 : Nat) (o2 : Nat) (a3 : Int32) (S : St) : Op :=
  jn (fun (S_53 : St) => some ((1 : Int32), S_53)) fun kk3 => lop (fun _ _ => none) (bX2_agree_3 o1 o2 a3 kk3) FU (0 : Int32) S
def bX2_clearParts_7 (kk7 : St → Op) (ag7 : Int32 → St → Op) (x1_7 : Int32) (S_7 : St) : Op :=
  if (8 : Int32) ≤ x1_7 then (kk7 S_7) else (ck x1_7 8 <| bs (wr S_7 24 0 (Int32.toNatClampNeg x1_7) (-1 : Int32)) fun S_19 => ck x1_7 8 <| bs (wr S_19 26 0 (Int32.toNatClampNeg x1_7) (0 : Int32)) fun S_26 => ag7 (x1_7 + (1 : Int32)) S_26)
def fX2_clearParts  (S : St) : Op :=
  bs (wr S 20 0 4 (0 : Int32)) fun S_2 => jn (fun (S_33 : St) => some ((0 : Int32), S_33)) fun kk7 => lop (fun _ _ => none) (bX2_clearParts_7 kk7) FU (0 : Int32) S_2
def bX2_part_12 (o1 : Nat) (o2 : Nat) (kk12 : St → Op) (ag12 : Int32 → St → Op) (x3_12 : Int32) (S_12 : St) : Op :=
  if (S_12 3 o1 3) ≤ x3_12 then (kk12 S_12) else (cal (fX6_pain o1 o2 x3_12 S_12) fun r_23 S_23 => ck x3_12 8 <| jn (fun (v0_56 : Int32) => ck x3_12 8 <| bs (wr S_23 25 0 (Int32.toNatClampNeg x3_12) v0_56) fun S_56 => ck x3_12 8 <| bs (wr S_56 24 0 (Int32.toNatClampNeg x3_12) r_23) fun S_64 => ck x3_12 8 <| ck x3_12 8 <| ck x3_12 8 <| bs (wr S_64 26 0 (Int32.toNatClampNeg x3_12) (imax (S_64 26 0 (Int32.toNatClampNeg x3_12)) (S_64 25 0 (Int32.toNatClampNeg x3_12)))) fun S_85 => ag12 (x3_12 + (1 : Int32)) S_85) fun j56 => if r_23 = (S_23 24 0 (Int32.toNatClampNeg x3_12)) then (ck x3_12 8 <| j56 ((S_23 25 0 (Int32.toNatClampNeg x3_12)) + (1 : Int32))) else (j56 (1 : Int32)))
def fX2_part (o1 : Nat) (o2 : Nat) (S : St) : Op :=
  bs (wr S 20 0 4 ((S 20 0 4) + (1 : Int32))) fun S_7 => jn (fun (S_92 : St) => some ((0 : Int32), S_92)) fun kk12 => lop (fun _ _ => none) (bX2_part_12 o1 o2 kk12) FU (0 : Int32) S_7
def bX2_bestParting_10 (a1 : Int32) (S : St) (kk10 : Int32 → Op) (ag10 : Int32 → Int32 → Int32 → Op) (x4_10 : Int32) (x3_10 : Int32) (x2_10 : Int32) : Op :=
  if a1 ≤ x4_10 then (kk10 x2_10) else (ck x4_10 8 <| if x3_10 ≤ (S 26 0 (Int32.toNatClampNeg x4_10)) then (ag10 (x4_10 + (1 : Int32)) x3_10 x2_10) else (ck x4_10 8 <| bi ((S 26 0 (Int32.toNatClampNeg x4_10))) fun x3_37 => ag10 (x4_10 + (1 : Int32)) x3_37 x4_10))
def fX2_bestParting (a1 : Int32) (S : St) : Op :=
  bi ((S 20 0 4)) fun x3_6 => jn (fun (x2_44 : Int32) => some (x2_44, S)) fun kk10 => lop (fun _ _ _ => none) (bX2_bestParting_10 a1 S kk10) FU (0 : Int32) x3_6 (-1 : Int32)
def bX3_begin_22 (o0 : Nat) (o1 : Nat) (a2 : Int32) (kk22 : St → Op) (ag22 : Int32 → St → Op) (x3_22 : Int32) (S_22 : St) : Op :=
  if (5 : Int32) ≤ x3_22 then (kk22 S_22) else (ck a2 6 <| ck x3_22 5 <| ck x3_22 5 <| bs (wr S_22 12 o0 (Int32.toNatClampNeg x3_22) (S_22 6 (6 * o1 + (Int32.toNatClampNeg a2)) (Int32.toNatClampNeg x3_22))) fun S_40 => ck x3_22 5 <| bs (wr S_40 13 o0 (Int32.toNatClampNeg x3_22) (0 : Int32)) fun S_47 => ag22 (x3_22 + (1 : Int32)) S_47)
def fX3_begin (o0 : Nat) (o1 : Nat) (a2 : Int32) (S : St) : Op :=
  ck a2 6 <| bs (wr S 11 o0 0 (S 4 o1 (Int32.toNatClampNeg a2))) fun S_7 => bs (wr S_7 11 o0 1 (0 : Int32)) fun S_12 => bs (wr S_12 11 o0 2 (0 : Int32)) fun S_17 => jn (fun (S_54 : St) => some ((0 : Int32), S_54)) fun kk22 => lop (fun _ _ => none) (bX3_begin_22 o0 o1 a2 kk22) FU (0 : Int32) S_17
def bX3_copySkin_10 (o0 : Nat) (o1 : Nat) (kk10 : St → Op) (ag10 : Int32 → St → Op) (x2_10 : Int32) (S_10 : St) : Op :=
  if (5 : Int32) ≤ x2_10 then (kk10 S_10) else (ck x2_10 5 <| ck x2_10 5 <| bs (wr S_10 12 o0 (Int32.toNatClampNeg x2_10) (S_10 12 o1 (Int32.toNatClampNeg x2_10))) fun S_26 => ck x2_10 5 <| ck x2_10 5 <| bs (wr S_26 13 o0 (Int32.toNatClampNeg x2_10) (S_26 13 o1 (Int32.toNatClampNeg x2_10))) fun S_38 => ag10 (x2_10 + (1 : Int32)) S_38)
def fX3_copySkin (o0 : Nat) (o1 : Nat) (S : St) : Op :=
  bs (wr S 11 o0 0 (S 11 o1 0)) fun S_5 => jn (fun (S_45 : St) => some ((0 : Int32), S_45)) fun kk10 => lop (fun _ _ => none) (bX3_copySkin_10 o0 o1 kk10) FU (0 : Int32) S_5
def fX3_thicken (o0 : Nat) (a1 : Int32) (a2 : Int32) (S : St) : Op :=
  ck a1 5 <| ck a1 5 <| bs (wr S 13 o0 (Int32.toNatClampNeg a1) (imin (99 : Int32) ((S 13 o0 (Int32.toNatClampNeg a1)) + a2))) fun S_18 => some ((0 : Int32), S_18)
def bX3_thickenAll_2 (o0 : Nat) (a1 : Int32) (a2 : Int32) (kk2 : St → Op) (ag2 : Int32 → St → Op) (x3_2 : Int32) (S_2 : St) : Op :=
  if (5 : Int32) ≤ x3_2 then (kk2 S_2) else (if x3_2 = a2 then (ag2 (x3_2 + (1 : Int32)) S_2) else (cal (fX3_thicken o0 x3_2 a1 S_2) fun _ S_15 => ag2 (x3_2 + (1 : Int32)) S_15))
def fX3_thickenAll (o0 : Nat) (a1 : Int32) (a2 : Int32) (S : St) : Op :=
  jn (fun (S_24 : St) => some ((0 : Int32), S_24)) fun kk2 => lop (fun _ _ => none) (bX3_thickenAll_2 o0 a1 a2 kk2) FU (0 : Int32) S
def fJ9_floorMod_7cf53 (a0 : Int32) (a1 : Int32) (S : St) : Op :=
  dz a1 <| bi ((irm a0 a1)) fun x2_3 => if (0 : Int32) ≤ (a0 ^^^ a1) then (some (x2_3, S)) else (if x2_3 = (0 : Int32) then (some (x2_3, S)) else (some ((x2_3 + a1), S)))
def bX3_thinnestPlace_4 (o0 : Nat) (S : St) (kk4 : Int32 → Op) (ag4 : Int32 → Int32 → Op) (x2_4 : Int32) (x1_4 : Int32) : Op :=
  if (5 : Int32) ≤ x2_4 then (kk4 x1_4) else (ck x2_4 5 <| ck x1_4 5 <| if (S 13 o0 (Int32.toNatClampNeg x1_4)) ≤ (S 13 o0 (Int32.toNatClampNeg x2_4)) then (ag4 (x2_4 + (1 : Int32)) x1_4) else (ag4 (x2_4 + (1 : Int32)) x2_4))
def fX3_thinnestPlace (o0 : Nat) (S : St) : Op :=
  jn (fun (x1_32 : Int32) => some (x1_32, S)) fun kk4 => lop (fun _ _ => none) (bX3_thinnestPlace_4 o0 S kk4) FU (1 : Int32) (0 : Int32)
def fX3_tan (o0 : Nat) (a1 : Int32) (a2 : Int32) (S : St) : Op :=
  if (S 11 o0 0) = (0 : Int32) then (cal (fX3_thickenAll o0 a1 (-1 : Int32) S) fun _ S_10 => some ((0 : Int32), S_10)) else (if (S 11 o0 0) = (1 : Int32) then (cal (fX3_thickenAll o0 ((a1 / (2 : Int32)) + (1 : Int32)) (2 : Int32) S) fun _ S_31 => some ((0 : Int32), S_31)) else (if (S 11 o0 0) = (2 : Int32) then (cal (fJ9_floorMod_7cf53 a2 (5 : Int32) S) fun r_48 S_48 => cal (fX3_thicken o0 r_48 (1 : Int32) S_48) fun _ S_52 => some ((0 : Int32), S_52)) else (cal (fX3_thinnestPlace o0 S) fun r_60 S_60 => cal (fX3_thicken o0 r_60 ((3 : Int32) * a1) S_60) fun _ S_66 => some ((0 : Int32), S_66))))
def fJ6_compare_7cf53 (a0 : Int32) (a1 : Int32) (S : St) : Op :=
  if a1 ≤ a0 then (if a0 = a1 then (some ((0 : Int32), S)) else (some ((1 : Int32), S))) else (some ((-1 : Int32), S))
def bX3_isOver_4 (o0 : Nat) (o1 : Nat) (kk4 : Int32 → St → Op) (ag4 : Int32 → Int32 → St → Op) (x3_4 : Int32) (x2_4 : Int32) (S_4 : St) : Op :=
  if (5 : Int32) ≤ x3_4 then (kk4 x2_4 S_4) else (ck x3_4 5 <| ck x3_4 5 <| cal (fJ6_compare_7cf53 (S_4 13 o0 (Int32.toNatClampNeg x3_4)) (S_4 13 o1 (Int32.toNatClampNeg x3_4)) S_4) fun r_22 S_22 => bi ((x2_4 + r_22)) fun x2_26 => ag4 (x3_4 + (1 : Int32)) x2_26 S_22)
def fX3_isOver (o0 : Nat) (o1 : Nat) (S : St) : Op :=
  jn (fun (x2_33 : Int32) (S_33 : St) => if x2_33 ≤ (0 : Int32) then (some ((0 : Int32), S_33)) else (some ((1 : Int32), S_33))) fun kk4 => lop (fun _ _ _ => none) (bX3_isOver_4 o0 o1 kk4) FU (0 : Int32) (0 : Int32) S
def bX3_saveTo_18 (o0 : Nat) (o1 : Nat) (a2 : Int32) (kk18 : St → Op) (ag18 : Int32 → St → Op) (x3_18 : Int32) (S_18 : St) : Op :=
  if (5 : Int32) ≤ x3_18 then (kk18 S_18) else (ck x3_18 5 <| ck ((a2 + (2 : Int32)) + x3_18) 75 <| bs (wr S_18 17 o1 (Int32.toNatClampNeg ((a2 + (2 : Int32)) + x3_18)) (S_18 12 o0 (Int32.toNatClampNeg x3_18))) fun S_35 => ck x3_18 5 <| ck (((a2 + (2 : Int32)) + (5 : Int32)) + x3_18) 75 <| bs (wr S_35 17 o1 (Int32.toNatClampNeg (((a2 + (2 : Int32)) + (5 : Int32)) + x3_18)) (S_35 13 o0 (Int32.toNatClampNeg x3_18))) fun S_50 => ag18 (x3_18 + (1 : Int32)) S_50)
def fX3_saveTo (o0 : Nat) (o1 : Nat) (a2 : Int32) (S : St) : Op :=
  ck a2 75 <| bs (wr S 17 o1 (Int32.toNatClampNeg a2) (S 11 o0 1)) fun S_6 => ck (a2 + (1 : Int32)) 75 <| bs (wr S_6 17 o1 (Int32.toNatClampNeg (a2 + (1 : Int32))) (S_6 11 o0 2)) fun S_15 => jn (fun (S_57 : St) => some ((0 : Int32), S_57)) fun kk18 => lop (fun _ _ => none) (bX3_saveTo_18 o0 o1 a2 kk18) FU (0 : Int32) S_15
def bX3_loadFrom_18 (o0 : Nat) (o1 : Nat) (a2 : Int32) (kk18 : St → Op) (ag18 : Int32 → St → Op) (x3_18 : Int32) (S_18 : St) : Op :=
  if (5 : Int32) ≤ x3_18 then (kk18 S_18) else (ck ((a2 + (2 : Int32)) + x3_18) 75 <| ck x3_18 5 <| bs (wr S_18 12 o0 (Int32.toNatClampNeg x3_18) (S_18 17 o1 (Int32.toNatClampNeg ((a2 + (2 : Int32)) + x3_18)))) fun S_35 => ck (((a2 + (2 : Int32)) + (5 : Int32)) + x3_18) 75 <| ck x3_18 5 <| bs (wr S_35 13 o0 (Int32.toNatClampNeg x3_18) (S_35 17 o1 (Int32.toNatClampNeg (((a2 + (2 : Int32)) + (5 : Int32)) + x3_18)))) fun S_50 => ag18 (x3_18 + (1 : Int32)) S_50)
def fX3_loadFrom (o0 : Nat) (o1 : Nat) (a2 : Int32) (S : St) : Op :=
  ck a2 75 <| bs (wr S 11 o0 1 (S 17 o1 (Int32.toNatClampNeg a2))) fun S_4 => ck (a2 + (1 : Int32)) 75 <| bs (wr S_4 11 o0 2 (S_4 17 o1 (Int32.toNatClampNeg (a2 + (1 : Int32))))) fun S_13 => jn (fun (S_57 : St) => some ((0 : Int32), S_57)) fun kk18 => lop (fun _ _ => none) (bX3_loadFrom_18 o0 o1 a2 kk18) FU (0 : Int32) S_13
def bX7_saveTo_23 (o1 : Nat) (kk23 : St → Op) (ag23 : Int32 → St → Op) (x2_23 : Int32) (S_23 : St) : Op :=
  if (S_23 3 (pid (S_23 9 0 0)) 2) ≤ x2_23 then (kk23 S_23) else (ck x2_23 6 <| cal (fX3_saveTo (Int32.toNatClampNeg x2_23) o1 ((3 : Int32) + (x2_23 * (12 : Int32))) S_23) fun _ S_47 => ag23 (x2_23 + (1 : Int32)) S_47)
def fX7_saveTo (o1 : Nat) (S : St) : Op :=
  ck (0 : Int32) 75 <| bs (wr S 17 o1 (Int32.toNatClampNeg (0 : Int32)) (S 9 0 1)) fun S_6 => ck (1 : Int32) 75 <| bs (wr S_6 17 o1 (Int32.toNatClampNeg (1 : Int32)) (S_6 9 0 2)) fun S_13 => ck (2 : Int32) 75 <| bs (wr S_13 17 o1 (Int32.toNatClampNeg (2 : Int32)) (S_13 9 0 3)) fun S_20 => jn (fun (S_56 : St) => some ((0 : Int32), S_56)) fun kk23 => lop (fun _ _ => none) (bX7_saveTo_23 o1 kk23) FU (0 : Int32) S_20
def fX4_push  (S : St) : Op :=
  ck (S 14 0 1) 16 <| cal (fX7_saveTo (Int32.toNatClampNeg (S 14 0 1)) S) fun _ S_10 => bs (wr S_10 14 0 1 (irm ((S_10 14 0 1) + (1 : Int32)) (16 : Int32))) fun S_23 => bs (wr S_23 14 0 2 (imin (16 : Int32) ((S_23 14 0 2) + (1 : Int32)))) fun S_38 => some ((0 : Int32), S_38)
def bX7_loadFrom_23 (o1 : Nat) (kk23 : St → Op) (ag23 : Int32 → St → Op) (x2_23 : Int32) (S_23 : St) : Op :=
  if (S_23 3 (pid (S_23 9 0 0)) 2) ≤ x2_23 then (kk23 S_23) else (ck x2_23 6 <| cal (fX3_loadFrom (Int32.toNatClampNeg x2_23) o1 ((3 : Int32) + (x2_23 * (12 : Int32))) S_23) fun _ S_47 => ag23 (x2_23 + (1 : Int32)) S_47)
def fX7_loadFrom (o1 : Nat) (S : St) : Op :=
  ck (0 : Int32) 75 <| bs (wr S 9 0 1 (S 17 o1 (Int32.toNatClampNeg (0 : Int32)))) fun S_4 => ck (1 : Int32) 75 <| bs (wr S_4 9 0 2 (S_4 17 o1 (Int32.toNatClampNeg (1 : Int32)))) fun S_11 => ck (2 : Int32) 75 <| bs (wr S_11 9 0 3 (S_11 17 o1 (Int32.toNatClampNeg (2 : Int32)))) fun S_18 => jn (fun (S_56 : St) => some ((0 : Int32), S_56)) fun kk23 => lop (fun _ _ => none) (bX7_loadFrom_23 o1 kk23) FU (0 : Int32) S_18
def fX4_pop  (S : St) : Op :=
  bs (wr S 14 0 1 (irm (((S 14 0 1) + (16 : Int32)) - (1 : Int32)) (16 : Int32))) fun S_13 => bs (wr S_13 14 0 2 ((S_13 14 0 2) - (1 : Int32))) fun S_23 => ck (S_23 14 0 1) 16 <| cal (fX7_loadFrom (Int32.toNatClampNeg (S_23 14 0 1)) S_23) fun _ S_36 => some ((0 : Int32), S_36)
def fX4_hasImage (a1 : Int32) (S : St) : Op :=
  if (((S 14 0 5) >>> (a1 &&& (31 : Int32))) &&& (1 : Int32)) = (1 : Int32) then (some ((1 : Int32), S)) else (some ((0 : Int32), S))
def fX4_keepImage (a1 : Int32) (S : St) : Op :=
  ck a1 2 <| cal (fX7_saveTo (16 + (Int32.toNatClampNeg a1)) S) fun _ S_7 => ck a1 2 <| bs (wr S_7 18 0 (Int32.toNatClampNeg a1) (S_7 19 0 0)) fun S_19 => bs (wr S_19 14 0 5 ((S_19 14 0 5) ||| ((1 : Int32) <<< (a1 &&& (31 : Int32))))) fun S_29 => some ((0 : Int32), S_29)
def fX4_loadImage (a1 : Int32) (S : St) : Op :=
  ck a1 2 <| cal (fX7_loadFrom (16 + (Int32.toNatClampNeg a1)) S) fun _ S_7 => ck a1 2 <| bs (wr S_7 19 0 0 (S_7 18 0 (Int32.toNatClampNeg a1))) fun S_17 => some ((0 : Int32), S_17)
def bX5_addMonths_25 (a1 : Int32) (v0_22 : Int32) (kk25 : St → Op) (ag25 : Int32 → St → Op) (x3_25 : Int32) (S_25 : St) : Op :=
  if ((1 : Int32) <<< (a1 &&& (31 : Int32))) ≤ x3_25 then (kk25 S_25) else (ck x3_25 64 <| ck (x3_25 ||| ((1 : Int32) <<< (a1 &&& (31 : Int32)))) 64 <| bs (wr S_25 33 0 (Int32.toNatClampNeg (x3_25 ||| ((1 : Int32) <<< (a1 &&& (31 : Int32))))) ((S_25 33 0 (Int32.toNatClampNeg x3_25)) + v0_22)) fun S_49 => ag25 (x3_25 + (1 : Int32)) S_49)
def fX5_addMonths (a1 : Int32) (S : St) : Op :=
  ck a1 6 <| jn (fun (v0_22 : Int32) => jn (fun (S_56 : St) => some ((0 : Int32), S_56)) fun kk25 => lop (fun _ _ => none) (bX5_addMonths_25 a1 v0_22 kk25) FU (0 : Int32) S) fun j22 => if (S 32 0 (Int32.toNatClampNeg a1)) = (-1 : Int32) then (j22 (1000 : Int32)) else (ck a1 6 <| j22 (S 32 0 (Int32.toNatClampNeg a1)))
def bX5_fewestPits_7 (a1 : Int32) (a2 : Int32) (S : St) (kk7 : Int32 → Op) (ag7 : Int32 → Int32 → Op) (x4_7 : Int32) (x3_7 : Int32) : Op :=
  if x4_7 ≤ (0 : Int32) then (kk7 x3_7) else (ck x4_7 64 <| jn (fun (x3_39 : Int32) => bi (((x4_7 - (1 : Int32)) &&& a1)) fun x4_45 => ag7 x4_45 x3_39) fun j39 => if a2 < (S 33 0 (Int32.toNatClampNeg x4_7)) then (j39 x3_7) else (ck (a1 ^^^ x4_7) 64 <| bi ((imin x3_7 ((S 34 0 (Int32.toNatClampNeg (a1 ^^^ x4_7))) + (1 : Int32)))) fun x3_38 => j39 x3_38))
def fX5_fewestPits (a1 : Int32) (a2 : Int32) (S : St) : Op :=
  jn (fun (x3_50 : Int32) => some (x3_50, S)) fun kk7 => lop (fun _ _ => none) (bX5_fewestPits_7 a1 a2 S kk7) FU a1 (1000 : Int32)
def bX5_fill_20 (a1 : Int32) (a2 : Int32) (kk20 : St → Op) (ag20 : Int32 → St → Op) (x3_20 : Int32) (S_20 : St) : Op :=
  if ((1 : Int32) <<< (a1 &&& (31 : Int32))) ≤ x3_20 then (kk20 S_20) else (cal (fX5_fewestPits x3_20 a2 S_20) fun r_35 S_35 => ck x3_20 64 <| bs (wr S_35 34 0 (Int32.toNatClampNeg x3_20) r_35) fun S_38 => ag20 (x3_20 + (1 : Int32)) S_38)
def bX5_fill_2 (a1 : Int32) (kk2 : St → Op) (ag2 : Int32 → St → Op) (x3_2 : Int32) (S_2 : St) : Op :=
  if a1 ≤ x3_2 then (kk2 S_2) else (cal (fX5_addMonths x3_2 S_2) fun _ S_9 => ag2 (x3_2 + (1 : Int32)) S_9)
def fX5_fill (a1 : Int32) (a2 : Int32) (S : St) : Op :=
  jn (fun (S_18 : St) => jn (fun (S_45 : St) => some ((0 : Int32), S_45)) fun kk20 => lop (fun _ _ => none) (bX5_fill_20 a1 a2 kk20) FU (1 : Int32) S_18) fun kk2 => lop (fun _ _ => none) (bX5_fill_2 a1 kk2) FU (0 : Int32) S
def fJ6_bitCount_0f7a4 (a0 : Int32) (S : St) : Op :=
  bi ((a0 - ((ius a0 (1 : Int32)) &&& (1431655765 : Int32)))) fun x0_9 => bi (((x0_9 &&& (858993459 : Int32)) + ((ius x0_9 (2 : Int32)) &&& (858993459 : Int32)))) fun x0_23 => bi (((x0_23 + (ius x0_23 (4 : Int32))) &&& (252645135 : Int32))) fun x0_33 => bi ((x0_33 + (ius x0_33 (8 : Int32)))) fun x0_40 => bi ((x0_40 + (ius x0_40 (16 : Int32)))) fun x0_47 => some ((x0_47 &&& (63 : Int32)), S)
def bX5_mostWithin_5 (a1 : Int32) (a2 : Int32) (kk5 : Int32 → St → Op) (ag5 : Int32 → Int32 → St → Op) (x4_5 : Int32) (x3_5 : Int32) (S_5 : St) : Op :=
  if ((1 : Int32) <<< (a1 &&& (31 : Int32))) ≤ x4_5 then (kk5 x3_5 S_5) else (ck x4_5 64 <| if a2 < (S_5 34 0 (Int32.toNatClampNeg x4_5)) then (ag5 (x4_5 + (1 : Int32)) x3_5 S_5) else (cal (fJ6_bitCount_0f7a4 x4_5 S_5) fun r_26 S_26 => cal (fJ6_bitCount_0f7a4 x3_5 S_26) fun r_30 S_30 => if r_26 ≤ r_30 then (ag5 (x4_5 + (1 : Int32)) x3_5 S_30) else (ag5 (x4_5 + (1 : Int32)) x4_5 S_30)))
def fX5_mostWithin (a1 : Int32) (a2 : Int32) (S : St) : Op :=
  jn (fun (x3_45 : Int32) (S_45 : St) => some (x3_45, S_45)) fun kk5 => lop (fun _ _ _ => none) (bX5_mostWithin_5 a1 a2 kk5) FU (1 : Int32) (0 : Int32) S
def fX6_clear (o0 : Nat) (S : St) : Op :=
  bs (wr S 3 o0 0 (0 : Int32)) fun S_2 => bs (wr S_2 3 o0 1 (0 : Int32)) fun S_7 => bs (wr S_7 3 o0 2 (0 : Int32)) fun S_12 => bs (wr S_12 3 o0 3 (0 : Int32)) fun S_17 => some ((0 : Int32), S_17)
def fX6_isNone (o0 : Nat) (S : St) : Op :=
  if (S 3 o0 0) = (0 : Int32) then (some ((1 : Int32), S)) else (some ((0 : Int32), S))
def fX6_hasMan (o0 : Nat) (a1 : Int32) (S : St) : Op :=
  if a1 < (0 : Int32) then (some ((0 : Int32), S)) else (if (S 3 o0 2) ≤ a1 then (some ((0 : Int32), S)) else (some ((1 : Int32), S)))
def fX6_hasSaying (o0 : Nat) (a1 : Int32) (S : St) : Op :=
  if a1 < (0 : Int32) then (some ((0 : Int32), S)) else (if (S 3 o0 3) ≤ a1 then (some ((0 : Int32), S)) else (some ((1 : Int32), S)))
def fX6_hasSet (o0 : Nat) (a1 : Int32) (S : St) : Op :=
  if (ius a1 (S 3 o0 3)) = (0 : Int32) then (some ((1 : Int32), S)) else (some ((0 : Int32), S))
def fX6_everySaying (o0 : Nat) (S : St) : Op :=
  some ((((1 : Int32) <<< ((S 3 o0 3) &&& (31 : Int32))) - (1 : Int32)), S)
def bX6_setBorne_4 (o0 : Nat) (o1 : Nat) (kk4 : Int32 → St → Op) (ag4 : Int32 → Int32 → St → Op) (x3_4 : Int32) (x2_4 : Int32) (S_4 : St) : Op :=
  if (S_4 3 o0 3) ≤ x3_4 then (kk4 x2_4 S_4) else (cal (fX6_pain o0 o1 x3_4 S_4) fun r_15 S_15 => if (5 : Int32) < r_15 then (ag4 (x3_4 + (1 : Int32)) x2_4 S_15) else (bi ((x2_4 ||| ((1 : Int32) <<< (x3_4 &&& (31 : Int32))))) fun x2_27 => ag4 (x3_4 + (1 : Int32)) x2_27 S_15))
def fX6_setBorne (o0 : Nat) (o1 : Nat) (S : St) : Op :=
  jn (fun (x2_34 : Int32) (S_34 : St) => some (x2_34, S_34)) fun kk4 => lop (fun _ _ _ => none) (bX6_setBorne_4 o0 o1 kk4) FU (0 : Int32) (0 : Int32) S
def bX6_setFelt_4 (o0 : Nat) (o1 : Nat) (kk4 : Int32 → St → Op) (ag4 : Int32 → Int32 → St → Op) (x3_4 : Int32) (x2_4 : Int32) (S_4 : St) : Op :=
  if (S_4 3 o0 3) ≤ x3_4 then (kk4 x2_4 S_4) else (cal (fX6_pain o0 o1 x3_4 S_4) fun r_15 S_15 => if r_15 < (1 : Int32) then (ag4 (x3_4 + (1 : Int32)) x2_4 S_15) else (bi ((x2_4 ||| ((1 : Int32) <<< (x3_4 &&& (31 : Int32))))) fun x2_27 => ag4 (x3_4 + (1 : Int32)) x2_27 S_15))
def fX6_setFelt (o0 : Nat) (o1 : Nat) (S : St) : Op :=
  jn (fun (x2_34 : Int32) (S_34 : St) => some (x2_34, S_34)) fun kk4 => lop (fun _ _ _ => none) (bX6_setFelt_4 o0 o1 kk4) FU (0 : Int32) (0 : Int32) S
def bX6_bearsAll_2 (o0 : Nat) (o1 : Nat) (a2 : Int32) (kk2 : St → Op) (ag2 : Int32 → St → Op) (x3_2 : Int32) (S_2 : St) : Op :=
  if (S_2 3 o0 3) ≤ x3_2 then (kk2 S_2) else (if ((a2 >>> (x3_2 &&& (31 : Int32))) &&& (1 : Int32)) = (1 : Int32) then (cal (fX6_pain o0 o1 x3_2 S_2) fun r_22 S_22 => if r_22 ≤ (5 : Int32) then (ag2 (x3_2 + (1 : Int32)) S_22) else (some ((0 : Int32), S_22))) else (ag2 (x3_2 + (1 : Int32)) S_2))
def fX6_bearsAll (o0 : Nat) (o1 : Nat) (a2 : Int32) (S : St) : Op :=
  jn (fun (S_37 : St) => some ((1 : Int32), S_37)) fun kk2 => lop (fun _ _ => none) (bX6_bearsAll_2 o0 o1 a2 kk2) FU (0 : Int32) S
def bX6_feelsAll_2 (o0 : Nat) (o1 : Nat) (a2 : Int32) (kk2 : St → Op) (ag2 : Int32 → St → Op) (x3_2 : Int32) (S_2 : St) : Op :=
  if (S_2 3 o0 3) ≤ x3_2 then (kk2 S_2) else (if ((a2 >>> (x3_2 &&& (31 : Int32))) &&& (1 : Int32)) = (1 : Int32) then (cal (fX6_pain o0 o1 x3_2 S_2) fun r_22 S_22 => if (1 : Int32) ≤ r_22 then (ag2 (x3_2 + (1 : Int32)) S_22) else (some ((0 : Int32), S_22))) else (ag2 (x3_2 + (1 : Int32)) S_2))
def fX6_feelsAll (o0 : Nat) (o1 : Nat) (a2 : Int32) (S : St) : Op :=
  jn (fun (S_37 : St) => some ((1 : Int32), S_37)) fun kk2 => lop (fun _ _ => none) (bX6_feelsAll_2 o0 o1 a2 kk2) FU (0 : Int32) S
def bX6_wholePain_4 (o0 : Nat) (o1 : Nat) (kk4 : Int32 → St → Op) (ag4 : Int32 → Int32 → St → Op) (x3_4 : Int32) (x2_4 : Int32) (S_4 : St) : Op :=
  if (S_4 3 o0 3) ≤ x3_4 then (kk4 x2_4 S_4) else (cal (fX6_pain o0 o1 x3_4 S_4) fun r_16 S_16 => bi ((x2_4 + r_16)) fun x2_20 => ag4 (x3_4 + (1 : Int32)) x2_20 S_16)
def fX6_wholePain (o0 : Nat) (o1 : Nat) (S : St) : Op :=
  jn (fun (x2_27 : Int32) (S_27 : St) => some (x2_27, S_27)) fun kk4 => lop (fun _ _ _ => none) (bX6_wholePain_4 o0 o1 kk4) FU (0 : Int32) (0 : Int32) S
def bX6_scrapingAt_6 (o0 : Nat) (o1 : Nat) (a2 : Int32) (a3 : Int32) (kk6 : Int32 → St → Op) (ag6 : Int32 → Int32 → St → Op) (x5_6 : Int32) (x4_6 : Int32) (S_6 : St) : Op :=
  if (S_6 3 o0 3) ≤ x5_6 then (kk6 x4_6 S_6) else (if ((a2 >>> (x5_6 &&& (31 : Int32))) &&& (1 : Int32)) = (1 : Int32) then (ck x5_6 8 <| if (S_6 7 o0 (Int32.toNatClampNeg x5_6)) = a3 then (cal (fX6_pain o0 o1 x5_6 S_6) fun r_42 S_42 => bi ((imax x4_6 (r_42 - (5 : Int32)))) fun x4_50 => ag6 (x5_6 + (1 : Int32)) x4_50 S_42) else (ag6 (x5_6 + (1 : Int32)) x4_6 S_6)) else (ag6 (x5_6 + (1 : Int32)) x4_6 S_6))
def fX6_scrapingAt (o0 : Nat) (o1 : Nat) (a2 : Int32) (a3 : Int32) (S : St) : Op :=
  jn (fun (x4_58 : Int32) (S_58 : St) => some (x4_58, S_58)) fun kk6 => lop (fun _ _ _ => none) (bX6_scrapingAt_6 o0 o1 a2 a3 kk6) FU (0 : Int32) (0 : Int32) S
def bX6_leastScraping_5 (o0 : Nat) (o1 : Nat) (a2 : Int32) (kk5 : Int32 → St → Op) (ag5 : Int32 → Int32 → St → Op) (x4_5 : Int32) (x3_5 : Int32) (S_5 : St) : Op :=
  if (5 : Int32) ≤ x4_5 then (kk5 x3_5 S_5) else (cal (fX6_scrapingAt o0 o1 a2 x4_5 S_5) fun r_16 S_16 => ck x4_5 5 <| if r_16 ≤ (S_16 12 o1 (Int32.toNatClampNeg x4_5)) then (bi ((x3_5 + r_16)) fun x3_39 => ag5 (x4_5 + (1 : Int32)) x3_39 S_16) else (some ((-1 : Int32), S_16)))
def fX6_leastScraping (o0 : Nat) (o1 : Nat) (a2 : Int32) (S : St) : Op :=
  jn (fun (x3_46 : Int32) (S_46 : St) => some (x3_46, S_46)) fun kk5 => lop (fun _ _ _ => none) (bX6_leastScraping_5 o0 o1 a2 kk5) FU (0 : Int32) (0 : Int32) S
def bX7_begin_25 (o1 : Nat) (kk25 : St → Op) (ag25 : Int32 → St → Op) (x2_25 : Int32) (S_25 : St) : Op :=
  if (S_25 3 o1 2) ≤ x2_25 then (kk25 S_25) else (ck x2_25 6 <| cal (fX3_begin (Int32.toNatClampNeg x2_25) o1 x2_25 S_25) fun _ S_41 => ag25 (x2_25 + (1 : Int32)) S_41)
def fX7_begin (o1 : Nat) (S : St) : Op :=
  bs (wr S 9 0 0 (uid o1)) fun S_2 => bs (wr S_2 9 0 1 (0 : Int32)) fun S_7 => bs (wr S_7 9 0 2 (S_7 3 o1 1)) fun S_15 => bs (wr S_15 9 0 3 (0 : Int32)) fun S_20 => jn (fun (S_50 : St) => some ((0 : Int32), S_50)) fun kk25 => lop (fun _ _ => none) (bX7_begin_25 o1 kk25) FU (0 : Int32) S_20
def bX7_passMonth_2 (kk2 : St → Op) (ag2 : Int32 → St → Op) (x1_2 : Int32) (S_2 : St) : Op :=
  if (S_2 3 (pid (S_2 9 0 0)) 2) ≤ x1_2 then (kk2 S_2) else (ck x1_2 6 <| if (S_2 11 (Int32.toNatClampNeg x1_2) 1) = (1 : Int32) then (ck x1_2 6 <| cal (fX3_tan (Int32.toNatClampNeg x1_2) (S_2 9 0 2) (S_2 9 0 1) S_2) fun _ S_40 => ag2 (x1_2 + (1 : Int32)) S_40) else (ag2 (x1_2 + (1 : Int32)) S_2))
def fX7_passMonth  (S : St) : Op :=
  jn (fun (S_49 : St) => bs (wr S_49 9 0 1 ((S_49 9 0 1) + (1 : Int32))) fun S_56 => some ((0 : Int32), S_56)) fun kk2 => lop (fun _ _ => none) (bX7_passMonth_2 kk2) FU (0 : Int32) S
def bX7_setInside_4 (S : St) (kk4 : Int32 → Op) (ag4 : Int32 → Int32 → Op) (x2_4 : Int32) (x1_4 : Int32) : Op :=
  if (S 3 (pid (S 9 0 0)) 2) ≤ x2_4 then (kk4 x1_4) else (ck x2_4 6 <| bi ((x1_4 ||| ((S 11 (Int32.toNatClampNeg x2_4) 1) <<< (x2_4 &&& (31 : Int32))))) fun x1_28 => ag4 (x2_4 + (1 : Int32)) x1_28)
def fX7_setInside  (S : St) : Op :=
  jn (fun (x1_35 : Int32) => some (x1_35, S)) fun kk4 => lop (fun _ _ => none) (bX7_setInside_4 S kk4) FU (0 : Int32) (0 : Int32)
def fX7_freePits  (S : St) : Op :=
  cal (fX7_setInside S) fun r_8 S_8 => cal (fJ6_bitCount_0f7a4 r_8 S_8) fun r_11 S_11 => some (((S 3 (pid (S 9 0 0)) 0) - r_11), S_11)
def bX7_allWounds_4 (S : St) (kk4 : Int32 → Op) (ag4 : Int32 → Int32 → Op) (x2_4 : Int32) (x1_4 : Int32) : Op :=
  if (S 3 (pid (S 9 0 0)) 2) ≤ x2_4 then (kk4 x1_4) else (ck x2_4 6 <| bi ((x1_4 + (S 11 (Int32.toNatClampNeg x2_4) 2))) fun x1_26 => ag4 (x2_4 + (1 : Int32)) x1_26)
def fX7_allWounds  (S : St) : Op :=
  jn (fun (x1_33 : Int32) => some (x1_33, S)) fun kk4 => lop (fun _ _ => none) (bX7_allWounds_4 S kk4) FU (0 : Int32) (0 : Int32)
def fX7_scrapeOff (a1 : Int32) (a2 : Int32) (a3 : Int32) (S : St) : Op :=
  ck a1 6 <| ck a2 5 <| ck a2 5 <| bs (wr S 12 (Int32.toNatClampNeg a1) (Int32.toNatClampNeg a2) ((S 12 (Int32.toNatClampNeg a1) (Int32.toNatClampNeg a2)) - a3)) fun S_14 => bs (wr S_14 9 0 3 (imin (999999 : Int32) ((S_14 9 0 3) + a3))) fun S_27 => some ((0 : Int32), S_27)
def fX7_wound (a1 : Int32) (a2 : Int32) (S : St) : Op :=
  ck a1 6 <| ck a1 6 <| ck a1 6 <| cal (fX6_pain (pid (S 9 0 0)) (Int32.toNatClampNeg a1) a2 S) fun r_28 S_28 => bs (wr S_28 11 (Int32.toNatClampNeg a1) 2 (imin (99999 : Int32) ((S 11 (Int32.toNatClampNeg a1) 2) + r_28))) fun S_35 => some ((0 : Int32), S_35)
def fX7_scrapeIfSoft (a1 : Int32) (a2 : Int32) (S : St) : Op :=
  ck a1 6 <| ck a2 5 <| if (S 12 (Int32.toNatClampNeg a1) (Int32.toNatClampNeg a2)) ≤ (0 : Int32) then (some ((0 : Int32), S)) else (cal (fX7_scrapeOff a1 a2 (1 : Int32) S) fun _ S_18 => some ((0 : Int32), S_18))
def fX7_stir  (S : St) : Op :=
  if (S 3 (pid (S 9 0 0)) 2) = (0 : Int32) then (some ((0 : Int32), S)) else (cal (fX1_next (5 : Int32) S) fun r_13 S_13 => cal (fX1_next (S_13 3 (pid (S_13 9 0 0)) 2) S_13) fun r_25 S_25 => jn (fun (S_65 : St) => if r_13 = (1 : Int32) then (ck r_25 6 <| bs (wr S_65 11 (Int32.toNatClampNeg r_25) 1 (0 : Int32)) fun S_77 => some ((0 : Int32), S_77)) else (jn (if r_13 = (3 : Int32) then (cal (fX1_next (5 : Int32) S_65) fun r_126 S_126 => cal (fX7_scrapeIfSoft r_25 r_126 S_126) fun _ S_129 => some ((0 : Int32), S_129)) else (some ((0 : Int32), S_65))) fun j117 => if r_13 = (2 : Int32) then (if (S_65 3 (pid (S_65 9 0 0)) 3) ≤ (0 : Int32) then (j117) else (cal (fX1_next (S_65 3 (pid (S_65 9 0 0)) 3) S_65) fun r_108 S_108 => cal (fX7_wound r_25 r_108 S_108) fun _ S_111 => some ((0 : Int32), S_111))) else (j117))) fun j65 => if r_13 = (0 : Int32) then (ck r_25 6 <| if (S_25 11 (Int32.toNatClampNeg r_25) 1) = (0 : Int32) then (cal (fX7_freePits S_25) fun r_46 S_46 => if r_46 ≤ (0 : Int32) then (j65 S_46) else (ck r_25 6 <| bs (wr S_46 11 (Int32.toNatClampNeg r_25) 1 (1 : Int32)) fun S_59 => some ((0 : Int32), S_59))) else (j65 S_25)) else (j65 S_25))
def bX7_best_6 (kk6 : Int32 → St → Op) (ag6 : Int32 → Int32 → Int32 → St → Op) (x3_6 : Int32) (x2_6 : Int32) (x1_6 : Int32) (S_6 : St) : Op :=
  if (S_6 3 (pid (S_6 9 0 0)) 2) ≤ x3_6 then (kk6 x1_6 S_6) else (ck x3_6 6 <| cal (fX6_wholePain (pid (S_6 9 0 0)) (Int32.toNatClampNeg x3_6) S_6) fun r_27 S_27 => if x1_6 = (-1 : Int32) then (ag6 (x3_6 + (1 : Int32)) r_27 x3_6 S_27) else (if x2_6 ≤ r_27 then (ag6 (x3_6 + (1 : Int32)) x2_6 x1_6 S_27) else (ag6 (x3_6 + (1 : Int32)) r_27 x3_6 S_27)))
def fX7_best  (S : St) : Op :=
  jn (fun (x1_54 : Int32) (S_54 : St) => some (x1_54, S_54)) fun kk6 => lop (fun _ _ _ _ => none) (bX7_best_6 kk6) FU (0 : Int32) (0 : Int32) (-1 : Int32) S
def bX7_leastPainedBy_4 (a1 : Int32) (kk4 : Int32 → St → Op) (ag4 : Int32 → Int32 → St → Op) (x3_4 : Int32) (x2_4 : Int32) (S_4 : St) : Op :=
  if (S_4 3 (pid (S_4 9 0 0)) 2) ≤ x3_4 then (kk4 x2_4 S_4) else (ck x3_4 6 <| cal (fX6_pain (pid (S_4 9 0 0)) (Int32.toNatClampNeg x3_4) a1 S_4) fun r_26 S_26 => ck x2_4 6 <| cal (fX6_pain (pid (S_26 9 0 0)) (Int32.toNatClampNeg x2_4) a1 S_26) fun r_40 S_40 => if r_40 ≤ r_26 then (ag4 (x3_4 + (1 : Int32)) x2_4 S_40) else (ag4 (x3_4 + (1 : Int32)) x3_4 S_40))
def fX7_leastPainedBy (a1 : Int32) (S : St) : Op :=
  jn (fun (x2_54 : Int32) (S_54 : St) => some (x2_54, S_54)) fun kk4 => lop (fun _ _ _ => none) (bX7_leastPainedBy_4 a1 kk4) FU (1 : Int32) (0 : Int32) S
def bX7_votesFor_4 (a1 : Int32) (kk4 : Int32 → St → Op) (ag4 : Int32 → Int32 → St → Op) (x3_4 : Int32) (x2_4 : Int32) (S_4 : St) : Op :=
  if (S_4 3 (pid (S_4 9 0 0)) 3) ≤ x3_4 then (kk4 x2_4 S_4) else (cal (fX7_leastPainedBy x3_4 S_4) fun r_17 S_17 => if r_17 = a1 then (ag4 (x3_4 + (1 : Int32)) (x2_4 + (1 : Int32)) S_17) else (ag4 (x3_4 + (1 : Int32)) x2_4 S_17))
def fX7_votesFor (a1 : Int32) (S : St) : Op :=
  jn (fun (x2_33 : Int32) (S_33 : St) => some (x2_33, S_33)) fun kk4 => lop (fun _ _ _ => none) (bX7_votesFor_4 a1 kk4) FU (0 : Int32) (0 : Int32) S
def bX7_chosen_6 (kk6 : Int32 → St → Op) (ag6 : Int32 → Int32 → Int32 → St → Op) (x3_6 : Int32) (x2_6 : Int32) (x1_6 : Int32) (S_6 : St) : Op :=
  if (S_6 3 (pid (S_6 9 0 0)) 2) ≤ x3_6 then (kk6 x1_6 S_6) else (cal (fX7_votesFor x3_6 S_6) fun r_19 S_19 => if r_19 ≤ x2_6 then (ag6 (x3_6 + (1 : Int32)) x2_6 x1_6 S_19) else (ag6 (x3_6 + (1 : Int32)) r_19 x3_6 S_19))
def fX7_chosen  (S : St) : Op :=
  jn (fun (x1_41 : Int32) (S_41 : St) => some (x1_41, S_41)) fun kk6 => lop (fun _ _ _ _ => none) (bX7_chosen_6 kk6) FU (0 : Int32) (0 : Int32) (-1 : Int32) S
def bX7_tender_20 (S : St) (x3_6 : Int32) (kk20 : Int32 → Int32 → Op) (ag20 : Int32 → Int32 → Int32 → Op) (x4_20 : Int32) (x2_20 : Int32) (x1_20 : Int32) : Op :=
  if (5 : Int32) ≤ x4_20 then (kk20 x2_20 x1_20) else (ck x3_6 6 <| ck x4_20 5 <| ck x3_6 6 <| ck x4_20 5 <| bi (((S 12 (Int32.toNatClampNeg x3_6) (Int32.toNatClampNeg x4_20)) - (S 13 (Int32.toNatClampNeg x3_6) (Int32.toNatClampNeg x4_20)))) fun x5_51 => jn (bi ((((10 : Int32) * x3_6) + x4_20)) fun x1_71 => ag20 (x4_20 + (1 : Int32)) x5_51 x1_71) fun j64 => if x1_20 = (-1 : Int32) then (j64) else (if x5_51 ≤ x2_20 then (ag20 (x4_20 + (1 : Int32)) x2_20 x1_20) else (j64)))
def bX7_tender_6 (S : St) (kk6 : Int32 → Op) (ag6 : Int32 → Int32 → Int32 → Op) (x3_6 : Int32) (x2_6 : Int32) (x1_6 : Int32) : Op :=
  if (S 3 (pid (S 9 0 0)) 2) ≤ x3_6 then (kk6 x1_6) else (jn (fun (x2_81 : Int32) (x1_81 : Int32) => ag6 (x3_6 + (1 : Int32)) x2_81 x1_81) fun kk20 => lop (fun _ _ _ => none) (bX7_tender_20 S x3_6 kk20) FU (0 : Int32) x2_6 x1_6)
def fX7_tender  (S : St) : Op :=
  jn (fun (x1_87 : Int32) => some (x1_87, S)) fun kk6 => lop (fun _ _ _ => none) (bX7_tender_6 S kk6) FU (0 : Int32) (0 : Int32) (-1 : Int32)
def fX8_add (a1 : Int32) (S : St) : Op :=
  if (240 : Int32) ≤ (S 1 0 1) then (some ((S 1 0 1), S)) else (ck (S 1 0 1) 240 <| bs (wr S 2 0 (Int32.toNatClampNeg (S 1 0 1)) a1) fun S_19 => bs (wr S_19 1 0 1 ((S_19 1 0 1) + (1 : Int32))) fun S_27 => some ((S_27 1 0 1), S_27))
def bX8_skipBlanks_0 (kk0 : St → Op) (ag0 : St → Op) (S_0 : St) : Op :=
  if (S_0 1 0 1) ≤ (S_0 1 0 2) then (kk0 S_0) else (ck (S_0 1 0 2) 240 <| if (S_0 2 0 (Int32.toNatClampNeg (S_0 1 0 2))) = (32 : Int32) then (bs (wr S_0 1 0 2 ((S_0 1 0 2) + (1 : Int32))) fun S_32 => ag0 S_32) else (kk0 S_0))
def fX8_skipBlanks  (S : St) : Op :=
  jn (fun (S_38 : St) => some ((0 : Int32), S_38)) fun kk0 => lop (fun _ => none) (bX8_skipBlanks_0 kk0) FU S
def fX8_letter  (S : St) : Op :=
  if (S 1 0 1) ≤ (S 1 0 2) then (some ((-1 : Int32), S)) else (ck (S 1 0 2) 240 <| some ((S 2 0 (Int32.toNatClampNeg (S 1 0 2))), S))
def fX8_faultOfWord (a0 : Int32) (o1 : Nat) (S : St) : Op :=
  cal (fX6_isNone o1 S) fun r_1 S_1 => if r_1 = (0 : Int32) then (if a0 = (116 : Int32) then (some ((3 : Int32), S_1)) else (if a0 = (109 : Int32) then (if (6 : Int32) ≤ (S_1 3 o1 2) then (some ((3 : Int32), S_1)) else (some ((0 : Int32), S_1))) else (if a0 = (115 : Int32) then (if (8 : Int32) ≤ (S_1 3 o1 3) then (some ((3 : Int32), S_1)) else (some ((0 : Int32), S_1))) else (some ((1 : Int32), S_1))))) else (if a0 = (116 : Int32) then (some ((0 : Int32), S_1)) else (some ((1 : Int32), S_1)))
def fX8_mark (a1 : Int32) (a2 : Int32) (S : St) : Op :=
  if (S 1 0 3) = (0 : Int32) then (bs (wr S 1 0 3 a1) fun S_9 => bs (wr S_9 1 0 4 a2) fun S_14 => some ((0 : Int32), S_14)) else (some ((0 : Int32), S))
def fX8_isFigure (a0 : Int32) (S : St) : Op :=
  if a0 < (48 : Int32) then (some ((0 : Int32), S)) else (if (57 : Int32) < a0 then (some ((0 : Int32), S)) else (some ((1 : Int32), S)))
def fX10_isOutside (a0 : Int32) (a1 : Int32) (a2 : Int32) (S : St) : Op :=
  if a0 < a1 then (some ((1 : Int32), S)) else (if a0 ≤ a2 then (some ((0 : Int32), S)) else (some ((1 : Int32), S)))
def bX8_readNumber_12 (kk12 : Int32 → St → Op) (ag12 : Int32 → St → Op) (x4_12 : Int32) (S_12 : St) : Op :=
  if (S_12 1 0 1) ≤ (S_12 1 0 2) then (kk12 x4_12 S_12) else (ck (S_12 1 0 2) 240 <| cal (fX8_isFigure (S_12 2 0 (Int32.toNatClampNeg (S_12 1 0 2))) S_12) fun r_32 S_32 => if r_32 = (0 : Int32) then (kk12 x4_12 S_32) else (ck (S_32 1 0 2) 240 <| bi (((x4_12 * (10 : Int32)) + ((S_32 2 0 (Int32.toNatClampNeg (S_32 1 0 2))) - (48 : Int32)))) fun x4_56 => bs (wr S_32 1 0 2 ((S_32 1 0 2) + (1 : Int32))) fun S_65 => ag12 x4_56 S_65))
def fX8_readNumber (a1 : Int32) (a2 : Int32) (S : St) : Op :=
  cal (fX8_skipBlanks S) fun _ S_1 => bi ((S_1 1 0 2)) fun x3_8 => jn (fun (x4_71 : Int32) (S_71 : St) => bi (((S_71 1 0 2) - x3_8)) fun x5_77 => if x5_77 = (0 : Int32) then (cal (fX8_mark (1 : Int32) x3_8 S_71) fun _ S_87 => some (a1, S_87)) else (jn (fun (S_108 : St) => cal (fX8_mark (2 : Int32) x3_8 S_108) fun _ S_111 => some (a1, S_111)) fun j108 => if (3 : Int32) < x5_77 then (j108 S_71) else (cal (fX10_isOutside x4_71 a1 a2 S_71) fun r_102 S_102 => if r_102 = (0 : Int32) then (some (x4_71, S_102)) else (j108 S_102)))) fun kk12 => lop (fun _ _ => none) (bX8_readNumber_12 kk12) FU (0 : Int32) S_1
def fX8_readPits (o1 : Nat) (S : St) : Op :=
  cal (fX8_readNumber (1 : Int32) (3 : Int32) S) fun r_4 S_4 => bs (wr S_4 3 o1 0 r_4) fun S_7 => cal (fX8_readNumber (1 : Int32) (9 : Int32) S_7) fun r_15 S_15 => bs (wr S_15 3 o1 1 r_15) fun S_18 => some ((0 : Int32), S_18)
def fX8_skipMark (a1 : Int32) (S : St) : Op :=
  cal (fX8_skipBlanks S) fun _ S_1 => cal (fX8_letter S_1) fun r_5 S_5 => if r_5 = a1 then (bs (wr S_5 1 0 2 ((S_5 1 0 2) + (1 : Int32))) fun S_19 => some ((0 : Int32), S_19)) else (cal (fX8_mark (1 : Int32) (S_5 1 0 2) S_5) fun _ S_31 => some ((0 : Int32), S_31))
def bX8_readMan_19 (o1 : Nat) (x2_4 : Int32) (kk19 : St → Op) (ag19 : Int32 → St → Op) (x3_19 : Int32) (S_19 : St) : Op :=
  if (5 : Int32) ≤ x3_19 then (kk19 S_19) else (jn (fun (S_34 : St) => ck x2_4 6 <| cal (fX8_readNumber (0 : Int32) (30 : Int32) S_34) fun r_45 S_45 => ck x3_19 5 <| bs (wr S_45 6 (6 * o1 + (Int32.toNatClampNeg x2_4)) (Int32.toNatClampNeg x3_19) r_45) fun S_48 => ag19 (x3_19 + (1 : Int32)) S_48) fun j34 => if x3_19 ≤ (0 : Int32) then (j34 S_19) else (cal (fX8_skipMark (44 : Int32) S_19) fun _ S_31 => j34 S_31))
def fX8_readMan (o1 : Nat) (S : St) : Op :=
  bi ((S 3 o1 2)) fun x2_4 => cal (fX8_readNumber (0 : Int32) (3 : Int32) S) fun r_13 S_13 => ck x2_4 6 <| bs (wr S_13 4 o1 (Int32.toNatClampNeg x2_4) r_13) fun S_16 => jn (fun (S_55 : St) => bs (wr S_55 3 o1 2 (x2_4 + (1 : Int32))) fun S_59 => some ((0 : Int32), S_59)) fun kk19 => lop (fun _ _ => none) (bX8_readMan_19 o1 x2_4 kk19) FU (0 : Int32) S_16
def fX8_readSaying (o1 : Nat) (S : St) : Op :=
  bi ((S 3 o1 3)) fun x2_4 => cal (fX8_readNumber (0 : Int32) (4 : Int32) S) fun r_13 S_13 => ck x2_4 8 <| bs (wr S_13 7 o1 (Int32.toNatClampNeg x2_4) r_13) fun S_16 => cal (fX8_readNumber (1 : Int32) (60 : Int32) S_16) fun r_26 S_26 => ck x2_4 8 <| bs (wr S_26 8 o1 (Int32.toNatClampNeg x2_4) r_26) fun S_29 => bs (wr S_29 3 o1 3 (x2_4 + (1 : Int32))) fun S_34 => some ((0 : Int32), S_34)
def fX8_readClause (o1 : Nat) (S : St) : Op :=
  cal (fX8_letter S) fun r_1 S_1 => cal (fX8_faultOfWord r_1 o1 S_1) fun r_7 S_7 => if r_7 = (0 : Int32) then (bs (wr S_7 1 0 2 ((S_7 1 0 2) + (1 : Int32))) fun S_32 => jn (fun (S_68 : St) => cal (fX8_skipMark (59 : Int32) S_68) fun _ S_71 => some ((0 : Int32), S_71)) fun j68 => if r_1 = (116 : Int32) then (cal (fX8_readPits o1 S_32) fun _ S_43 => j68 S_43) else (if r_1 = (109 : Int32) then (cal (fX8_readMan o1 S_32) fun _ S_57 => j68 S_57) else (cal (fX8_readSaying o1 S_32) fun _ S_65 => j68 S_65))) else (cal (fX8_mark r_7 (S_7 1 0 2) S_7) fun _ S_21 => some ((0 : Int32), S_21))
def bX8_readInto_25 (o1 : Nat) (kk25 : St → Op) (ag25 : Int32 → St → Op) (x2_25 : Int32) (S_25 : St) : Op :=
  if (240 : Int32) ≤ x2_25 then (kk25 S_25) else (if (S_25 1 0 1) ≤ (S_25 1 0 2) then (kk25 S_25) else (if (S_25 1 0 3) = (0 : Int32) then (cal (fX8_readClause o1 S_25) fun _ S_52 => cal (fX8_skipBlanks S_52) fun _ S_56 => ag25 (x2_25 + (1 : Int32)) S_56) else (kk25 S_25)))
def fX8_readInto (o1 : Nat) (S : St) : Op :=
  cal (fX6_clear o1 S) fun _ S_1 => bs (wr S_1 1 0 2 (0 : Int32)) fun S_6 => bs (wr S_6 1 0 3 (0 : Int32)) fun S_11 => bs (wr S_11 1 0 4 (-1 : Int32)) fun S_16 => cal (fX8_skipBlanks S_16) fun _ S_20 => jn (fun (S_65 : St) => bs (wr S_65 1 0 1 (0 : Int32)) fun S_67 => some ((0 : Int32), S_67)) fun kk25 => lop (fun _ _ => none) (bX8_readInto_25 o1 kk25) FU (0 : Int32) S_20
def fX9_clearNotes  (S : St) : Op :=
  bs (wr S 30 0 3 (0 : Int32)) fun S_2 => bs (wr S_2 30 0 4 (-1 : Int32)) fun S_7 => bs (wr S_7 30 0 5 (-1 : Int32)) fun S_12 => some ((0 : Int32), S_12)
def fX9_startNow (a2 : Int32) (S : St) : Op :=
  ck a2 6 <| cal (fX3_copySkin 6 (Int32.toNatClampNeg a2) S) fun _ S_10 => bs (wr S_10 30 0 1 (S_10 9 0 2)) fun S_18 => bs (wr S_18 30 0 2 (S_18 9 0 1)) fun S_26 => cal (fX9_clearNotes S_26) fun _ S_30 => some ((0 : Int32), S_30)
def fX9_startFirst (o1 : Nat) (a2 : Int32) (S : St) : Op :=
  cal (fX3_begin 6 o1 a2 S) fun _ S_6 => bs (wr S_6 30 0 1 (S_6 3 o1 1)) fun S_14 => bs (wr S_14 30 0 2 (0 : Int32)) fun S_19 => cal (fX9_clearNotes S_19) fun _ S_23 => some ((0 : Int32), S_23)
def fX9_note (a1 : Int32) (S : St) : Op :=
  jn (fun (S_12 : St) => bs (wr S_12 30 0 5 a1) fun S_14 => bs (wr S_14 30 0 3 ((S_14 30 0 3) + (1 : Int32))) fun S_24 => some ((0 : Int32), S_24)) fun j12 => if (S 30 0 3) = (0 : Int32) then (bs (wr S 30 0 4 a1) fun S_9 => j12 S_9) else (j12 S)
def fX9_noted (a1 : Int32) (S : St) : Op :=
  if a1 = (0 : Int32) then (some ((S 30 0 3), S)) else (if a1 = (1 : Int32) then (some ((S 30 0 4), S)) else (some ((S 30 0 5), S)))
def fX9_passMonth  (S : St) : Op :=
  cal (fX3_tan 6 (S 30 0 1) (S 30 0 2) S) fun _ S_12 => bs (wr S_12 30 0 2 ((S_12 30 0 2) + (1 : Int32))) fun S_22 => some ((0 : Int32), S_22)
def bX9_firstBearing_2 (o1 : Nat) (a2 : Int32) (kk2 : St → Op) (ag2 : Int32 → St → Op) (x3_2 : Int32) (S_2 : St) : Op :=
  if (200 : Int32) < x3_2 then (kk2 S_2) else (cal (fX6_bearsAll o1 6 a2 S_2) fun r_15 S_15 => if r_15 = (0 : Int32) then (cal (fX9_passMonth S_15) fun _ S_24 => ag2 (x3_2 + (1 : Int32)) S_24) else (some (x3_2, S_15)))
def fX9_firstBearing (o1 : Nat) (a2 : Int32) (S : St) : Op :=
  jn (fun (S_33 : St) => some ((-1 : Int32), S_33)) fun kk2 => lop (fun _ _ => none) (bX9_firstBearing_2 o1 a2 kk2) FU (0 : Int32) S
def bX9_lastFeeling_5 (o1 : Nat) (a2 : Int32) (kk5 : Int32 → St → Op) (ag5 : Int32 → Int32 → St → Op) (x4_5 : Int32) (x3_5 : Int32) (S_5 : St) : Op :=
  if (200 : Int32) < x4_5 then (kk5 x3_5 S_5) else (cal (fX6_pain o1 6 a2 S_5) fun r_19 S_19 => jn (fun (x3_29 : Int32) => cal (fX9_passMonth S_19) fun _ S_30 => ag5 (x4_5 + (1 : Int32)) x3_29 S_30) fun j29 => if r_19 < (1 : Int32) then (j29 x3_5) else (j29 x4_5))
def fX9_lastFeeling (o1 : Nat) (a2 : Int32) (S : St) : Op :=
  jn (fun (x3_39 : Int32) (S_39 : St) => some (x3_39, S_39)) fun kk5 => lop (fun _ _ _ => none) (bX9_lastFeeling_5 o1 a2 kk5) FU (0 : Int32) (-1 : Int32) S
def fX10_feed (a1 : Int32) (S : St) : Op :=
  cal (fX10_isOutside a1 (0 : Int32) (255 : Int32) S) fun r_5 S_5 => if r_5 = (0 : Int32) then (if (S_5 1 0 1) < (240 : Int32) then (cal (fX8_add a1 S_5) fun r_35 S_35 => some (r_35, S_35)) else (some ((-1000000004 : Int32), S_5))) else (some ((-1000000002 : Int32), S_5))
def fX10_yard  (S : St) : Op :=
  cal (fX8_readInto (pid (S 0 0 2)) S) fun _ S_8 => if (S_8 1 0 3) = (0 : Int32) then (bs (wr S_8 0 0 1 (uid (pid (S_8 0 0 2)))) fun S_42 => bs (wr S_42 0 0 2 (uid (pid (S_8 0 0 1)))) fun S_47 => cal (fX7_begin (pid (S_47 0 0 1)) S_47) fun _ S_58 => bs (wr S_58 14 0 2 (0 : Int32)) fun S_66 => bs (wr S_66 14 0 5 (0 : Int32)) fun S_74 => bs (wr S_74 20 0 3 (0 : Int32)) fun S_82 => bs (wr S_82 27 0 2 (0 : Int32)) fun S_90 => some ((S_90 3 (pid (S_90 0 0 1)) 2), S_90)) else (some (((-10 : Int32) - (S_8 1 0 3)), S_8))
def fX10_fault  (S : St) : Op :=
  some ((S 1 0 4), S)
def fX10_told (a1 : Int32) (S : St) : Op :=
  if a1 = (0 : Int32) then (some ((S 3 (pid (S 0 0 1)) 0), S)) else if a1 = (1 : Int32) then (some ((S 9 0 2), S)) else if a1 = (2 : Int32) then (some ((S 3 (pid (S 0 0 1)) 2), S)) else if a1 = (3 : Int32) then (some ((S 3 (pid (S 0 0 1)) 3), S)) else if a1 = (4 : Int32) then (some ((S 1 0 1), S)) else if a1 = (5 : Int32) then (some ((S 9 0 1), S)) else if a1 = (6 : Int32) then (cal (fX7_setInside S) fun r_128 S_128 => some (r_128, S_128)) else if a1 = (7 : Int32) then (some ((S 9 0 3), S)) else if a1 = (8 : Int32) then (cal (fX7_allWounds S) fun r_144 S_144 => some (r_144, S_144)) else if a1 = (9 : Int32) then (cal (fX7_best S) fun r_152 S_152 => some (r_152, S_152)) else if a1 = (10 : Int32) then (cal (fX7_chosen S) fun r_160 S_160 => some (r_160, S_160)) else if a1 = (11 : Int32) then (cal (fX7_tender S) fun r_168 S_168 => some (r_168, S_168)) else if a1 = (12 : Int32) then (some ((S 20 0 3), S)) else if a1 = (13 : Int32) then (some ((S 27 0 2), S)) else if a1 = (14 : Int32) then (some ((S 14 0 2), S)) else (some ((-1000000002 : Int32), S))
def fX10_man (a1 : Int32) (a2 : Int32) (S : St) : Op :=
  cal (fX6_hasMan (pid (S 0 0 1)) a1 S) fun r_5 S_5 => if r_5 = (0 : Int32) then (some ((-1000000001 : Int32), S_5)) else (ck a1 6 <| if a2 = (0 : Int32) then (some ((S_5 11 (Int32.toNatClampNeg a1) 0), S_5)) else if a2 = (1 : Int32) then (some ((S_5 11 (Int32.toNatClampNeg a1) 1), S_5)) else if a2 = (2 : Int32) then (some ((S_5 11 (Int32.toNatClampNeg a1) 2), S_5)) else if a2 = (3 : Int32) then (cal (fX6_setBorne (pid (S_5 0 0 1)) (Int32.toNatClampNeg a1) S_5) fun r_80 S_80 => some (r_80, S_80)) else if a2 = (4 : Int32) then (cal (fX6_setFelt (pid (S_5 0 0 1)) (Int32.toNatClampNeg a1) S_5) fun r_89 S_89 => some (r_89, S_89)) else (some ((-1000000002 : Int32), S_5)))
def fX10_skin (a1 : Int32) (a2 : Int32) (a3 : Int32) (S : St) : Op :=
  cal (fX6_hasMan (pid (S 0 0 1)) a1 S) fun r_5 S_5 => if r_5 = (0 : Int32) then (some ((-1000000001 : Int32), S_5)) else (cal (fX10_isOutside a2 (0 : Int32) (4 : Int32) S_5) fun r_17 S_17 => if r_17 = (0 : Int32) then (cal (fX10_isOutside a3 (0 : Int32) (1 : Int32) S_17) fun r_26 S_26 => if r_26 = (0 : Int32) then (ck a1 6 <| if a3 = (0 : Int32) then (ck a2 5 <| some ((S_26 12 (Int32.toNatClampNeg a1) (Int32.toNatClampNeg a2)), S_26)) else (ck a2 5 <| some ((S_26 13 (Int32.toNatClampNeg a1) (Int32.toNatClampNeg a2)), S_26))) else (some ((-1000000002 : Int32), S_26))) else (some ((-1000000002 : Int32), S_17)))
def fX10_saying (a1 : Int32) (a2 : Int32) (S : St) : Op :=
  cal (fX6_hasSaying (pid (S 0 0 1)) a1 S) fun r_5 S_5 => if r_5 = (0 : Int32) then (some ((-1000000001 : Int32), S_5)) else (cal (fX10_isOutside a2 (0 : Int32) (1 : Int32) S_5) fun r_17 S_17 => if r_17 = (0 : Int32) then (if a2 = (0 : Int32) then (ck a1 8 <| some ((S_17 7 (pid (S_17 0 0 1)) (Int32.toNatClampNeg a1)), S_17)) else (ck a1 8 <| some ((S_17 8 (pid (S_17 0 0 1)) (Int32.toNatClampNeg a1)), S_17))) else (some ((-1000000002 : Int32), S_17)))
def fX10_hurt (a1 : Int32) (a2 : Int32) (S : St) : Op :=
  cal (fX6_hasMan (pid (S 0 0 1)) a1 S) fun r_5 S_5 => if r_5 = (0 : Int32) then (some ((-1000000001 : Int32), S_5)) else (cal (fX6_hasSaying (pid (S_5 0 0 1)) a2 S_5) fun r_16 S_16 => if r_16 = (0 : Int32) then (some ((-1000000001 : Int32), S_16)) else (ck a1 6 <| cal (fX6_pain (pid (S_16 0 0 1)) (Int32.toNatClampNeg a1) a2 S_16) fun r_39 S_39 => some (r_39, S_39)))
def fX10_refusalOfMonths (a1 : Int32) (S : St) : Op :=
  cal (fX10_isOutside a1 (1 : Int32) (60 : Int32) S) fun r_4 S_4 => if r_4 = (0 : Int32) then (cal (fX6_isNone (pid (S_4 0 0 1)) S_4) fun r_17 S_17 => if r_17 = (0 : Int32) then (if (S_17 9 0 1) ≤ (9000 : Int32) then (some ((0 : Int32), S_17)) else (some ((-1000000004 : Int32), S_17))) else (some ((-1000000003 : Int32), S_17))) else (some ((-1000000002 : Int32), S_4))
def bX10_month_25 (a1 : Int32) (kk25 : St → Op) (ag25 : Int32 → St → Op) (x3_25 : Int32) (S_25 : St) : Op :=
  if a1 ≤ x3_25 then (kk25 S_25) else (cal (fX7_passMonth S_25) fun _ S_34 => ag25 (x3_25 + (1 : Int32)) S_34)
def fX10_month (a1 : Int32) (S : St) : Op :=
  cal (fX10_refusalOfMonths a1 S) fun r_2 S_2 => if r_2 = (0 : Int32) then (cal (fX4_push S_2) fun _ S_20 => jn (fun (S_43 : St) => some ((S_43 9 0 1), S_43)) fun kk25 => lop (fun _ _ => none) (bX10_month_25 a1 kk25) FU (0 : Int32) S_20) else (some (r_2, S_2))
def fX10_in (a1 : Int32) (S : St) : Op :=
  cal (fX6_hasMan (pid (S 0 0 1)) a1 S) fun r_5 S_5 => if r_5 = (0 : Int32) then (some ((-1000000001 : Int32), S_5)) else (ck a1 6 <| if (S_5 11 (Int32.toNatClampNeg a1) 1) = (1 : Int32) then (some ((-1000000003 : Int32), S_5)) else (cal (fX7_freePits S_5) fun r_37 S_37 => if (0 : Int32) < r_37 then (cal (fX4_push S_37) fun _ S_54 => ck a1 6 <| bs (wr S_54 11 (Int32.toNatClampNeg a1) 1 (1 : Int32)) fun S_67 => cal (fX7_freePits S_67) fun r_74 S_74 => some (r_74, S_74)) else (some ((-1000000004 : Int32), S_37))))
def fX10_out (a1 : Int32) (S : St) : Op :=
  cal (fX6_hasMan (pid (S 0 0 1)) a1 S) fun r_5 S_5 => if r_5 = (0 : Int32) then (some ((-1000000001 : Int32), S_5)) else (ck a1 6 <| if (S_5 11 (Int32.toNatClampNeg a1) 1) = (0 : Int32) then (some ((-1000000003 : Int32), S_5)) else (cal (fX4_push S_5) fun _ S_40 => ck a1 6 <| bs (wr S_40 11 (Int32.toNatClampNeg a1) 1 (0 : Int32)) fun S_53 => ck a1 6 <| cal (fX6_setBorne (pid (S_53 0 0 1)) (Int32.toNatClampNeg a1) S_53) fun r_69 S_69 => some (r_69, S_69)))
def fX10_scrape (a1 : Int32) (a2 : Int32) (a3 : Int32) (S : St) : Op :=
  cal (fX6_hasMan (pid (S 0 0 1)) a1 S) fun r_5 S_5 => if r_5 = (0 : Int32) then (some ((-1000000001 : Int32), S_5)) else (cal (fX10_isOutside a2 (0 : Int32) (4 : Int32) S_5) fun r_17 S_17 => if r_17 = (0 : Int32) then (cal (fX10_isOutside a3 (1 : Int32) (30 : Int32) S_17) fun r_27 S_27 => if r_27 = (0 : Int32) then (ck a1 6 <| ck a2 5 <| if a3 ≤ (S_27 12 (Int32.toNatClampNeg a1) (Int32.toNatClampNeg a2)) then (cal (fX4_push S_27) fun _ S_65 => cal (fX7_scrapeOff a1 a2 a3 S_65) fun _ S_75 => ck a1 6 <| ck a2 5 <| some ((S_75 12 (Int32.toNatClampNeg a1) (Int32.toNatClampNeg a2)), S_75)) else (some ((-1000000003 : Int32), S_27))) else (some ((-1000000002 : Int32), S_27))) else (some ((-1000000002 : Int32), S_17)))
def fX10_say (a1 : Int32) (a2 : Int32) (S : St) : Op :=
  cal (fX6_hasSaying (pid (S 0 0 1)) a1 S) fun r_5 S_5 => if r_5 = (0 : Int32) then (some ((-1000000001 : Int32), S_5)) else (cal (fX6_hasMan (pid (S_5 0 0 1)) a2 S_5) fun r_16 S_16 => if r_16 = (0 : Int32) then (some ((-1000000001 : Int32), S_16)) else (cal (fX4_push S_16) fun _ S_33 => cal (fX7_wound a2 a1 S_33) fun _ S_42 => ck a2 6 <| some ((S_42 11 (Int32.toNatClampNeg a2) 2), S_42)))
def fX10_bark (a1 : Int32) (S : St) : Op :=
  cal (fX10_isOutside a1 (1 : Int32) (9 : Int32) S) fun r_4 S_4 => if r_4 = (0 : Int32) then (cal (fX6_isNone (pid (S_4 0 0 1)) S_4) fun r_17 S_17 => if r_17 = (0 : Int32) then (cal (fX4_push S_17) fun _ S_34 => bi ((S_34 9 0 2)) fun x2_44 => bs (wr S_34 9 0 2 a1) fun S_50 => some (x2_44, S_50)) else (some ((-1000000003 : Int32), S_17))) else (some ((-1000000002 : Int32), S_4))
def bX10_drift_25 (a1 : Int32) (kk25 : St → Op) (ag25 : Int32 → St → Op) (x3_25 : Int32) (S_25 : St) : Op :=
  if a1 ≤ x3_25 then (kk25 S_25) else (cal (fX7_stir S_25) fun _ S_38 => cal (fX7_passMonth S_38) fun _ S_45 => ag25 (x3_25 + (1 : Int32)) S_45)
def fX10_drift (a1 : Int32) (S : St) : Op :=
  cal (fX10_refusalOfMonths a1 S) fun r_2 S_2 => if r_2 = (0 : Int32) then (cal (fX4_push S_2) fun _ S_20 => jn (fun (S_54 : St) => some ((S_54 9 0 1), S_54)) fun kk25 => lop (fun _ _ => none) (bX10_drift_25 a1 kk25) FU (0 : Int32) S_20) else (some (r_2, S_2))
def fX10_undo  (S : St) : Op :=
  if (0 : Int32) < (S 14 0 2) then (cal (fX4_pop S) fun _ S_21 => some ((S_21 14 0 2), S_21)) else (some ((-1000000003 : Int32), S))
def bX10_thick_52 (a3 : Int32) (kk52 : St → Op) (ag52 : Int32 → St → Op) (x4_52 : Int32) (S_52 : St) : Op :=
  if a3 ≤ x4_52 then (kk52 S_52) else (cal (fX9_passMonth S_52) fun _ S_62 => ag52 (x4_52 + (1 : Int32)) S_62)
def fX10_thick (a1 : Int32) (a2 : Int32) (a3 : Int32) (S : St) : Op :=
  cal (fX6_hasMan (pid (S 0 0 1)) a1 S) fun r_5 S_5 => if r_5 = (0 : Int32) then (some ((-1000000001 : Int32), S_5)) else (cal (fX10_isOutside a2 (0 : Int32) (4 : Int32) S_5) fun r_17 S_17 => if r_17 = (0 : Int32) then (cal (fX10_isOutside a3 (0 : Int32) (200 : Int32) S_17) fun r_28 S_28 => if r_28 = (0 : Int32) then (cal (fX9_startNow a1 S_28) fun _ S_46 => jn (fun (S_71 : St) => ck a2 5 <| some ((S_71 13 6 (Int32.toNatClampNeg a2)), S_71)) fun kk52 => lop (fun _ _ => none) (bX10_thick_52 a3 kk52) FU (0 : Int32) S_46) else (some ((-1000000002 : Int32), S_28))) else (some ((-1000000002 : Int32), S_17)))
def fX10_when (a1 : Int32) (a2 : Int32) (a3 : Int32) (S : St) : Op :=
  cal (fX6_hasMan (pid (S 0 0 1)) a1 S) fun r_5 S_5 => if r_5 = (0 : Int32) then (some ((-1000000001 : Int32), S_5)) else (cal (fX6_hasSaying (pid (S_5 0 0 1)) a2 S_5) fun r_16 S_16 => if r_16 = (0 : Int32) then (some ((-1000000001 : Int32), S_16)) else (cal (fX10_isOutside a3 (0 : Int32) (1 : Int32) S_16) fun r_28 S_28 => if r_28 = (0 : Int32) then (cal (fX9_startNow a1 S_28) fun _ S_46 => if a3 = (0 : Int32) then (cal (fX9_firstBearing (pid (S_46 0 0 1)) ((1 : Int32) <<< (a2 &&& (31 : Int32))) S_46) fun r_64 S_64 => some (r_64, S_64)) else (cal (fX9_lastFeeling (pid (S_46 0 0 1)) a2 S_46) fun r_79 S_79 => some (r_79, S_79))) else (some ((-1000000002 : Int32), S_28))))
def bX10_edge_64 (a2 : Int32) (a3 : Int32) (kk64 : St → Op) (ag64 : Int32 → St → Op) (x5_64 : Int32) (S_64 : St) : Op :=
  if (200 : Int32) < x5_64 then (kk64 S_64) else (cal (fX6_bearsAll (pid (S_64 0 0 1)) 6 a2 S_64) fun r_84 S_84 => jn (fun (S_117 : St) => cal (fX9_passMonth S_117) fun _ S_121 => ag64 (x5_64 + (1 : Int32)) S_121) fun j117 => if r_84 = (0 : Int32) then (j117 S_84) else (cal (fX6_feelsAll (pid (S_84 0 0 1)) 6 a3 S_84) fun r_102 S_102 => if r_102 = (0 : Int32) then (j117 S_102) else (cal (fX9_note x5_64 S_102) fun _ S_114 => j117 S_114)))
def fX10_edge (a1 : Int32) (a2 : Int32) (a3 : Int32) (a4 : Int32) (S : St) : Op :=
  cal (fX6_hasMan (pid (S 0 0 1)) a1 S) fun r_5 S_5 => if r_5 = (0 : Int32) then (some ((-1000000001 : Int32), S_5)) else (cal (fX6_hasSet (pid (S_5 0 0 1)) a2 S_5) fun r_16 S_16 => if r_16 = (0 : Int32) then (some ((-1000000001 : Int32), S_16)) else (cal (fX6_hasSet (pid (S_16 0 0 1)) a3 S_16) fun r_27 S_27 => if r_27 = (0 : Int32) then (some ((-1000000001 : Int32), S_27)) else (cal (fX10_isOutside a4 (0 : Int32) (2 : Int32) S_27) fun r_40 S_40 => if r_40 = (0 : Int32) then (cal (fX9_startNow a1 S_40) fun _ S_58 => jn (fun (S_130 : St) => cal (fX9_noted a4 S_130) fun r_136 S_136 => some (r_136, S_136)) fun kk64 => lop (fun _ _ => none) (bX10_edge_64 a2 a3 kk64) FU (0 : Int32) S_58) else (some ((-1000000002 : Int32), S_40)))))
def fX10_scraping (a1 : Int32) (a2 : Int32) (S : St) : Op :=
  cal (fX6_hasMan (pid (S 0 0 1)) a1 S) fun r_5 S_5 => if r_5 = (0 : Int32) then (some ((-1000000001 : Int32), S_5)) else (cal (fX6_hasSet (pid (S_5 0 0 1)) a2 S_5) fun r_16 S_16 => if r_16 = (0 : Int32) then (some ((-1000000001 : Int32), S_16)) else (ck a1 6 <| cal (fX6_leastScraping (pid (S_16 0 0 1)) (Int32.toNatClampNeg a1) a2 S_16) fun r_39 S_39 => some (r_39, S_39)))
def bX10_through_38 (kk38 : St → Op) (ag38 : Int32 → St → Op) (x3_38 : Int32) (S_38 : St) : Op :=
  if (S_38 3 (pid (S_38 0 0 1)) 2) ≤ x3_38 then (kk38 S_38) else (cal (fX9_startNow x3_38 S_38) fun _ S_58 => cal (fX6_everySaying (pid (S_58 0 0 1)) S_58) fun r_81 S_81 => cal (fX9_firstBearing (pid (S_58 0 0 1)) r_81 S_81) fun r_84 S_84 => ck x3_38 6 <| bs (wr S_84 32 0 (Int32.toNatClampNeg x3_38) r_84) fun S_87 => ag38 (x3_38 + (1 : Int32)) S_87)
def fX10_through (a1 : Int32) (a2 : Int32) (S : St) : Op :=
  cal (fX10_isOutside a1 (0 : Int32) (200 : Int32) S) fun r_5 S_5 => if r_5 = (0 : Int32) then (cal (fX10_isOutside a2 (0 : Int32) (1 : Int32) S_5) fun r_14 S_14 => if r_14 = (0 : Int32) then (cal (fX6_isNone (pid (S_14 0 0 1)) S_14) fun r_27 S_27 => if r_27 = (0 : Int32) then (jn (fun (S_94 : St) => cal (fX5_fill (S_94 3 (pid (S_94 0 0 1)) 2) a1 S_94) fun _ S_106 => cal (fX5_mostWithin (S_106 3 (pid (S_106 0 0 1)) 2) (S_106 3 (pid (S_106 0 0 1)) 0) S_106) fun r_127 S_127 => if a2 = (0 : Int32) then (cal (fJ6_bitCount_0f7a4 r_127 S_127) fun r_136 S_136 => some (r_136, S_136)) else (some (r_127, S_127))) fun kk38 => lop (fun _ _ => none) (bX10_through_38 kk38) FU (0 : Int32) S_27) else (some ((-1000000003 : Int32), S_27))) else (some ((-1000000002 : Int32), S_14))) else (some ((-1000000002 : Int32), S_5))
def fX10_over (a1 : Int32) (a2 : Int32) (S : St) : Op :=
  cal (fX6_hasMan (pid (S 0 0 1)) a1 S) fun r_5 S_5 => if r_5 = (0 : Int32) then (some ((-1000000001 : Int32), S_5)) else (cal (fX6_hasMan (pid (S_5 0 0 1)) a2 S_5) fun r_16 S_16 => if r_16 = (0 : Int32) then (some ((-1000000001 : Int32), S_16)) else (if a1 = a2 then (some ((-1000000001 : Int32), S_16)) else (ck a1 6 <| ck a2 6 <| cal (fX3_isOver (Int32.toNatClampNeg a1) (Int32.toNatClampNeg a2) S_16) fun r_48 S_48 => if r_48 = (0 : Int32) then (some ((0 : Int32), S_48)) else (some ((1 : Int32), S_48)))))
def bX10_quiet_30 (a1 : Int32) (a2 : Int32) (kk30 : Int64 → Op) (ag30 : Int32 → Int64 → Op) (x5_30 : Int32) (x3_30 : Int64) : Op :=
  if a1 ≤ x5_30 then (kk30 x3_30) else (bl (((x3_30 * (Int32.toInt64 a2)) / (100 : Int64))) fun x3_44 => ag30 (x5_30 + (1 : Int32)) x3_44)
def fX10_quiet (a1 : Int32) (a2 : Int32) (S : St) : Op :=
  cal (fX10_isOutside a1 (0 : Int32) (60 : Int32) S) fun r_4 S_4 => if r_4 = (0 : Int32) then (cal (fX10_isOutside a2 (0 : Int32) (100 : Int32) S_4) fun r_14 S_14 => if r_14 = (0 : Int32) then (jn (fun (x3_51 : Int64) => some ((Int64.toInt32 x3_51), S_14)) fun kk30 => lop (fun _ _ => none) (bX10_quiet_30 a1 a2 kk30) FU (0 : Int32) (1000000000 : Int64)) else (some ((-1000000002 : Int32), S_14))) else (some ((-1000000002 : Int32), S_4))
def fX10_hear (a1 : Int32) (a2 : Int32) (a3 : Int32) (S : St) : Op :=
  cal (fX6_hasMan (pid (S 0 0 1)) a1 S) fun r_5 S_5 => if r_5 = (0 : Int32) then (some ((-1000000001 : Int32), S_5)) else (cal (fX6_hasSaying (pid (S_5 0 0 1)) a2 S_5) fun r_16 S_16 => if r_16 = (0 : Int32) then (some ((-1000000001 : Int32), S_16)) else (cal (fX10_isOutside a3 (0 : Int32) (99 : Int32) S_16) fun r_29 S_29 => if r_29 = (0 : Int32) then (if (S_29 20 0 3) < (6 : Int32) then (cal (fX2_add a1 a2 a3 S_29) fun r_60 S_60 => some (r_60, S_60)) else (some ((-1000000004 : Int32), S_29))) else (some ((-1000000002 : Int32), S_29))))
def bX10_stays_40 (a1 : Int32) (kk40 : St → Op) (ag40 : Int32 → St → Op) (x3_40 : Int32) (S_40 : St) : Op :=
  if (60 : Int32) < x3_40 then (kk40 S_40) else (cal (fX2_agree (pid (S_40 0 0 1)) 6 a1 S_40) fun r_62 S_62 => jn (fun (S_76 : St) => cal (fX9_passMonth S_76) fun _ S_80 => ag40 (x3_40 + (1 : Int32)) S_80) fun j76 => if r_62 = (0 : Int32) then (j76 S_62) else (cal (fX9_note x3_40 S_62) fun _ S_73 => j76 S_73))
def fX10_stays (a1 : Int32) (a2 : Int32) (S : St) : Op :=
  cal (fX6_hasMan (pid (S 0 0 1)) a1 S) fun r_5 S_5 => if r_5 = (0 : Int32) then (some ((-1000000001 : Int32), S_5)) else (cal (fX10_isOutside a2 (0 : Int32) (2 : Int32) S_5) fun r_17 S_17 => if r_17 = (0 : Int32) then (cal (fX9_startFirst (pid (S_17 0 0 1)) a1 S_17) fun _ S_35 => jn (fun (S_89 : St) => cal (fX9_noted a2 S_89) fun r_94 S_94 => some (r_94, S_94)) fun kk40 => lop (fun _ _ => none) (bX10_stays_40 a1 kk40) FU (0 : Int32) S_35) else (some ((-1000000002 : Int32), S_17)))
def bX10_ask_35 (a1 : Int32) (kk35 : St → Op) (ag35 : Int32 → St → Op) (x2_35 : Int32) (S_35 : St) : Op :=
  if (60 : Int32) < x2_35 then (kk35 S_35) else (cal (fX2_agree (pid (S_35 0 0 1)) 6 a1 S_35) fun r_57 S_57 => jn (fun (S_81 : St) => cal (fX9_passMonth S_81) fun _ S_85 => ag35 (x2_35 + (1 : Int32)) S_85) fun j81 => if r_57 = (0 : Int32) then (j81 S_57) else (cal (fX2_part (pid (S_57 0 0 1)) 6 S_57) fun _ S_78 => j81 S_78))
def fX10_ask (a1 : Int32) (S : St) : Op :=
  cal (fX6_hasMan (pid (S 0 0 1)) a1 S) fun r_5 S_5 => if r_5 = (0 : Int32) then (some ((-1000000001 : Int32), S_5)) else (cal (fX2_clearParts S_5) fun _ S_18 => cal (fX9_startFirst (pid (S_18 0 0 1)) a1 S_18) fun _ S_30 => jn (fun (S_94 : St) => cal (fX2_bestParting (S_94 3 (pid (S_94 0 0 1)) 3) S_94) fun r_105 S_105 => some (r_105, S_105)) fun kk35 => lop (fun _ _ => none) (bX10_ask_35 a1 kk35) FU (0 : Int32) S_30)
def fX10_write (a1 : Int32) (a2 : Int32) (S : St) : Op :=
  cal (fX6_hasMan (pid (S 0 0 1)) a1 S) fun r_5 S_5 => if r_5 = (0 : Int32) then (some ((-1000000001 : Int32), S_5)) else (cal (fX10_isOutside a2 (0 : Int32) (99999 : Int32) S_5) fun r_19 S_19 => if r_19 = (0 : Int32) then (if (S_19 27 0 2) < (15 : Int32) then (cal (fX0_add a1 a2 S_19) fun r_49 S_49 => some (r_49, S_49)) else (some ((-1000000004 : Int32), S_19))) else (some ((-1000000002 : Int32), S_19)))
def fX10_tear  (S : St) : Op :=
  bi (((S 20 0 3) + (S 27 0 2))) fun x1_15 => bs (wr S 20 0 3 (0 : Int32)) fun S_21 => bs (wr S_21 27 0 2 (0 : Int32)) fun S_29 => some (x1_15, S_29)
def fX10_judge  (S : St) : Op :=
  cal (fX0_firstWrong S) fun r_8 S_8 => some (r_8, S_8)
def fX10_seed (a1 : Int32) (S : St) : Op :=
  if (0 : Int32) ≤ a1 then (bi ((S 19 0 0)) fun x2_14 => bs (wr S 19 0 0 a1) fun S_20 => some (x2_14, S_20)) else (some ((-1000000002 : Int32), S))
def fX10_keep (a1 : Int32) (S : St) : Op :=
  cal (fX10_isOutside a1 (0 : Int32) (1 : Int32) S) fun r_3 S_3 => if r_3 = (0 : Int32) then (cal (fX4_keepImage a1 S_3) fun _ S_25 => bs (wr S_25 14 0 2 (0 : Int32)) fun S_33 => some ((1 : Int32), S_33)) else (some ((-1000000001 : Int32), S_3))
def fX10_goBack (a1 : Int32) (S : St) : Op :=
  cal (fX10_isOutside a1 (0 : Int32) (1 : Int32) S) fun r_3 S_3 => if r_3 = (0 : Int32) then (cal (fX4_hasImage a1 S_3) fun r_17 S_17 => if r_17 = (0 : Int32) then (some ((-1000000003 : Int32), S_17)) else (cal (fX4_loadImage a1 S_17) fun _ S_39 => bs (wr S_39 14 0 2 (0 : Int32)) fun S_47 => some ((1 : Int32), S_47))) else (some ((-1000000001 : Int32), S_3))
def fX11_within (a0 : Int64) (a2 : Int64) (a4 : Int64) (S : St) : Op :=
  if (lg_cmp a0 a2) < (0 : Int32) then (some ((0 : Int32), S)) else (if (0 : Int32) < (lg_cmp a0 a4) then (some ((0 : Int32), S)) else (some ((1 : Int32), S)))
def fX11_has (a0 : Int32) (a1 : Int32) (S : St) : Op :=
  if ((a0 >>> (a1 &&& (31 : Int32))) &&& (1 : Int32)) = (1 : Int32) then (some ((1 : Int32), S)) else (some ((0 : Int32), S))
def bX11_ones_4 (a0 : Int32) (kk4 : Int32 → Op) (ag4 : Int32 → Int32 → Op) (x2_4 : Int32) (x1_4 : Int32) : Op :=
  if (8 : Int32) ≤ x2_4 then (kk4 x1_4) else (bi ((x1_4 + ((a0 >>> (x2_4 &&& (31 : Int32))) &&& (1 : Int32)))) fun x1_17 => ag4 (x2_4 + (1 : Int32)) x1_17)
def fX11_ones (a0 : Int32) (S : St) : Op :=
  jn (fun (x1_24 : Int32) => some (x1_24, S)) fun kk4 => lop (fun _ _ => none) (bX11_ones_4 a0 kk4) FU (0 : Int32) (0 : Int32)
def fX11_isMan (a1 : Int32) (S : St) : Op :=
  cal (fX11_within (Int32.toInt64 a1) (0 : Int64) (Int32.toInt64 ((S 35 0 2) - (1 : Int32))) S) fun r_10 S_10 => some (r_10, S_10)
def fX11_isSaying (a1 : Int32) (S : St) : Op :=
  cal (fX11_within (Int32.toInt64 a1) (0 : Int64) (Int32.toInt64 ((S 35 0 5) - (1 : Int32))) S) fun r_10 S_10 => some (r_10, S_10)
def fX11_areSayings (a1 : Int32) (S : St) : Op :=
  cal (fX11_within (Int32.toInt64 a1) (0 : Int64) (Int32.toInt64 (((1 : Int32) <<< ((S 35 0 5) &&& (31 : Int32))) - (1 : Int32))) S) fun r_12 S_12 => some (r_12, S_12)
def fX11_isPlace (a0 : Int32) (S : St) : Op :=
  cal (fX11_within (Int32.toInt64 a0) (0 : Int64) (4 : Int64) S) fun r_6 S_6 => some (r_6, S_6)
def fX11_feed (a1 : Int32) (S : St) : Op :=
  cal (fX11_within (Int32.toInt64 a1) (0 : Int64) (255 : Int64) S) fun r_6 S_6 => if r_6 = (0 : Int32) then (some ((-1000000002 : Int32), S_6)) else (if (S_6 35 0 18) = (240 : Int32) then (some ((-1000000004 : Int32), S_6)) else (ck (S_6 35 0 18) 240 <| bs (wr S_6 46 0 (Int32.toNatClampNeg (S_6 35 0 18)) a1) fun S_37 => bs (wr S_37 35 0 18 ((S_37 35 0 18) + (1 : Int32))) fun S_45 => some ((S_45 35 0 18), S_45)))
def bX11_here_0 (kk0 : St → Op) (ag0 : St → Op) (S_0 : St) : Op :=
  if (S_0 35 0 18) ≤ (S_0 35 0 20) then (kk0 S_0) else (ck (S_0 35 0 20) 240 <| if (S_0 46 0 (Int32.toNatClampNeg (S_0 35 0 20))) = (32 : Int32) then (bs (wr S_0 35 0 20 ((S_0 35 0 20) + (1 : Int32))) fun S_32 => ag0 S_32) else (kk0 S_0))
def fX11_here  (S : St) : Op :=
  jn (fun (S_38 : St) => if (S_38 35 0 18) ≤ (S_38 35 0 20) then (some ((-1 : Int32), S_38)) else (ck (S_38 35 0 20) 240 <| some ((S_38 46 0 (Int32.toNatClampNeg (S_38 35 0 20))), S_38))) fun kk0 => lop (fun _ => none) (bX11_here_0 kk0) FU S
def fX11_fails (a1 : Int32) (a2 : Int32) (S : St) : Op :=
  bs (wr S 35 0 19 a2) fun S_2 => some (a1, S_2)
def bX11_takeNumber_42 (kk42 : St → Op) (ag42 : St → Op) (S_42 : St) : Op :=
  if (S_42 35 0 18) ≤ (S_42 35 0 20) then (kk42 S_42) else (ck (S_42 35 0 20) 240 <| cal (fX11_within (Int32.toInt64 (S_42 46 0 (Int32.toNatClampNeg (S_42 35 0 20)))) (48 : Int64) (57 : Int64) S_42) fun r_69 S_69 => if r_69 = (0 : Int32) then (kk42 S_69) else (jn (fun (v0_113 : Int32) => bs (wr S_69 35 0 21 v0_113) fun S_113 => bs (wr S_113 35 0 20 ((S_113 35 0 20) + (1 : Int32))) fun S_123 => ag42 S_123) fun j113 => if (S_69 35 0 21) ≤ (10000 : Int32) then (ck (S_69 35 0 20) 240 <| j113 ((((10 : Int32) * (S_69 35 0 21)) + (S_69 46 0 (Int32.toNatClampNeg (S_69 35 0 20)))) - (48 : Int32))) else (j113 (S_69 35 0 21))))
def fX11_takeNumber (a1 : Int32) (a2 : Int32) (S : St) : Op :=
  cal (fX11_here S) fun r_1 S_1 => cal (fX11_within (Int32.toInt64 r_1) (48 : Int64) (57 : Int64) S_1) fun r_13 S_13 => if r_13 = (0 : Int32) then (cal (fX11_fails (1 : Int32) (S_13 35 0 20) S_13) fun r_25 S_25 => some (r_25, S_25)) else (bs (wr S_13 35 0 22 (S_13 35 0 20)) fun S_34 => bs (wr S_34 35 0 21 (0 : Int32)) fun S_39 => jn (fun (S_129 : St) => jn (fun (S_157 : St) => cal (fX11_fails (2 : Int32) (S_157 35 0 22) S_157) fun r_163 S_163 => some (r_163, S_163)) fun j157 => if (3 : Int32) < ((S_129 35 0 20) - (S_129 35 0 22)) then (j157 S_129) else (cal (fX11_within (Int32.toInt64 (S_129 35 0 21)) (Int32.toInt64 a1) (Int32.toInt64 a2) S_129) fun r_151 S_151 => if r_151 = (0 : Int32) then (j157 S_151) else (some ((0 : Int32), S_151)))) fun kk42 => lop (fun _ => none) (bX11_takeNumber_42 kk42) FU S_39)
def fX11_takePits  (S : St) : Op :=
  cal (fX11_takeNumber (1 : Int32) (3 : Int32) S) fun r_3 S_3 => if r_3 ≤ (0 : Int32) then (bi ((S_3 35 0 21)) fun x2_17 => cal (fX11_takeNumber (1 : Int32) (9 : Int32) S_3) fun r_22 S_22 => bs (wr S_22 35 0 23 x2_17) fun S_28 => bs (wr S_28 35 0 24 (S_28 35 0 21)) fun S_36 => some (r_22, S_36)) else (some (r_3, S_3))
def bX11_takeMan_22 (kk22 : Int32 → St → Op) (ag22 : Int32 → Int32 → St → Op) (x2_22 : Int32) (x1_22 : Int32) (S_22 : St) : Op :=
  if (5 : Int32) ≤ x2_22 then (kk22 x1_22 S_22) else (if x1_22 = (0 : Int32) then (jn (fun (S_64 : St) => cal (fX11_takeNumber (0 : Int32) (30 : Int32) S_64) fun r_68 S_68 => ck (((5 : Int32) * (S_68 35 0 25)) + x2_22) 30 <| bs (wr S_68 48 0 (Int32.toNatClampNeg (((5 : Int32) * (S_68 35 0 25)) + x2_22)) (S_68 35 0 21)) fun S_88 => ag22 (x2_22 + (1 : Int32)) r_68 S_88) fun j64 => if x2_22 ≤ (0 : Int32) then (j64 S_22) else (cal (fX11_here S_22) fun r_36 S_36 => if r_36 = (44 : Int32) then (bs (wr S_36 35 0 20 ((S_36 35 0 20) + (1 : Int32))) fun S_61 => j64 S_61) else (cal (fX11_fails (1 : Int32) (S_36 35 0 20) S_36) fun r_50 S_50 => some (r_50, S_50)))) else (kk22 x1_22 S_22))
def fX11_takeMan  (S : St) : Op :=
  cal (fX11_takeNumber (0 : Int32) (3 : Int32) S) fun r_3 S_3 => ck (S_3 35 0 25) 6 <| bs (wr S_3 47 0 (Int32.toNatClampNeg (S_3 35 0 25)) (S_3 35 0 21)) fun S_19 => jn (fun (x1_95 : Int32) (S_95 : St) => bs (wr S_95 35 0 25 ((S_95 35 0 25) + (1 : Int32))) fun S_102 => some (x1_95, S_102)) fun kk22 => lop (fun _ _ _ => none) (bX11_takeMan_22 kk22) FU (0 : Int32) r_3 S_19
def fX11_takeSaying  (S : St) : Op :=
  cal (fX11_takeNumber (0 : Int32) (4 : Int32) S) fun r_3 S_3 => if r_3 ≤ (0 : Int32) then (ck (S_3 35 0 28) 8 <| bs (wr S_3 49 0 (Int32.toNatClampNeg (S_3 35 0 28)) (S_3 35 0 21)) fun S_25 => cal (fX11_takeNumber (1 : Int32) (60 : Int32) S_25) fun r_30 S_30 => ck (S_30 35 0 28) 8 <| bs (wr S_30 50 0 (Int32.toNatClampNeg (S_30 35 0 28)) (S_30 35 0 21)) fun S_46 => bs (wr S_46 35 0 28 ((S_46 35 0 28) + (1 : Int32))) fun S_54 => some (r_30, S_54)) else (some (r_3, S_3))
def fX11_isFull (a1 : Int32) (S : St) : Op :=
  if a1 = (0 : Int32) then (if (S 35 0 23) ≤ (0 : Int32) then (some ((0 : Int32), S)) else (some ((1 : Int32), S))) else (if a1 = (1 : Int32) then (if (S 35 0 25) = (6 : Int32) then (some ((1 : Int32), S)) else (some ((0 : Int32), S))) else (if (S 35 0 28) = (8 : Int32) then (some ((1 : Int32), S)) else (some ((0 : Int32), S))))
def fX11_takeBody (a1 : Int32) (S : St) : Op :=
  if a1 = (0 : Int32) then (cal (fX11_takePits S) fun r_5 S_5 => some (r_5, S_5)) else (if a1 = (1 : Int32) then (cal (fX11_takeMan S) fun r_17 S_17 => some (r_17, S_17)) else (cal (fX11_takeSaying S) fun r_24 S_24 => some (r_24, S_24)))
def fX11_takeClause  (S : St) : Op :=
  cal (fX11_here S) fun r_1 S_1 => jn (fun (v0_36 : Int32) => jn (cal (fX11_fails (1 : Int32) (S_1 35 0 20) S_1) fun r_58 S_58 => some (r_58, S_58)) fun j52 => if v0_36 < (0 : Int32) then (j52) else (jn (cal (fX11_isFull v0_36 S_1) fun r_64 S_64 => if r_64 = (0 : Int32) then (bs (wr S_64 35 0 20 ((S_64 35 0 20) + (1 : Int32))) fun S_87 => cal (fX11_takeBody v0_36 S_87) fun r_92 S_92 => if r_92 ≤ (0 : Int32) then (cal (fX11_here S_92) fun r_103 S_103 => if r_103 = (59 : Int32) then (bs (wr S_103 35 0 20 ((S_103 35 0 20) + (1 : Int32))) fun S_128 => some ((0 : Int32), S_128)) else (cal (fX11_fails (1 : Int32) (S_103 35 0 20) S_103) fun r_117 S_117 => some (r_117, S_117))) else (some (r_92, S_92))) else (cal (fX11_fails (3 : Int32) (S_64 35 0 20) S_64) fun r_76 S_76 => some (r_76, S_76))) fun j62 => if v0_36 ≤ (0 : Int32) then (j62) else (if (S_1 35 0 23) = (0 : Int32) then (j52) else (j62)))) fun j36 => if r_1 = (116 : Int32) then (j36 (0 : Int32)) else (if r_1 = (109 : Int32) then (j36 (1 : Int32)) else (if r_1 = (115 : Int32) then (j36 (2 : Int32)) else (j36 (-1 : Int32))))
def bX11_takeRead_145 (kk145 : St → Op) (ag145 : Int32 → St → Op) (x1_145 : Int32) (S_145 : St) : Op :=
  if (8 : Int32) ≤ x1_145 then (kk145 S_145) else (ck x1_145 8 <| ck x1_145 8 <| bs (wr S_145 38 0 (Int32.toNatClampNeg x1_145) (S_145 49 0 (Int32.toNatClampNeg x1_145))) fun S_162 => ck x1_145 8 <| ck x1_145 8 <| bs (wr S_162 39 0 (Int32.toNatClampNeg x1_145) (S_162 50 0 (Int32.toNatClampNeg x1_145))) fun S_174 => ag145 (x1_145 + (1 : Int32)) S_174)
def bX11_takeRead_91 (kk91 : St → Op) (ag91 : Int32 → St → Op) (x1_91 : Int32) (S_91 : St) : Op :=
  if (30 : Int32) ≤ x1_91 then (kk91 S_91) else (jn (fun (v0_122 : Int32) => ck x1_91 30 <| bs (wr S_91 37 0 (Int32.toNatClampNeg x1_91) v0_122) fun S_122 => ck x1_91 30 <| ck ((4 : Int32) + x1_91) 70 <| bs (wr S_122 40 0 (Int32.toNatClampNeg ((4 : Int32) + x1_91)) (S_122 37 0 (Int32.toNatClampNeg x1_91))) fun S_136 => ag91 (x1_91 + (1 : Int32)) S_136) fun j122 => if ((5 : Int32) * (S_91 35 0 2)) ≤ x1_91 then (j122 (0 : Int32)) else (ck x1_91 30 <| j122 (S_91 48 0 (Int32.toNatClampNeg x1_91))))
def bX11_takeRead_65 (kk65 : St → Op) (ag65 : Int32 → St → Op) (x1_65 : Int32) (S_65 : St) : Op :=
  if (6 : Int32) ≤ x1_65 then (kk65 S_65) else (ck x1_65 6 <| ck x1_65 6 <| bs (wr S_65 36 0 (Int32.toNatClampNeg x1_65) (S_65 47 0 (Int32.toNatClampNeg x1_65))) fun S_82 => ag65 (x1_65 + (1 : Int32)) S_82)
def bX11_takeRead_34 (kk34 : St → Op) (ag34 : Int32 → St → Op) (x1_34 : Int32) (S_34 : St) : Op :=
  if (70 : Int32) ≤ x1_34 then (kk34 S_34) else (ck x1_34 70 <| bs (wr S_34 40 0 (Int32.toNatClampNeg x1_34) (0 : Int32)) fun S_46 => ag34 (x1_34 + (1 : Int32)) S_46)
def fX11_takeRead  (S : St) : Op :=
  bs (wr S 35 0 0 (S 35 0 23)) fun S_5 => bs (wr S_5 35 0 1 (S_5 35 0 24)) fun S_13 => bs (wr S_13 35 0 2 (S_13 35 0 25)) fun S_21 => bs (wr S_21 35 0 5 (S_21 35 0 28)) fun S_29 => jn (fun (S_53 : St) => ck (1 : Int32) 70 <| bs (wr S_53 40 0 (Int32.toNatClampNeg (1 : Int32)) (S_53 35 0 24)) fun S_62 => jn (fun (S_89 : St) => jn (fun (S_143 : St) => jn (fun (S_181 : St) => some ((0 : Int32), S_181)) fun kk145 => lop (fun _ _ => none) (bX11_takeRead_145 kk145) FU (0 : Int32) S_143) fun kk91 => lop (fun _ _ => none) (bX11_takeRead_91 kk91) FU (0 : Int32) S_89) fun kk65 => lop (fun _ _ => none) (bX11_takeRead_65 kk65) FU (0 : Int32) S_62) fun kk34 => lop (fun _ _ => none) (bX11_takeRead_34 kk34) FU (0 : Int32) S_29
def bX11_yard_32 (kk32 : Int32 → St → Op) (ag32 : Int32 → St → Op) (x1_32 : Int32) (S_32 : St) : Op :=
  if x1_32 = (0 : Int32) then (cal (fX11_here S_32) fun r_37 S_37 => if r_37 < (0 : Int32) then (kk32 x1_32 S_37) else (cal (fX11_takeClause S_37) fun r_44 S_44 => ag32 r_44 S_44)) else (kk32 x1_32 S_32)
def fX11_yard  (S : St) : Op :=
  bs (wr S 35 0 19 (-1 : Int32)) fun S_2 => bs (wr S_2 35 0 20 (0 : Int32)) fun S_7 => bs (wr S_7 35 0 23 (0 : Int32)) fun S_12 => bs (wr S_12 35 0 24 (0 : Int32)) fun S_17 => bs (wr S_17 35 0 25 (0 : Int32)) fun S_22 => bs (wr S_22 35 0 28 (0 : Int32)) fun S_27 => jn (fun (x1_51 : Int32) (S_51 : St) => bs (wr S_51 35 0 18 (0 : Int32)) fun S_53 => if x1_51 ≤ (0 : Int32) then (cal (fX11_takeRead S_53) fun _ S_66 => bs (wr S_66 35 0 10 (0 : Int32)) fun S_71 => bs (wr S_71 35 0 14 (0 : Int32)) fun S_76 => bs (wr S_76 35 0 34 (0 : Int32)) fun S_81 => ck (0 : Int32) 2 <| bs (wr S_81 60 0 (Int32.toNatClampNeg (0 : Int32)) (vp_nar .boolean (0 : Int32))) fun S_90 => ck (1 : Int32) 2 <| bs (wr S_90 60 0 (Int32.toNatClampNeg (1 : Int32)) (vp_nar .boolean (0 : Int32))) fun S_97 => some ((S_97 35 0 2), S_97)) else (some (((-10 : Int32) - x1_51), S_53))) fun kk32 => lop (fun _ _ => none) (bX11_yard_32 kk32) FU (0 : Int32) S_27
def fX11_fault  (S : St) : Op :=
  some ((S 35 0 19), S)
def fX11_capped (a0 : Int32) (S : St) : Op :=
  if a0 ≤ (99 : Int32) then (some (a0, S)) else (some ((99 : Int32), S))
def bX11_tans_47 (a1 : Int32) (a2 : Int32) (a3 : Int32) (x4_44 : Int32) (kk47 : St → Op) (ag47 : Int32 → St → Op) (x5_47 : Int32) (S_47 : St) : Op :=
  if (5 : Int32) ≤ x5_47 then (kk47 S_47) else (jn (fun (v0_120 : Int32) => ck x5_47 5 <| cal (fX11_capped ((S_47 52 0 (Int32.toNatClampNeg x5_47)) + v0_120) S_47) fun r_138 S_138 => ck x5_47 5 <| bs (wr S_138 52 0 (Int32.toNatClampNeg x5_47) r_138) fun S_141 => ag47 (x5_47 + (1 : Int32)) S_141) fun j120 => if a1 = (1 : Int32) then (if x5_47 = (2 : Int32) then (j120 (0 : Int32)) else (j120 ((a2 / (2 : Int32)) + (1 : Int32)))) else (if a1 = (2 : Int32) then (if x5_47 = (irm a3 (5 : Int32)) then (j120 (1 : Int32)) else (j120 (0 : Int32))) else (if a1 = (3 : Int32) then (if x5_47 = x4_44 then (j120 ((3 : Int32) * a2)) else (j120 (0 : Int32))) else (j120 a2))))
def bX11_tans_6 (S : St) (kk6 : Int32 → Op) (ag6 : Int32 → Int32 → Op) (x5_6 : Int32) (x4_6 : Int32) : Op :=
  if (5 : Int32) ≤ x5_6 then (kk6 x4_6) else (ck x5_6 5 <| ck x4_6 5 <| if (S 52 0 (Int32.toNatClampNeg x4_6)) ≤ (S 52 0 (Int32.toNatClampNeg x5_6)) then (ag6 (x5_6 + (1 : Int32)) x4_6) else (ag6 (x5_6 + (1 : Int32)) x5_6))
def fX11_tans (a1 : Int32) (a2 : Int32) (a3 : Int32) (S : St) : Op :=
  jn (fun (x4_44 : Int32) => jn (fun (S_148 : St) => some ((0 : Int32), S_148)) fun kk47 => lop (fun _ _ => none) (bX11_tans_47 a1 a2 a3 x4_44 kk47) FU (0 : Int32) S) fun kk6 => lop (fun _ _ => none) (bX11_tans_6 S kk6) FU (1 : Int32) (0 : Int32)
def bX11_takesSkin_2 (a1 : Int32) (kk2 : St → Op) (ag2 : Int32 → St → Op) (x2_2 : Int32) (S_2 : St) : Op :=
  if (5 : Int32) ≤ x2_2 then (kk2 S_2) else (ck (((4 : Int32) + ((5 : Int32) * a1)) + x2_2) 70 <| ck x2_2 5 <| bs (wr S_2 51 0 (Int32.toNatClampNeg x2_2) (S_2 40 0 (Int32.toNatClampNeg (((4 : Int32) + ((5 : Int32) * a1)) + x2_2)))) fun S_24 => ck (((34 : Int32) + ((5 : Int32) * a1)) + x2_2) 70 <| ck x2_2 5 <| bs (wr S_24 52 0 (Int32.toNatClampNeg x2_2) (S_24 40 0 (Int32.toNatClampNeg (((34 : Int32) + ((5 : Int32) * a1)) + x2_2)))) fun S_43 => ag2 (x2_2 + (1 : Int32)) S_43)
def fX11_takesSkin (a1 : Int32) (S : St) : Op :=
  jn (fun (S_50 : St) => some ((0 : Int32), S_50)) fun kk2 => lop (fun _ _ => none) (bX11_takesSkin_2 a1 kk2) FU (0 : Int32) S
def bX11_takesFirst_2 (a1 : Int32) (kk2 : St → Op) (ag2 : Int32 → St → Op) (x2_2 : Int32) (S_2 : St) : Op :=
  if (5 : Int32) ≤ x2_2 then (kk2 S_2) else (ck (((5 : Int32) * a1) + x2_2) 30 <| ck x2_2 5 <| bs (wr S_2 51 0 (Int32.toNatClampNeg x2_2) (S_2 37 0 (Int32.toNatClampNeg (((5 : Int32) * a1) + x2_2)))) fun S_22 => ck x2_2 5 <| bs (wr S_22 52 0 (Int32.toNatClampNeg x2_2) (0 : Int32)) fun S_29 => ag2 (x2_2 + (1 : Int32)) S_29)
def fX11_takesFirst (a1 : Int32) (S : St) : Op :=
  jn (fun (S_36 : St) => some ((0 : Int32), S_36)) fun kk2 => lop (fun _ _ => none) (bX11_takesFirst_2 a1 kk2) FU (0 : Int32) S
def fX11_hurts (a1 : Int32) (S : St) : Op :=
  ck a1 8 <| ck a1 8 <| ck (S 38 0 (Int32.toNatClampNeg a1)) 5 <| ck a1 8 <| ck (S 38 0 (Int32.toNatClampNeg a1)) 5 <| bi ((((S 39 0 (Int32.toNatClampNeg a1)) + (S 51 0 (Int32.toNatClampNeg (S 38 0 (Int32.toNatClampNeg a1))))) - (S 52 0 (Int32.toNatClampNeg (S 38 0 (Int32.toNatClampNeg a1)))))) fun x2_30 => if (0 : Int32) ≤ x2_30 then (some (x2_30, S)) else (some ((0 : Int32), S))
def bX11_borneNow_4 (kk4 : Int32 → St → Op) (ag4 : Int32 → Int32 → St → Op) (x2_4 : Int32) (x1_4 : Int32) (S_4 : St) : Op :=
  if (S_4 35 0 5) ≤ x2_4 then (kk4 x1_4 S_4) else (cal (fX11_hurts x2_4 S_4) fun r_15 S_15 => if (5 : Int32) < r_15 then (bi ((x1_4 ||| (0 : Int32))) fun x1_30 => ag4 (x2_4 + (1 : Int32)) x1_30 S_15) else (bi ((x1_4 ||| ((1 : Int32) <<< (x2_4 &&& (31 : Int32))))) fun x1_30 => ag4 (x2_4 + (1 : Int32)) x1_30 S_15))
def fX11_borneNow  (S : St) : Op :=
  jn (fun (x1_37 : Int32) (S_37 : St) => some (x1_37, S_37)) fun kk4 => lop (fun _ _ _ => none) (bX11_borneNow_4 kk4) FU (0 : Int32) (0 : Int32) S
def bX11_feltNow_4 (kk4 : Int32 → St → Op) (ag4 : Int32 → Int32 → St → Op) (x2_4 : Int32) (x1_4 : Int32) (S_4 : St) : Op :=
  if (S_4 35 0 5) ≤ x2_4 then (kk4 x1_4 S_4) else (cal (fX11_hurts x2_4 S_4) fun r_15 S_15 => if r_15 < (1 : Int32) then (bi ((x1_4 ||| (0 : Int32))) fun x1_30 => ag4 (x2_4 + (1 : Int32)) x1_30 S_15) else (bi ((x1_4 ||| ((1 : Int32) <<< (x2_4 &&& (31 : Int32))))) fun x1_30 => ag4 (x2_4 + (1 : Int32)) x1_30 S_15))
def fX11_feltNow  (S : St) : Op :=
  jn (fun (x1_37 : Int32) (S_37 : St) => some (x1_37, S_37)) fun kk4 => lop (fun _ _ _ => none) (bX11_feltNow_4 kk4) FU (0 : Int32) (0 : Int32) S
def fX11_hurtOf (a1 : Int32) (a2 : Int32) (S : St) : Op :=
  cal (fX11_takesSkin a1 S) fun _ S_2 => cal (fX11_hurts a2 S_2) fun r_7 S_7 => some (r_7, S_7)
def bX11_woundsAll_4 (S : St) (kk4 : Int32 → Op) (ag4 : Int32 → Int32 → Op) (x2_4 : Int32) (x1_4 : Int32) : Op :=
  if (S 35 0 2) ≤ x2_4 then (kk4 x1_4) else (ck ((64 : Int32) + x2_4) 70 <| bi ((x1_4 + (S 40 0 (Int32.toNatClampNeg ((64 : Int32) + x2_4))))) fun x1_23 => ag4 (x2_4 + (1 : Int32)) x1_23)
def fX11_woundsAll  (S : St) : Op :=
  jn (fun (x1_30 : Int32) => some (x1_30, S)) fun kk4 => lop (fun _ _ => none) (bX11_woundsAll_4 S kk4) FU (0 : Int32) (0 : Int32)
def bX11_bestMan_21 (x3_7 : Int32) (kk21 : Int32 → St → Op) (ag21 : Int32 → Int32 → St → Op) (x5_21 : Int32) (x4_21 : Int32) (S_21 : St) : Op :=
  if (S_21 35 0 5) ≤ x5_21 then (kk21 x4_21 S_21) else (cal (fX11_hurtOf x3_7 x5_21 S_21) fun r_36 S_36 => bi ((x4_21 + r_36)) fun x4_40 => ag21 (x5_21 + (1 : Int32)) x4_40 S_36)
def bX11_bestMan_7 (kk7 : Int32 → St → Op) (ag7 : Int32 → Int32 → Int32 → St → Op) (x3_7 : Int32) (x2_7 : Int32) (x1_7 : Int32) (S_7 : St) : Op :=
  if (S_7 35 0 2) ≤ x3_7 then (kk7 x1_7 S_7) else (jn (fun (x4_48 : Int32) (S_48 : St) => jn (fun (v0_59 : Int32) => if x2_7 ≤ x4_48 then (ag7 (x3_7 + (1 : Int32)) x2_7 v0_59 S_48) else (ag7 (x3_7 + (1 : Int32)) x4_48 v0_59 S_48)) fun j59 => if x2_7 ≤ x4_48 then (j59 x1_7) else (j59 x3_7)) fun kk21 => lop (fun _ _ _ => none) (bX11_bestMan_21 x3_7 kk21) FU (0 : Int32) (0 : Int32) S_7)
def fX11_bestMan  (S : St) : Op :=
  jn (fun (x1_79 : Int32) (S_79 : St) => some (x1_79, S_79)) fun kk7 => lop (fun _ _ _ _ => none) (bX11_bestMan_7 kk7) FU (0 : Int32) (1000000 : Int32) (-1 : Int32) S
def bX11_chosen_110 (S_108 : St) (kk110 : Int32 → Op) (ag110 : Int32 → Int32 → Int32 → Op) (x3_110 : Int32) (x2_110 : Int32) (x1_110 : Int32) : Op :=
  if (S_108 35 0 2) ≤ x3_110 then (kk110 x1_110) else (ck x3_110 6 <| jn (fun (v0_133 : Int32) => ck x3_110 6 <| if (S_108 53 0 (Int32.toNatClampNeg x3_110)) ≤ x2_110 then (ag110 (x3_110 + (1 : Int32)) x2_110 v0_133) else (ck x3_110 6 <| bi ((S_108 53 0 (Int32.toNatClampNeg x3_110))) fun x2_154 => ag110 (x3_110 + (1 : Int32)) x2_154 v0_133)) fun j133 => if (S_108 53 0 (Int32.toNatClampNeg x3_110)) ≤ x2_110 then (j133 x1_110) else (j133 x3_110))
def bX11_chosen_50 (x3_29 : Int32) (kk50 : Int32 → St → Op) (ag50 : Int32 → Int32 → St → Op) (x5_50 : Int32) (x4_50 : Int32) (S_50 : St) : Op :=
  if (S_50 35 0 2) ≤ x5_50 then (kk50 x4_50 S_50) else (cal (fX11_hurtOf x5_50 x3_29 S_50) fun r_63 S_63 => cal (fX11_hurtOf x4_50 x3_29 S_63) fun r_70 S_70 => if r_70 ≤ r_63 then (ag50 (x5_50 + (1 : Int32)) x4_50 S_70) else (ag50 (x5_50 + (1 : Int32)) x5_50 S_70))
def bX11_chosen_29 (kk29 : St → Op) (ag29 : Int32 → St → Op) (x3_29 : Int32) (S_29 : St) : Op :=
  if (S_29 35 0 5) ≤ x3_29 then (kk29 S_29) else (if (S_29 35 0 2) ≤ (0 : Int32) then (kk29 S_29) else (jn (fun (x4_91 : Int32) (S_91 : St) => ck x4_91 6 <| ck x4_91 6 <| bs (wr S_91 53 0 (Int32.toNatClampNeg x4_91) ((S_91 53 0 (Int32.toNatClampNeg x4_91)) + (1 : Int32))) fun S_101 => ag29 (x3_29 + (1 : Int32)) S_101) fun kk50 => lop (fun _ _ _ => none) (bX11_chosen_50 x3_29 kk50) FU (1 : Int32) (0 : Int32) S_29))
def bX11_chosen_6 (kk6 : St → Op) (ag6 : Int32 → St → Op) (x3_6 : Int32) (S_6 : St) : Op :=
  if (S_6 35 0 2) ≤ x3_6 then (kk6 S_6) else (ck x3_6 6 <| bs (wr S_6 53 0 (Int32.toNatClampNeg x3_6) (0 : Int32)) fun S_20 => ag6 (x3_6 + (1 : Int32)) S_20)
def fX11_chosen  (S : St) : Op :=
  jn (fun (S_27 : St) => jn (fun (S_108 : St) => jn (fun (x1_161 : Int32) => some (x1_161, S_108)) fun kk110 => lop (fun _ _ _ => none) (bX11_chosen_110 S_108 kk110) FU (0 : Int32) (0 : Int32) (-1 : Int32)) fun kk29 => lop (fun _ _ => none) (bX11_chosen_29 kk29) FU (0 : Int32) S_27) fun kk6 => lop (fun _ _ => none) (bX11_chosen_6 kk6) FU (0 : Int32) S
def bX11_tender_7 (S : St) (kk7 : Int32 → Op) (ag7 : Int32 → Int32 → Int32 → Op) (x3_7 : Int32) (x2_7 : Int32) (x1_7 : Int32) : Op :=
  if ((5 : Int32) * (S 35 0 2)) ≤ x3_7 then (kk7 x1_7) else (ck ((4 : Int32) + x3_7) 70 <| ck ((34 : Int32) + x3_7) 70 <| bi (((S 40 0 (Int32.toNatClampNeg ((4 : Int32) + x3_7))) - (S 40 0 (Int32.toNatClampNeg ((34 : Int32) + x3_7))))) fun x4_35 => jn (fun (v0_57 : Int32) => if x4_35 ≤ x2_7 then (ag7 (x3_7 + (1 : Int32)) x2_7 v0_57) else (ag7 (x3_7 + (1 : Int32)) x4_35 v0_57)) fun j57 => if x4_35 ≤ x2_7 then (j57 x1_7) else (j57 (((10 : Int32) * (x3_7 / (5 : Int32))) + (irm x3_7 (5 : Int32)))))
def fX11_tender  (S : St) : Op :=
  jn (fun (x1_77 : Int32) => some (x1_77, S)) fun kk7 => lop (fun _ _ _ => none) (bX11_tender_7 S kk7) FU (0 : Int32) (-1000000 : Int32) (-1 : Int32)
def fX11_told (a1 : Int32) (S : St) : Op :=
  if a1 = (0 : Int32) then (some ((S 35 0 0), S)) else if a1 = (1 : Int32) then (ck (1 : Int32) 70 <| some ((S 40 0 (Int32.toNatClampNeg (1 : Int32))), S)) else if a1 = (2 : Int32) then (some ((S 35 0 2), S)) else if a1 = (3 : Int32) then (some ((S 35 0 5), S)) else if a1 = (4 : Int32) then (some ((S 35 0 18), S)) else if a1 = (5 : Int32) then (ck (0 : Int32) 70 <| some ((S 40 0 (Int32.toNatClampNeg (0 : Int32))), S)) else if a1 = (6 : Int32) then (ck (2 : Int32) 70 <| some ((S 40 0 (Int32.toNatClampNeg (2 : Int32))), S)) else if a1 = (7 : Int32) then (ck (3 : Int32) 70 <| some ((S 40 0 (Int32.toNatClampNeg (3 : Int32))), S)) else if a1 = (8 : Int32) then (cal (fX11_woundsAll S) fun r_125 S_125 => some (r_125, S_125)) else if a1 = (9 : Int32) then (cal (fX11_bestMan S) fun r_130 S_130 => some (r_130, S_130)) else if a1 = (10 : Int32) then (cal (fX11_chosen S) fun r_135 S_135 => some (r_135, S_135)) else if a1 = (11 : Int32) then (cal (fX11_tender S) fun r_140 S_140 => some (r_140, S_140)) else if a1 = (12 : Int32) then (some ((S 35 0 10), S)) else if a1 = (13 : Int32) then (some ((S 35 0 14), S)) else if a1 = (14 : Int32) then (some ((S 35 0 34), S)) else (some ((-1000000002 : Int32), S))
def fX11_man (a1 : Int32) (a2 : Int32) (S : St) : Op :=
  cal (fX11_isMan a1 S) fun r_2 S_2 => if r_2 = (0 : Int32) then (some ((-1000000001 : Int32), S_2)) else (cal (fX11_takesSkin a1 S_2) fun _ S_13 => if a2 = (0 : Int32) then (ck a1 6 <| some ((S_13 36 0 (Int32.toNatClampNeg a1)), S_13)) else if a2 = (1 : Int32) then (ck (2 : Int32) 70 <| some ((((S_13 40 0 (Int32.toNatClampNeg (2 : Int32))) >>> (a1 &&& (31 : Int32))) &&& (1 : Int32)), S_13)) else if a2 = (2 : Int32) then (ck ((64 : Int32) + a1) 70 <| some ((S_13 40 0 (Int32.toNatClampNeg ((64 : Int32) + a1))), S_13)) else if a2 = (3 : Int32) then (cal (fX11_borneNow S_13) fun r_81 S_81 => some (r_81, S_81)) else if a2 = (4 : Int32) then (cal (fX11_feltNow S_13) fun r_86 S_86 => some (r_86, S_86)) else (some ((-1000000002 : Int32), S_13)))
def fX11_skin (a1 : Int32) (a2 : Int32) (a3 : Int32) (S : St) : Op :=
  cal (fX11_isMan a1 S) fun r_2 S_2 => if r_2 = (0 : Int32) then (some ((-1000000001 : Int32), S_2)) else (cal (fX11_isPlace a2 S_2) fun r_12 S_12 => if r_12 = (0 : Int32) then (some ((-1000000002 : Int32), S_12)) else (cal (fX11_within (Int32.toInt64 a3) (0 : Int64) (1 : Int64) S_12) fun r_22 S_22 => if r_22 = (0 : Int32) then (some ((-1000000002 : Int32), S_22)) else (jn (fun (v0_45 : Int32) => ck ((v0_45 + ((5 : Int32) * a1)) + a2) 70 <| some ((S_22 40 0 (Int32.toNatClampNeg ((v0_45 + ((5 : Int32) * a1)) + a2))), S_22)) fun j45 => if a3 = (0 : Int32) then (j45 (4 : Int32)) else (j45 (34 : Int32)))))
def fX11_saying (a1 : Int32) (a2 : Int32) (S : St) : Op :=
  cal (fX11_isSaying a1 S) fun r_2 S_2 => if r_2 = (0 : Int32) then (some ((-1000000001 : Int32), S_2)) else (if a2 = (0 : Int32) then (ck a1 8 <| some ((S_2 38 0 (Int32.toNatClampNeg a1)), S_2)) else (if a2 = (1 : Int32) then (ck a1 8 <| some ((S_2 39 0 (Int32.toNatClampNeg a1)), S_2)) else (some ((-1000000002 : Int32), S_2))))
def fX11_hurt (a1 : Int32) (a2 : Int32) (S : St) : Op :=
  cal (fX11_isMan a1 S) fun r_2 S_2 => if r_2 = (0 : Int32) then (some ((-1000000001 : Int32), S_2)) else (cal (fX11_isSaying a2 S_2) fun r_10 S_10 => if r_10 = (0 : Int32) then (some ((-1000000001 : Int32), S_10)) else (cal (fX11_hurtOf a1 a2 S_10) fun r_19 S_19 => some (r_19, S_19)))
def bX11_remember_52 (kk52 : St → Op) (ag52 : Int32 → St → Op) (x1_52 : Int32) (S_52 : St) : Op :=
  if (70 : Int32) ≤ x1_52 then (kk52 S_52) else (ck x1_52 70 <| ck (((70 : Int32) * (S_52 35 0 34)) + x1_52) 1120 <| bs (wr S_52 54 0 (Int32.toNatClampNeg (((70 : Int32) * (S_52 35 0 34)) + x1_52)) (S_52 40 0 (Int32.toNatClampNeg x1_52))) fun S_77 => ag52 (x1_52 + (1 : Int32)) S_77)
def bX11_remember_12 (kk12 : St → Op) (ag12 : Int32 → St → Op) (x1_12 : Int32) (S_12 : St) : Op :=
  if (1120 : Int32) ≤ x1_12 then (kk12 S_12) else (ck x1_12 1120 <| ck (x1_12 - (70 : Int32)) 1120 <| bs (wr S_12 54 0 (Int32.toNatClampNeg (x1_12 - (70 : Int32))) (S_12 54 0 (Int32.toNatClampNeg x1_12))) fun S_33 => ag12 (x1_12 + (1 : Int32)) S_33)
def fX11_remember  (S : St) : Op :=
  jn (fun (S_50 : St) => jn (fun (S_84 : St) => bs (wr S_84 35 0 34 ((S_84 35 0 34) + (1 : Int32))) fun S_91 => some ((0 : Int32), S_91)) fun kk52 => lop (fun _ _ => none) (bX11_remember_52 kk52) FU (0 : Int32) S_50) fun j50 => if (S 35 0 34) = (16 : Int32) then (jn (fun (S_40 : St) => bs (wr S_40 35 0 34 ((S_40 35 0 34) - (1 : Int32))) fun S_47 => j50 S_47) fun kk12 => lop (fun _ _ => none) (bX11_remember_12 kk12) FU (70 : Int32) S) else (j50 S)
def bX11_passes_52 (x1_2 : Int32) (kk52 : St → Op) (ag52 : Int32 → St → Op) (x2_52 : Int32) (S_52 : St) : Op :=
  if (5 : Int32) ≤ x2_52 then (kk52 S_52) else (ck x2_52 5 <| ck (((34 : Int32) + ((5 : Int32) * x1_2)) + x2_52) 70 <| bs (wr S_52 40 0 (Int32.toNatClampNeg (((34 : Int32) + ((5 : Int32) * x1_2)) + x2_52)) (S_52 52 0 (Int32.toNatClampNeg x2_52))) fun S_75 => ag52 (x2_52 + (1 : Int32)) S_75)
def bX11_passes_2 (kk2 : St → Op) (ag2 : Int32 → St → Op) (x1_2 : Int32) (S_2 : St) : Op :=
  if (S_2 35 0 2) ≤ x1_2 then (kk2 S_2) else (ck (2 : Int32) 70 <| cal (fX11_has (S_2 40 0 (Int32.toNatClampNeg (2 : Int32))) x1_2 S_2) fun r_17 S_17 => if r_17 = (0 : Int32) then (ag2 (x1_2 + (1 : Int32)) S_17) else (cal (fX11_takesSkin x1_2 S_17) fun _ S_25 => ck x1_2 6 <| ck (1 : Int32) 70 <| ck (0 : Int32) 70 <| cal (fX11_tans (S_25 36 0 (Int32.toNatClampNeg x1_2)) (S_25 40 0 (Int32.toNatClampNeg (1 : Int32))) (S_25 40 0 (Int32.toNatClampNeg (0 : Int32))) S_25) fun _ S_47 => jn (fun (S_82 : St) => ag2 (x1_2 + (1 : Int32)) S_82) fun kk52 => lop (fun _ _ => none) (bX11_passes_52 x1_2 kk52) FU (0 : Int32) S_47))
def fX11_passes  (S : St) : Op :=
  jn (fun (S_88 : St) => ck (0 : Int32) 70 <| ck (0 : Int32) 70 <| bs (wr S_88 40 0 (Int32.toNatClampNeg (0 : Int32)) ((S_88 40 0 (Int32.toNatClampNeg (0 : Int32))) + (1 : Int32))) fun S_97 => some ((0 : Int32), S_97)) fun kk2 => lop (fun _ _ => none) (bX11_passes_2 kk2) FU (0 : Int32) S
def fX11_monthsRefused (a1 : Int32) (S : St) : Op :=
  cal (fX11_within (Int32.toInt64 a1) (1 : Int64) (60 : Int64) S) fun r_6 S_6 => if r_6 = (0 : Int32) then (some ((-1000000002 : Int32), S_6)) else (if (S_6 35 0 0) = (0 : Int32) then (some ((-1000000003 : Int32), S_6)) else (ck (0 : Int32) 70 <| if (S_6 40 0 (Int32.toNatClampNeg (0 : Int32))) ≤ (9000 : Int32) then (some ((0 : Int32), S_6)) else (some ((-1000000004 : Int32), S_6))))
def bX11_month_18 (a1 : Int32) (kk18 : St → Op) (ag18 : Int32 → St → Op) (x3_18 : Int32) (S_18 : St) : Op :=
  if a1 ≤ x3_18 then (kk18 S_18) else (cal (fX11_passes S_18) fun _ S_24 => ag18 (x3_18 + (1 : Int32)) S_24)
def fX11_month (a1 : Int32) (S : St) : Op :=
  cal (fX11_monthsRefused a1 S) fun r_2 S_2 => if r_2 = (0 : Int32) then (cal (fX11_remember S_2) fun _ S_13 => jn (fun (S_33 : St) => ck (0 : Int32) 70 <| some ((S_33 40 0 (Int32.toNatClampNeg (0 : Int32))), S_33)) fun kk18 => lop (fun _ _ => none) (bX11_month_18 a1 kk18) FU (0 : Int32) S_13) else (some (r_2, S_2))
def fX11_free  (S : St) : Op :=
  ck (2 : Int32) 70 <| cal (fX11_ones (S 40 0 (Int32.toNatClampNeg (2 : Int32))) S) fun r_10 S_10 => some (((S 35 0 0) - r_10), S_10)
def fX11_in (a1 : Int32) (S : St) : Op :=
  cal (fX11_isMan a1 S) fun r_2 S_2 => if r_2 = (0 : Int32) then (some ((-1000000001 : Int32), S_2)) else (ck (2 : Int32) 70 <| cal (fX11_has (S_2 40 0 (Int32.toNatClampNeg (2 : Int32))) a1 S_2) fun r_18 S_18 => if r_18 = (0 : Int32) then (cal (fX11_free S_18) fun r_28 S_28 => if r_28 = (0 : Int32) then (some ((-1000000004 : Int32), S_28)) else (cal (fX11_remember S_28) fun _ S_38 => ck (2 : Int32) 70 <| ck (2 : Int32) 70 <| bs (wr S_38 40 0 (Int32.toNatClampNeg (2 : Int32)) ((S_38 40 0 (Int32.toNatClampNeg (2 : Int32))) ||| ((1 : Int32) <<< (a1 &&& (31 : Int32))))) fun S_52 => cal (fX11_free S_52) fun r_54 S_54 => some (r_54, S_54))) else (some ((-1000000003 : Int32), S_18)))
def fX11_out (a1 : Int32) (S : St) : Op :=
  cal (fX11_isMan a1 S) fun r_2 S_2 => if r_2 = (0 : Int32) then (some ((-1000000001 : Int32), S_2)) else (ck (2 : Int32) 70 <| cal (fX11_has (S_2 40 0 (Int32.toNatClampNeg (2 : Int32))) a1 S_2) fun r_18 S_18 => if r_18 = (0 : Int32) then (some ((-1000000003 : Int32), S_18)) else (cal (fX11_remember S_18) fun _ S_28 => ck (2 : Int32) 70 <| ck (2 : Int32) 70 <| bs (wr S_28 40 0 (Int32.toNatClampNeg (2 : Int32)) ((S_28 40 0 (Int32.toNatClampNeg (2 : Int32))) &&& (((1 : Int32) <<< (a1 &&& (31 : Int32))) ^^^ (-1 : Int32)))) fun S_44 => cal (fX11_takesSkin a1 S_44) fun _ S_47 => cal (fX11_borneNow S_47) fun r_51 S_51 => some (r_51, S_51)))
def fX11_scrapes (a1 : Int32) (a2 : Int32) (a3 : Int32) (S : St) : Op :=
  ck (((4 : Int32) + ((5 : Int32) * a1)) + a2) 70 <| ck (((4 : Int32) + ((5 : Int32) * a1)) + a2) 70 <| bs (wr S 40 0 (Int32.toNatClampNeg (((4 : Int32) + ((5 : Int32) * a1)) + a2)) ((S 40 0 (Int32.toNatClampNeg (((4 : Int32) + ((5 : Int32) * a1)) + a2))) - a3)) fun S_15 => ck (3 : Int32) 70 <| jn (fun (v0_47 : Int32) => ck (3 : Int32) 70 <| bs (wr S_15 40 0 (Int32.toNatClampNeg (3 : Int32)) v0_47) fun S_47 => some ((0 : Int32), S_47)) fun j47 => if ((S_15 40 0 (Int32.toNatClampNeg (3 : Int32))) + a3) ≤ (999999 : Int32) then (ck (3 : Int32) 70 <| j47 ((S_15 40 0 (Int32.toNatClampNeg (3 : Int32))) + a3)) else (j47 (999999 : Int32))
def fX11_scrape (a1 : Int32) (a2 : Int32) (a3 : Int32) (S : St) : Op :=
  cal (fX11_isMan a1 S) fun r_2 S_2 => if r_2 = (0 : Int32) then (some ((-1000000001 : Int32), S_2)) else (cal (fX11_isPlace a2 S_2) fun r_12 S_12 => if r_12 = (0 : Int32) then (some ((-1000000002 : Int32), S_12)) else (cal (fX11_within (Int32.toInt64 a3) (1 : Int64) (30 : Int64) S_12) fun r_24 S_24 => if r_24 = (0 : Int32) then (some ((-1000000002 : Int32), S_24)) else (ck (((4 : Int32) + ((5 : Int32) * a1)) + a2) 70 <| if a3 ≤ (S_24 40 0 (Int32.toNatClampNeg (((4 : Int32) + ((5 : Int32) * a1)) + a2))) then (cal (fX11_remember S_24) fun _ S_53 => cal (fX11_scrapes a1 a2 a3 S_53) fun _ S_60 => ck (((4 : Int32) + ((5 : Int32) * a1)) + a2) 70 <| some ((S_60 40 0 (Int32.toNatClampNeg (((4 : Int32) + ((5 : Int32) * a1)) + a2))), S_60)) else (some ((-1000000003 : Int32), S_24)))))
def fX11_wounds (a1 : Int32) (a2 : Int32) (S : St) : Op :=
  ck ((64 : Int32) + a2) 70 <| cal (fX11_hurtOf a2 a1 S) fun r_12 S_12 => bi (((S 40 0 (Int32.toNatClampNeg ((64 : Int32) + a2))) + r_12)) fun x3_16 => jn (fun (v0_39 : Int32) => ck ((64 : Int32) + a2) 70 <| bs (wr S_12 40 0 (Int32.toNatClampNeg ((64 : Int32) + a2)) v0_39) fun S_39 => some ((0 : Int32), S_39)) fun j39 => if x3_16 ≤ (99999 : Int32) then (j39 x3_16) else (j39 (99999 : Int32))
def fX11_say (a1 : Int32) (a2 : Int32) (S : St) : Op :=
  cal (fX11_isSaying a1 S) fun r_2 S_2 => if r_2 = (0 : Int32) then (some ((-1000000001 : Int32), S_2)) else (cal (fX11_isMan a2 S_2) fun r_10 S_10 => if r_10 = (0 : Int32) then (some ((-1000000001 : Int32), S_10)) else (cal (fX11_remember S_10) fun _ S_20 => cal (fX11_wounds a1 a2 S_20) fun _ S_26 => ck ((64 : Int32) + a2) 70 <| some ((S_26 40 0 (Int32.toNatClampNeg ((64 : Int32) + a2))), S_26)))
def fX11_bark (a1 : Int32) (S : St) : Op :=
  cal (fX11_within (Int32.toInt64 a1) (1 : Int64) (9 : Int64) S) fun r_6 S_6 => if r_6 = (0 : Int32) then (some ((-1000000002 : Int32), S_6)) else (if (S_6 35 0 0) = (0 : Int32) then (some ((-1000000003 : Int32), S_6)) else (cal (fX11_remember S_6) fun _ S_26 => ck (1 : Int32) 70 <| bi ((S_26 40 0 (Int32.toNatClampNeg (1 : Int32)))) fun x2_35 => ck (1 : Int32) 70 <| bs (wr S_26 40 0 (Int32.toNatClampNeg (1 : Int32)) a1) fun S_42 => some (x2_35, S_42)))
def fX11_draw (a1 : Int32) (S : St) : Op :=
  bs (wr S 35 0 9 (Int64.toInt32 (lrm (((Int32.toInt64 (S 35 0 9)) * (1103515245 : Int64)) + (12345 : Int64)) (2147483648 : Int64)))) fun S_19 => dz a1 <| some ((irm ((S_19 35 0 9) / (65536 : Int32)) a1), S_19)
def fX11_chance  (S : St) : Op :=
  cal (fX11_draw (5 : Int32) S) fun r_2 S_2 => cal (fX11_draw (S_2 35 0 2) S_2) fun r_11 S_11 => jn (fun (S_41 : St) => if r_2 = (1 : Int32) then (ck (2 : Int32) 70 <| ck (2 : Int32) 70 <| bs (wr S_41 40 0 (Int32.toNatClampNeg (2 : Int32)) ((S_41 40 0 (Int32.toNatClampNeg (2 : Int32))) &&& (((1 : Int32) <<< (r_11 &&& (31 : Int32))) ^^^ (-1 : Int32)))) fun S_59 => some ((0 : Int32), S_59)) else (jn (if r_2 = (3 : Int32) then (cal (fX11_draw (5 : Int32) S_41) fun r_98 S_98 => ck (((4 : Int32) + ((5 : Int32) * r_11)) + r_98) 70 <| if (S_98 40 0 (Int32.toNatClampNeg (((4 : Int32) + ((5 : Int32) * r_11)) + r_98))) ≤ (0 : Int32) then (some ((0 : Int32), S_98)) else (cal (fX11_scrapes r_11 r_98 (1 : Int32) S_98) fun _ S_121 => some ((0 : Int32), S_121))) else (some ((0 : Int32), S_41))) fun j91 => if r_2 = (2 : Int32) then (if (S_41 35 0 5) ≤ (0 : Int32) then (j91) else (cal (fX11_draw (S_41 35 0 5) S_41) fun r_81 S_81 => cal (fX11_wounds r_81 r_11 S_81) fun _ S_85 => some ((0 : Int32), S_85))) else (j91))) fun j41 => if r_2 = (0 : Int32) then (cal (fX11_free S_11) fun r_20 S_20 => if r_20 ≤ (0 : Int32) then (j41 S_20) else (ck (2 : Int32) 70 <| ck (2 : Int32) 70 <| bs (wr S_20 40 0 (Int32.toNatClampNeg (2 : Int32)) ((S_20 40 0 (Int32.toNatClampNeg (2 : Int32))) ||| ((1 : Int32) <<< (r_11 &&& (31 : Int32))))) fun S_37 => some ((0 : Int32), S_37))) else (j41 S_11)
def bX11_drift_18 (a1 : Int32) (kk18 : St → Op) (ag18 : Int32 → St → Op) (x3_18 : Int32) (S_18 : St) : Op :=
  if a1 ≤ x3_18 then (kk18 S_18) else (jn (fun (S_34 : St) => cal (fX11_passes S_34) fun _ S_35 => ag18 (x3_18 + (1 : Int32)) S_35) fun j34 => if (S_18 35 0 2) ≤ (0 : Int32) then (j34 S_18) else (cal (fX11_chance S_18) fun _ S_31 => j34 S_31))
def fX11_drift (a1 : Int32) (S : St) : Op :=
  cal (fX11_monthsRefused a1 S) fun r_2 S_2 => if r_2 = (0 : Int32) then (cal (fX11_remember S_2) fun _ S_13 => jn (fun (S_44 : St) => ck (0 : Int32) 70 <| some ((S_44 40 0 (Int32.toNatClampNeg (0 : Int32))), S_44)) fun kk18 => lop (fun _ _ => none) (bX11_drift_18 a1 kk18) FU (0 : Int32) S_13) else (some (r_2, S_2))
def bX11_undo_22 (kk22 : St → Op) (ag22 : Int32 → St → Op) (x1_22 : Int32) (S_22 : St) : Op :=
  if (70 : Int32) ≤ x1_22 then (kk22 S_22) else (ck (((70 : Int32) * (S_22 35 0 34)) + x1_22) 1120 <| ck x1_22 70 <| bs (wr S_22 40 0 (Int32.toNatClampNeg x1_22) (S_22 54 0 (Int32.toNatClampNeg (((70 : Int32) * (S_22 35 0 34)) + x1_22)))) fun S_47 => ag22 (x1_22 + (1 : Int32)) S_47)
def fX11_undo  (S : St) : Op :=
  if (S 35 0 34) = (0 : Int32) then (some ((-1000000003 : Int32), S)) else (bs (wr S 35 0 34 ((S 35 0 34) - (1 : Int32))) fun S_17 => jn (fun (S_54 : St) => some ((S_54 35 0 34), S_54)) fun kk22 => lop (fun _ _ => none) (bX11_undo_22 kk22) FU (0 : Int32) S_17)
def bX11_thick_41 (a1 : Int32) (a3 : Int32) (kk41 : St → Op) (ag41 : Int32 → St → Op) (x4_41 : Int32) (S_41 : St) : Op :=
  if a3 ≤ x4_41 then (kk41 S_41) else (ck a1 6 <| ck (1 : Int32) 70 <| ck (0 : Int32) 70 <| cal (fX11_tans (S_41 36 0 (Int32.toNatClampNeg a1)) (S_41 40 0 (Int32.toNatClampNeg (1 : Int32))) ((S_41 40 0 (Int32.toNatClampNeg (0 : Int32))) + x4_41) S_41) fun _ S_69 => ag41 (x4_41 + (1 : Int32)) S_69)
def fX11_thick (a1 : Int32) (a2 : Int32) (a3 : Int32) (S : St) : Op :=
  cal (fX11_isMan a1 S) fun r_2 S_2 => if r_2 = (0 : Int32) then (some ((-1000000001 : Int32), S_2)) else (cal (fX11_isPlace a2 S_2) fun r_12 S_12 => if r_12 = (0 : Int32) then (some ((-1000000002 : Int32), S_12)) else (cal (fX11_within (Int32.toInt64 a3) (0 : Int64) (200 : Int64) S_12) fun r_24 S_24 => if r_24 = (0 : Int32) then (some ((-1000000002 : Int32), S_24)) else (cal (fX11_takesSkin a1 S_24) fun _ S_35 => jn (fun (S_78 : St) => ck a2 5 <| some ((S_78 52 0 (Int32.toNatClampNeg a2)), S_78)) fun kk41 => lop (fun _ _ => none) (bX11_thick_41 a1 a3 kk41) FU (0 : Int32) S_35)))
def bX11_when_46 (a1 : Int32) (a2 : Int32) (kk46 : Int32 → Int32 → St → Op) (ag46 : Int32 → Int32 → Int32 → St → Op) (x6_46 : Int32) (x5_46 : Int32) (x4_46 : Int32) (S_46 : St) : Op :=
  if (200 : Int32) < x6_46 then (kk46 x5_46 x4_46 S_46) else (jn (fun (v0_75 : Int32) (S_75 : St) => cal (fX11_hurts a2 S_75) fun r_79 S_79 => jn (fun (v0_93 : Int32) => ck a1 6 <| ck (1 : Int32) 70 <| ck (0 : Int32) 70 <| cal (fX11_tans (S_79 36 0 (Int32.toNatClampNeg a1)) (S_79 40 0 (Int32.toNatClampNeg (1 : Int32))) ((S_79 40 0 (Int32.toNatClampNeg (0 : Int32))) + x6_46) S_79) fun _ S_117 => ag46 (x6_46 + (1 : Int32)) v0_93 v0_75 S_117) fun j93 => if r_79 < (1 : Int32) then (j93 x5_46) else (j93 x6_46)) fun j75 => jn (fun (S_73 : St) => j75 x4_46 S_73) fun j73 => if (0 : Int32) ≤ x4_46 then (j73 S_46) else (cal (fX11_hurts a2 S_46) fun r_61 S_61 => if (5 : Int32) < r_61 then (j73 S_61) else (j75 x6_46 S_61)))
def fX11_when (a1 : Int32) (a2 : Int32) (a3 : Int32) (S : St) : Op :=
  cal (fX11_isMan a1 S) fun r_2 S_2 => if r_2 = (0 : Int32) then (some ((-1000000001 : Int32), S_2)) else (cal (fX11_isSaying a2 S_2) fun r_10 S_10 => if r_10 = (0 : Int32) then (some ((-1000000001 : Int32), S_10)) else (cal (fX11_within (Int32.toInt64 a3) (0 : Int64) (1 : Int64) S_10) fun r_23 S_23 => if r_23 = (0 : Int32) then (some ((-1000000002 : Int32), S_23)) else (cal (fX11_takesSkin a1 S_23) fun _ S_40 => jn (fun (x5_126 : Int32) (x4_126 : Int32) (S_126 : St) => if a3 = (0 : Int32) then (some (x4_126, S_126)) else (some (x5_126, S_126))) fun kk46 => lop (fun _ _ _ _ => none) (bX11_when_46 a1 a2 kk46) FU (0 : Int32) (-1 : Int32) (-1 : Int32) S_40)))
def bX11_edge_60 (a1 : Int32) (a2 : Int32) (a3 : Int32) (kk60 : Int32 → Int32 → Int32 → St → Op) (ag60 : Int32 → Int32 → Int32 → Int32 → St → Op) (x8_60 : Int32) (x7_60 : Int32) (x6_60 : Int32) (x5_60 : Int32) (S_60 : St) : Op :=
  if (200 : Int32) < x8_60 then (kk60 x7_60 x6_60 x5_60 S_60) else (cal (fX11_borneNow S_60) fun r_69 S_69 => jn (fun (x7_109 : Int32) (x6_109 : Int32) (x5_109 : Int32) (S_109 : St) => ck a1 6 <| ck (1 : Int32) 70 <| ck (0 : Int32) 70 <| cal (fX11_tans (S_109 36 0 (Int32.toNatClampNeg a1)) (S_109 40 0 (Int32.toNatClampNeg (1 : Int32))) ((S_109 40 0 (Int32.toNatClampNeg (0 : Int32))) + x8_60) S_109) fun _ S_131 => ag60 (x8_60 + (1 : Int32)) x7_109 x6_109 x5_109 S_131) fun j109 => if (r_69 &&& a2) = a2 then (cal (fX11_feltNow S_69) fun r_79 S_79 => if (r_79 &&& a3) = a3 then (jn (fun (v0_100 : Int32) => j109 x8_60 v0_100 (x5_60 + (1 : Int32)) S_79) fun j100 => if x5_60 = (0 : Int32) then (j100 x8_60) else (j100 x6_60)) else (j109 x7_60 x6_60 x5_60 S_79)) else (j109 x7_60 x6_60 x5_60 S_69))
def fX11_edge (a1 : Int32) (a2 : Int32) (a3 : Int32) (a4 : Int32) (S : St) : Op :=
  cal (fX11_isMan a1 S) fun r_2 S_2 => if r_2 = (0 : Int32) then (some ((-1000000001 : Int32), S_2)) else (cal (fX11_areSayings a2 S_2) fun r_10 S_10 => if r_10 = (0 : Int32) then (some ((-1000000001 : Int32), S_10)) else (cal (fX11_areSayings a3 S_10) fun r_18 S_18 => if r_18 = (0 : Int32) then (some ((-1000000001 : Int32), S_18)) else (cal (fX11_within (Int32.toInt64 a4) (0 : Int64) (2 : Int64) S_18) fun r_34 S_34 => if r_34 = (0 : Int32) then (some ((-1000000002 : Int32), S_34)) else (cal (fX11_takesSkin a1 S_34) fun _ S_54 => jn (fun (x7_140 : Int32) (x6_140 : Int32) (x5_140 : Int32) (S_140 : St) => if a4 = (0 : Int32) then (some (x5_140, S_140)) else (if a4 = (1 : Int32) then (some (x6_140, S_140)) else (some (x7_140, S_140)))) fun kk60 => lop (fun _ _ _ _ _ => none) (bX11_edge_60 a1 a2 a3 kk60) FU (0 : Int32) (-1 : Int32) (-1 : Int32) (0 : Int32) S_54))))
def bX11_scraping_41 (a2 : Int32) (x4_29 : Int32) (kk41 : Int32 → St → Op) (ag41 : Int32 → Int32 → St → Op) (x6_41 : Int32) (x5_41 : Int32) (S_41 : St) : Op :=
  if (S_41 35 0 5) ≤ x6_41 then (kk41 x5_41 S_41) else (cal (fX11_has a2 x6_41 S_41) fun r_53 S_53 => jn (fun (v0_89 : Int32) (S_89 : St) => if v0_89 = (0 : Int32) then (ag41 (x6_41 + (1 : Int32)) x5_41 S_89) else (cal (fX11_hurts x6_41 S_89) fun r_99 S_99 => bi ((r_99 - (5 : Int32))) fun x5_109 => ag41 (x6_41 + (1 : Int32)) x5_109 S_99)) fun j89 => jn (fun (S_88 : St) => j89 (0 : Int32) S_88) fun j88 => if r_53 = (0 : Int32) then (j88 S_53) else (ck x6_41 8 <| if (S_53 38 0 (Int32.toNatClampNeg x6_41)) = x4_29 then (cal (fX11_hurts x6_41 S_53) fun r_74 S_74 => if (r_74 - (5 : Int32)) ≤ x5_41 then (j88 S_74) else (j89 (1 : Int32) S_74)) else (j88 S_53)))
def bX11_scraping_29 (a2 : Int32) (kk29 : Int32 → St → Op) (ag29 : Int32 → Int32 → St → Op) (x4_29 : Int32) (x3_29 : Int32) (S_29 : St) : Op :=
  if (5 : Int32) ≤ x4_29 then (kk29 x3_29 S_29) else (jn (fun (x5_117 : Int32) (S_117 : St) => ck x4_29 5 <| if x5_117 ≤ (S_117 51 0 (Int32.toNatClampNeg x4_29)) then (bi ((x3_29 + x5_117)) fun x3_135 => ag29 (x4_29 + (1 : Int32)) x3_135 S_117) else (some ((-1 : Int32), S_117))) fun kk41 => lop (fun _ _ _ => none) (bX11_scraping_41 a2 x4_29 kk41) FU (0 : Int32) (0 : Int32) S_29)
def fX11_scraping (a1 : Int32) (a2 : Int32) (S : St) : Op :=
  cal (fX11_isMan a1 S) fun r_2 S_2 => if r_2 = (0 : Int32) then (some ((-1000000001 : Int32), S_2)) else (cal (fX11_areSayings a2 S_2) fun r_10 S_10 => if r_10 = (0 : Int32) then (some ((-1000000001 : Int32), S_10)) else (cal (fX11_takesSkin a1 S_10) fun _ S_21 => jn (fun (x3_142 : Int32) (S_142 : St) => some (x3_142, S_142)) fun kk29 => lop (fun _ _ _ => none) (bX11_scraping_29 a2 kk29) FU (0 : Int32) (0 : Int32) S_21))
def bX11_goThrough_125 (a1 : Int32) (kk125 : St → Op) (ag125 : Int32 → Int32 → St → Op) (x8_125 : Int32) (x7_125 : Int32) (S_125 : St) : Op :=
  if (S_125 35 0 2) ≤ x8_125 then (kk125 S_125) else (cal (fX11_has a1 x8_125 S_125) fun r_137 S_137 => if r_137 = (0 : Int32) then (ag125 (x8_125 + (1 : Int32)) x7_125 S_137) else (dz (S_137 35 0 0) <| ck (irm x7_125 (S_137 35 0 0)) 3 <| ck x8_125 6 <| ck (irm x7_125 (S_137 35 0 0)) 3 <| bs (wr S_137 56 0 (Int32.toNatClampNeg (irm x7_125 (S_137 35 0 0))) ((S_137 56 0 (Int32.toNatClampNeg (irm x7_125 (S_137 35 0 0)))) + (S_137 55 0 (Int32.toNatClampNeg x8_125)))) fun S_164 => dz (S_164 35 0 0) <| bi ((x7_125 / (S_164 35 0 0))) fun x7_172 => ag125 (x8_125 + (1 : Int32)) x7_172 S_164))
def bX11_goThrough_81 (a1 : Int32) (a2 : Int32) (x4_75 : Int32) (x3_75 : Int32) (kk81 : Int32 → St → Op) (ag81 : Int32 → Int32 → St → Op) (x6_81 : Int32) (x5_81 : Int32) (S_81 : St) : Op :=
  if x3_75 ≤ x6_81 then (kk81 x5_81 S_81) else (if x4_75 = (0 : Int32) then (kk81 x5_81 S_81) else (if x5_81 = (0 : Int32) then (ck (0 : Int32) 3 <| bs (wr S_81 56 0 (Int32.toNatClampNeg (0 : Int32)) (0 : Int32)) fun S_107 => ck (1 : Int32) 3 <| bs (wr S_107 56 0 (Int32.toNatClampNeg (1 : Int32)) (0 : Int32)) fun S_114 => ck (2 : Int32) 3 <| bs (wr S_114 56 0 (Int32.toNatClampNeg (2 : Int32)) (0 : Int32)) fun S_121 => jn (fun (S_180 : St) => ck (0 : Int32) 3 <| if a2 < (S_180 56 0 (Int32.toNatClampNeg (0 : Int32))) then (ag81 (x6_81 + (1 : Int32)) (0 : Int32) S_180) else (ck (1 : Int32) 3 <| if a2 < (S_180 56 0 (Int32.toNatClampNeg (1 : Int32))) then (ag81 (x6_81 + (1 : Int32)) (0 : Int32) S_180) else (ck (2 : Int32) 3 <| if a2 < (S_180 56 0 (Int32.toNatClampNeg (2 : Int32))) then (ag81 (x6_81 + (1 : Int32)) (0 : Int32) S_180) else (ag81 (x6_81 + (1 : Int32)) (1 : Int32) S_180)))) fun kk125 => lop (fun _ _ _ => none) (bX11_goThrough_125 a1 kk125) FU (0 : Int32) x6_81 S_121) else (kk81 x5_81 S_81)))
def bX11_goThrough_8 (a1 : Int32) (a2 : Int32) (kk8 : Int32 → Int32 → St → Op) (ag8 : Int32 → Int32 → Int32 → St → Op) (x5_8 : Int32) (x4_8 : Int32) (x3_8 : Int32) (S_8 : St) : Op :=
  if (S_8 35 0 2) ≤ x5_8 then (kk8 x4_8 x3_8 S_8) else (cal (fX11_has a1 x5_8 S_8) fun r_21 S_21 => jn (fun (v0_35 : Int32) => bi ((x3_8 * v0_35)) fun x3_36 => if x4_8 = (0 : Int32) then (ag8 (x5_8 + (1 : Int32)) (0 : Int32) x3_36 S_21) else (cal (fX11_has a1 x5_8 S_21) fun r_45 S_45 => if r_45 = (0 : Int32) then (ag8 (x5_8 + (1 : Int32)) (1 : Int32) x3_36 S_45) else (ck x5_8 6 <| if a2 < (S_45 55 0 (Int32.toNatClampNeg x5_8)) then (ag8 (x5_8 + (1 : Int32)) (0 : Int32) x3_36 S_45) else (ag8 (x5_8 + (1 : Int32)) (1 : Int32) x3_36 S_45)))) fun j35 => if r_21 = (0 : Int32) then (j35 (1 : Int32)) else (j35 (S_21 35 0 0)))
def fX11_goThrough (a1 : Int32) (a2 : Int32) (S : St) : Op :=
  jn (fun (x4_75 : Int32) (x3_75 : Int32) (S_75 : St) => jn (fun (x5_223 : Int32) (S_223 : St) => some (x5_223, S_223)) fun kk81 => lop (fun _ _ _ => none) (bX11_goThrough_81 a1 a2 x4_75 x3_75 kk81) FU (0 : Int32) (0 : Int32) S_75) fun kk8 => lop (fun _ _ _ _ => none) (bX11_goThrough_8 a1 a2 kk8) FU (0 : Int32) (1 : Int32) (1 : Int32) S
def bX11_through_150 (a1 : Int32) (kk150 : Int32 → St → Op) (ag150 : Int32 → Int32 → St → Op) (x4_150 : Int32) (x3_150 : Int32) (S_150 : St) : Op :=
  if ((1 : Int32) <<< ((S_150 35 0 2) &&& (31 : Int32))) ≤ x4_150 then (kk150 x3_150 S_150) else (cal (fX11_ones x4_150 S_150) fun r_163 S_163 => cal (fX11_ones x3_150 S_163) fun r_167 S_167 => if r_163 ≤ r_167 then (ag150 (x4_150 + (1 : Int32)) x3_150 S_167) else (cal (fX11_goThrough x4_150 a1 S_167) fun r_177 S_177 => if r_177 = (0 : Int32) then (ag150 (x4_150 + (1 : Int32)) x3_150 S_177) else (ag150 (x4_150 + (1 : Int32)) x4_150 S_177)))
def bX11_through_61 (x3_37 : Int32) (kk61 : St → Op) (ag61 : Int32 → St → Op) (x4_61 : Int32) (S_61 : St) : Op :=
  if (200 : Int32) < x4_61 then (kk61 S_61) else (ck x3_37 6 <| if (S_61 55 0 (Int32.toNatClampNeg x3_37)) = (1000000 : Int32) then (cal (fX11_borneNow S_61) fun r_86 S_86 => jn (fun (v0_107 : Int32) => ck x3_37 6 <| bs (wr S_86 55 0 (Int32.toNatClampNeg x3_37) v0_107) fun S_107 => ck x3_37 6 <| ck (1 : Int32) 70 <| ck (0 : Int32) 70 <| cal (fX11_tans (S_107 36 0 (Int32.toNatClampNeg x3_37)) (S_107 40 0 (Int32.toNatClampNeg (1 : Int32))) ((S_107 40 0 (Int32.toNatClampNeg (0 : Int32))) + x4_61) S_107) fun _ S_130 => ag61 (x4_61 + (1 : Int32)) S_130) fun j107 => if r_86 = (((1 : Int32) <<< ((S_86 35 0 5) &&& (31 : Int32))) - (1 : Int32)) then (j107 x4_61) else (j107 (1000000 : Int32))) else (kk61 S_61))
def bX11_through_37 (kk37 : St → Op) (ag37 : Int32 → St → Op) (x3_37 : Int32) (S_37 : St) : Op :=
  if (S_37 35 0 2) ≤ x3_37 then (kk37 S_37) else (ck x3_37 6 <| bs (wr S_37 55 0 (Int32.toNatClampNeg x3_37) (1000000 : Int32)) fun S_52 => cal (fX11_takesSkin x3_37 S_52) fun _ S_55 => jn (fun (S_139 : St) => ag37 (x3_37 + (1 : Int32)) S_139) fun kk61 => lop (fun _ _ => none) (bX11_through_61 x3_37 kk61) FU (0 : Int32) S_55)
def fX11_through (a1 : Int32) (a2 : Int32) (S : St) : Op :=
  cal (fX11_within (Int32.toInt64 a1) (0 : Int64) (200 : Int64) S) fun r_6 S_6 => if r_6 = (0 : Int32) then (some ((-1000000002 : Int32), S_6)) else (cal (fX11_within (Int32.toInt64 a2) (0 : Int64) (1 : Int64) S_6) fun r_16 S_16 => if r_16 = (0 : Int32) then (some ((-1000000002 : Int32), S_16)) else (if (S_16 35 0 0) = (0 : Int32) then (some ((-1000000003 : Int32), S_16)) else (jn (fun (S_145 : St) => jn (fun (x3_196 : Int32) (S_196 : St) => if a2 = (0 : Int32) then (cal (fX11_ones x3_196 S_196) fun r_201 S_201 => some (r_201, S_201)) else (some (x3_196, S_196))) fun kk150 => lop (fun _ _ _ => none) (bX11_through_150 a1 kk150) FU (1 : Int32) (0 : Int32) S_145) fun kk37 => lop (fun _ _ => none) (bX11_through_37 kk37) FU (0 : Int32) S_16)))
def bX11_over_29 (a1 : Int32) (a2 : Int32) (S_10 : St) (kk29 : Int32 → Op) (ag29 : Int32 → Int32 → Op) (x4_29 : Int32) (x3_29 : Int32) : Op :=
  if (5 : Int32) ≤ x4_29 then (kk29 x3_29) else (ck (((34 : Int32) + ((5 : Int32) * a1)) + x4_29) 70 <| bi ((S_10 40 0 (Int32.toNatClampNeg (((34 : Int32) + ((5 : Int32) * a1)) + x4_29)))) fun x5_49 => ck (((34 : Int32) + ((5 : Int32) * a2)) + x4_29) 70 <| bi ((S_10 40 0 (Int32.toNatClampNeg (((34 : Int32) + ((5 : Int32) * a2)) + x4_29)))) fun x6_65 => if x5_49 ≤ x6_65 then (if x6_65 ≤ x5_49 then (bi ((x3_29 + (0 : Int32))) fun x3_92 => ag29 (x4_29 + (1 : Int32)) x3_92) else (bi ((x3_29 + (-1 : Int32))) fun x3_92 => ag29 (x4_29 + (1 : Int32)) x3_92)) else (bi ((x3_29 + (1 : Int32))) fun x3_92 => ag29 (x4_29 + (1 : Int32)) x3_92))
def fX11_over (a1 : Int32) (a2 : Int32) (S : St) : Op :=
  cal (fX11_isMan a1 S) fun r_2 S_2 => if r_2 = (0 : Int32) then (some ((-1000000001 : Int32), S_2)) else (cal (fX11_isMan a2 S_2) fun r_10 S_10 => if r_10 = (0 : Int32) then (some ((-1000000001 : Int32), S_10)) else (if a1 = a2 then (some ((-1000000001 : Int32), S_10)) else (jn (fun (x3_99 : Int32) => if x3_99 ≤ (0 : Int32) then (some ((0 : Int32), S_10)) else (some ((1 : Int32), S_10))) fun kk29 => lop (fun _ _ => none) (bX11_over_29 a1 a2 S_10 kk29) FU (0 : Int32) (0 : Int32))))
def bX11_quiet_34 (a1 : Int32) (a2 : Int32) (kk34 : Int64 → Op) (ag34 : Int32 → Int64 → Op) (x5_34 : Int32) (x3_34 : Int64) : Op :=
  if a1 ≤ x5_34 then (kk34 x3_34) else (bl (((x3_34 * (Int32.toInt64 a2)) / (100 : Int64))) fun x3_48 => ag34 (x5_34 + (1 : Int32)) x3_48)
def fX11_quiet (a1 : Int32) (a2 : Int32) (S : St) : Op :=
  cal (fX11_within (Int32.toInt64 a1) (0 : Int64) (60 : Int64) S) fun r_6 S_6 => if r_6 = (0 : Int32) then (some ((-1000000002 : Int32), S_6)) else (cal (fX11_within (Int32.toInt64 a2) (0 : Int64) (100 : Int64) S_6) fun r_18 S_18 => if r_18 = (0 : Int32) then (some ((-1000000002 : Int32), S_18)) else (jn (fun (x3_55 : Int64) => some ((Int64.toInt32 x3_55), S_18)) fun kk34 => lop (fun _ _ => none) (bX11_quiet_34 a1 a2 kk34) FU (0 : Int32) (1000000000 : Int64)))
def fX11_hear (a1 : Int32) (a2 : Int32) (a3 : Int32) (S : St) : Op :=
  cal (fX11_isMan a1 S) fun r_2 S_2 => if r_2 = (0 : Int32) then (some ((-1000000001 : Int32), S_2)) else (cal (fX11_isSaying a2 S_2) fun r_10 S_10 => if r_10 = (0 : Int32) then (some ((-1000000001 : Int32), S_10)) else (cal (fX11_within (Int32.toInt64 a3) (0 : Int64) (99 : Int64) S_10) fun r_25 S_25 => if r_25 = (0 : Int32) then (some ((-1000000002 : Int32), S_25)) else (if (S_25 35 0 10) = (6 : Int32) then (some ((-1000000004 : Int32), S_25)) else (ck (S_25 35 0 10) 6 <| bs (wr S_25 41 0 (Int32.toNatClampNeg (S_25 35 0 10)) a1) fun S_55 => ck (S_55 35 0 10) 6 <| bs (wr S_55 42 0 (Int32.toNatClampNeg (S_55 35 0 10)) a2) fun S_65 => ck (S_65 35 0 10) 6 <| bs (wr S_65 43 0 (Int32.toNatClampNeg (S_65 35 0 10)) a3) fun S_75 => bs (wr S_75 35 0 10 ((S_75 35 0 10) + (1 : Int32))) fun S_83 => some ((S_83 35 0 10), S_83)))))
def bX11_laysStays_95 (x3_9 : Int32) (kk95 : St → Op) (ag95 : Int32 → St → Op) (x4_95 : Int32) (S_95 : St) : Op :=
  if (S_95 35 0 5) ≤ x4_95 then (kk95 S_95) else (cal (fX11_hurts x4_95 S_95) fun r_118 S_118 => ck (((8 : Int32) * x3_9) + x4_95) 488 <| bs (wr S_118 58 0 (Int32.toNatClampNeg (((8 : Int32) * x3_9) + x4_95)) r_118) fun S_121 => ag95 (x4_95 + (1 : Int32)) S_121)
def bX11_laysStays_25 (a1 : Int32) (x3_9 : Int32) (kk25 : St → Op) (ag25 : Int32 → St → Op) (x4_25 : Int32) (S_25 : St) : Op :=
  if (S_25 35 0 10) ≤ x4_25 then (kk25 S_25) else (ck x3_9 61 <| jn (fun (v0_85 : Int32) (S_85 : St) => ck x3_9 61 <| bs (wr S_85 57 0 (Int32.toNatClampNeg x3_9) (vp_nar .boolean v0_85)) fun S_85 => ag25 (x4_25 + (1 : Int32)) S_85) fun j85 => jn (fun (S_84 : St) => j85 (0 : Int32) S_84) fun j84 => if (S_25 57 0 (Int32.toNatClampNeg x3_9)) = (0 : Int32) then (j84 S_25) else (ck x4_25 6 <| jn (fun (S_80 : St) => j85 (1 : Int32) S_80) fun j80 => if (S_25 41 0 (Int32.toNatClampNeg x4_25)) = a1 then (ck x4_25 6 <| cal (fX11_hurts (S_25 42 0 (Int32.toNatClampNeg x4_25)) S_25) fun r_67 S_67 => ck x4_25 6 <| if r_67 = (S_67 43 0 (Int32.toNatClampNeg x4_25)) then (j80 S_67) else (j84 S_67)) else (j80 S_25)))
def bX11_laysStays_9 (a1 : Int32) (kk9 : Int32 → St → Op) (ag9 : Int32 → Int32 → St → Op) (x3_9 : Int32) (x2_9 : Int32) (S_9 : St) : Op :=
  if (60 : Int32) < x3_9 then (kk9 x2_9 S_9) else (ck x3_9 61 <| bs (wr S_9 57 0 (Int32.toNatClampNeg x3_9) (vp_nar .boolean (1 : Int32))) fun S_21 => jn (fun (S_92 : St) => jn (fun (S_128 : St) => ck x3_9 61 <| jn (fun (v0_143 : Int32) => bi ((x2_9 + v0_143)) fun x2_144 => ck a1 6 <| cal (fX11_tans (S_128 36 0 (Int32.toNatClampNeg a1)) (S_128 35 0 1) x3_9 S_128) fun _ S_157 => ag9 (x3_9 + (1 : Int32)) x2_144 S_157) fun j143 => if (S_128 57 0 (Int32.toNatClampNeg x3_9)) = (0 : Int32) then (j143 (0 : Int32)) else (j143 (1 : Int32))) fun kk95 => lop (fun _ _ => none) (bX11_laysStays_95 x3_9 kk95) FU (0 : Int32) S_92) fun kk25 => lop (fun _ _ => none) (bX11_laysStays_25 a1 x3_9 kk25) FU (0 : Int32) S_21)
def fX11_laysStays (a1 : Int32) (S : St) : Op :=
  cal (fX11_takesFirst a1 S) fun _ S_4 => jn (fun (x2_166 : Int32) (S_166 : St) => some (x2_166, S_166)) fun kk9 => lop (fun _ _ _ => none) (bX11_laysStays_9 a1 kk9) FU (0 : Int32) (0 : Int32) S_4
def bX11_stays_41 (S_28 : St) (kk41 : Int32 → Int32 → Op) (ag41 : Int32 → Int32 → Int32 → Op) (x6_41 : Int32) (x5_41 : Int32) (x4_41 : Int32) : Op :=
  if (60 : Int32) < x6_41 then (kk41 x5_41 x4_41) else (ck x6_41 61 <| jn (fun (v0_70 : Int32) => ck x6_41 61 <| if (S_28 57 0 (Int32.toNatClampNeg x6_41)) = (0 : Int32) then (ag41 (x6_41 + (1 : Int32)) x5_41 v0_70) else (ag41 (x6_41 + (1 : Int32)) x6_41 v0_70)) fun j70 => jn (j70 x4_41) fun j68 => if (S_28 57 0 (Int32.toNatClampNeg x6_41)) = (0 : Int32) then (j68) else (if (0 : Int32) ≤ x4_41 then (j68) else (j70 x6_41)))
def fX11_stays (a1 : Int32) (a2 : Int32) (S : St) : Op :=
  cal (fX11_isMan a1 S) fun r_2 S_2 => if r_2 = (0 : Int32) then (some ((-1000000001 : Int32), S_2)) else (cal (fX11_within (Int32.toInt64 a2) (0 : Int64) (2 : Int64) S_2) fun r_17 S_17 => if r_17 = (0 : Int32) then (some ((-1000000002 : Int32), S_17)) else (cal (fX11_laysStays a1 S_17) fun r_28 S_28 => jn (fun (x5_97 : Int32) (x4_97 : Int32) => if a2 = (0 : Int32) then (some (r_28, S_28)) else (if a2 = (1 : Int32) then (some (x4_97, S_28)) else (some (x5_97, S_28)))) fun kk41 => lop (fun _ _ _ => none) (bX11_stays_41 S_28 kk41) FU (0 : Int32) (-1 : Int32) (-1 : Int32)))
def bX11_ask_50 (S_13 : St) (x4_22 : Int32) (x6_37 : Int32) (kk50 : Int32 → Op) (ag50 : Int32 → Int32 → Op) (x8_50 : Int32) (x7_50 : Int32) : Op :=
  if (60 : Int32) < x8_50 then (kk50 x7_50) else (ck x6_37 61 <| if (S_13 57 0 (Int32.toNatClampNeg x6_37)) = (0 : Int32) then (bi ((x7_50 + (0 : Int32))) fun x7_114 => ag50 (x8_50 + (1 : Int32)) x7_114) else (ck x8_50 61 <| if (S_13 57 0 (Int32.toNatClampNeg x8_50)) = (0 : Int32) then (bi ((x7_50 + (0 : Int32))) fun x7_114 => ag50 (x8_50 + (1 : Int32)) x7_114) else (ck (((8 : Int32) * x6_37) + x4_22) 488 <| ck (((8 : Int32) * x8_50) + x4_22) 488 <| if (S_13 58 0 (Int32.toNatClampNeg (((8 : Int32) * x6_37) + x4_22))) = (S_13 58 0 (Int32.toNatClampNeg (((8 : Int32) * x8_50) + x4_22))) then (bi ((x7_50 + (1 : Int32))) fun x7_114 => ag50 (x8_50 + (1 : Int32)) x7_114) else (bi ((x7_50 + (0 : Int32))) fun x7_114 => ag50 (x8_50 + (1 : Int32)) x7_114))))
def bX11_ask_37 (S_13 : St) (x4_22 : Int32) (kk37 : Int32 → Op) (ag37 : Int32 → Int32 → Op) (x6_37 : Int32) (x5_37 : Int32) : Op :=
  if (60 : Int32) < x6_37 then (kk37 x5_37) else (jn (fun (x7_122 : Int32) => if x7_122 ≤ x5_37 then (ag37 (x6_37 + (1 : Int32)) x5_37) else (ag37 (x6_37 + (1 : Int32)) x7_122)) fun kk50 => lop (fun _ _ => none) (bX11_ask_50 S_13 x4_22 x6_37 kk50) FU (0 : Int32) (0 : Int32))
def bX11_ask_22 (S_13 : St) (kk22 : Int32 → Op) (ag22 : Int32 → Int32 → Int32 → Op) (x4_22 : Int32) (x3_22 : Int32) (x2_22 : Int32) : Op :=
  if (S_13 35 0 5) ≤ x4_22 then (kk22 x3_22) else (jn (fun (x5_144 : Int32) => jn (fun (v0_156 : Int32) => if x2_22 ≤ x5_144 then (ag22 (x4_22 + (1 : Int32)) v0_156 x2_22) else (ag22 (x4_22 + (1 : Int32)) v0_156 x5_144)) fun j156 => if x2_22 ≤ x5_144 then (j156 x3_22) else (j156 x4_22)) fun kk37 => lop (fun _ _ => none) (bX11_ask_37 S_13 x4_22 kk37) FU (0 : Int32) (0 : Int32))
def fX11_ask (a1 : Int32) (S : St) : Op :=
  cal (fX11_isMan a1 S) fun r_2 S_2 => if r_2 = (0 : Int32) then (some ((-1000000001 : Int32), S_2)) else (cal (fX11_laysStays a1 S_2) fun r_13 S_13 => jn (fun (x3_176 : Int32) => some (x3_176, S_13)) fun kk22 => lop (fun _ _ _ => none) (bX11_ask_22 S_13 kk22) FU (0 : Int32) (-1 : Int32) r_13)
def fX11_write (a1 : Int32) (a2 : Int32) (S : St) : Op :=
  cal (fX11_isMan a1 S) fun r_2 S_2 => if r_2 = (0 : Int32) then (some ((-1000000001 : Int32), S_2)) else (cal (fX11_within (Int32.toInt64 a2) (0 : Int64) (99999 : Int64) S_2) fun r_17 S_17 => if r_17 = (0 : Int32) then (some ((-1000000002 : Int32), S_17)) else (if (S_17 35 0 14) = (15 : Int32) then (some ((-1000000004 : Int32), S_17)) else (ck (S_17 35 0 14) 15 <| bs (wr S_17 44 0 (Int32.toNatClampNeg (S_17 35 0 14)) a1) fun S_47 => ck (S_47 35 0 14) 15 <| bs (wr S_47 45 0 (Int32.toNatClampNeg (S_47 35 0 14)) a2) fun S_57 => bs (wr S_57 35 0 14 ((S_57 35 0 14) + (1 : Int32))) fun S_65 => some ((S_65 35 0 14), S_65))))
def fX11_tear  (S : St) : Op :=
  bi (((S 35 0 10) + (S 35 0 14))) fun x1_9 => bs (wr S 35 0 10 (0 : Int32)) fun S_12 => bs (wr S_12 35 0 14 (0 : Int32)) fun S_17 => some (x1_9, S_17)
def bX11_judge_2 (S : St) (kk2 : Op) (ag2 : Int32 → Op) (x1_2 : Int32) : Op :=
  if (S 35 0 14) ≤ x1_2 then (kk2) else (ck x1_2 15 <| ck ((64 : Int32) + (S 44 0 (Int32.toNatClampNeg x1_2))) 70 <| ck x1_2 15 <| if (S 40 0 (Int32.toNatClampNeg ((64 : Int32) + (S 44 0 (Int32.toNatClampNeg x1_2))))) = (S 45 0 (Int32.toNatClampNeg x1_2)) then (ag2 (x1_2 + (1 : Int32))) else (some (x1_2, S)))
def fX11_judge  (S : St) : Op :=
  jn (some ((-1 : Int32), S)) fun kk2 => lop (fun _ => none) (bX11_judge_2 S kk2) FU (0 : Int32)
def fX11_seed (a1 : Int32) (S : St) : Op :=
  if (0 : Int32) ≤ a1 then (bi ((S 35 0 9)) fun x2_11 => bs (wr S 35 0 9 a1) fun S_14 => some (x2_11, S_14)) else (some ((-1000000002 : Int32), S))
def bX11_keep_15 (a1 : Int32) (kk15 : St → Op) (ag15 : Int32 → St → Op) (x2_15 : Int32) (S_15 : St) : Op :=
  if (70 : Int32) ≤ x2_15 then (kk15 S_15) else (ck x2_15 70 <| ck (((71 : Int32) * a1) + x2_15) 142 <| bs (wr S_15 59 0 (Int32.toNatClampNeg (((71 : Int32) * a1) + x2_15)) (S_15 40 0 (Int32.toNatClampNeg x2_15))) fun S_37 => ag15 (x2_15 + (1 : Int32)) S_37)
def fX11_keep (a1 : Int32) (S : St) : Op :=
  cal (fX11_within (Int32.toInt64 a1) (0 : Int64) (1 : Int64) S) fun r_4 S_4 => if r_4 = (0 : Int32) then (some ((-1000000001 : Int32), S_4)) else (jn (fun (S_44 : St) => ck (((71 : Int32) * a1) + (70 : Int32)) 142 <| bs (wr S_44 59 0 (Int32.toNatClampNeg (((71 : Int32) * a1) + (70 : Int32))) (S_44 35 0 9)) fun S_59 => ck a1 2 <| bs (wr S_59 60 0 (Int32.toNatClampNeg a1) (vp_nar .boolean (1 : Int32))) fun S_66 => bs (wr S_66 35 0 34 (0 : Int32)) fun S_69 => some ((1 : Int32), S_69)) fun kk15 => lop (fun _ _ => none) (bX11_keep_15 a1 kk15) FU (0 : Int32) S_4)
def bX11_goBack_27 (a1 : Int32) (kk27 : St → Op) (ag27 : Int32 → St → Op) (x2_27 : Int32) (S_27 : St) : Op :=
  if (70 : Int32) ≤ x2_27 then (kk27 S_27) else (ck (((71 : Int32) * a1) + x2_27) 142 <| ck x2_27 70 <| bs (wr S_27 40 0 (Int32.toNatClampNeg x2_27) (S_27 59 0 (Int32.toNatClampNeg (((71 : Int32) * a1) + x2_27)))) fun S_49 => ag27 (x2_27 + (1 : Int32)) S_49)
def fX11_goBack (a1 : Int32) (S : St) : Op :=
  cal (fX11_within (Int32.toInt64 a1) (0 : Int64) (1 : Int64) S) fun r_4 S_4 => if r_4 = (0 : Int32) then (some ((-1000000001 : Int32), S_4)) else (ck a1 2 <| if (S_4 60 0 (Int32.toNatClampNeg a1)) = (0 : Int32) then (some ((-1000000003 : Int32), S_4)) else (jn (fun (S_56 : St) => ck (((71 : Int32) * a1) + (70 : Int32)) 142 <| bs (wr S_56 35 0 9 (S_56 59 0 (Int32.toNatClampNeg (((71 : Int32) * a1) + (70 : Int32))))) fun S_69 => bs (wr S_69 35 0 34 (0 : Int32)) fun S_74 => some ((1 : Int32), S_74)) fun kk27 => lop (fun _ _ => none) (bX11_goBack_27 a1 kk27) FU (0 : Int32) S_4))
end
section
theorem dX0_add_0 : decode cX0_add 0 = .ok (.aload_n 0, 1) := by decide +kernel
theorem dX0_add_1 : decode cX0_add 1 = .ok (.getfield 18, 3) := by decide +kernel
theorem dX0_add_4 : decode cX0_add 4 = .ok (.bipush 15, 2) := by decide +kernel
theorem dX0_add_6 : decode cX0_add 6 = .ok (.if_icmp .ge 33, 3) := by decide +kernel
theorem dX0_add_9 : decode cX0_add 9 = .ok (.aload_n 0, 1) := by decide +kernel
theorem dX0_add_10 : decode cX0_add 10 = .ok (.getfield 9, 3) := by decide +kernel
theorem dX0_add_13 : decode cX0_add 13 = .ok (.aload_n 0, 1) := by decide +kernel
theorem dX0_add_14 : decode cX0_add 14 = .ok (.getfield 18, 3) := by decide +kernel
theorem dX0_add_17 : decode cX0_add 17 = .ok (.iload_n 1, 1) := by decide +kernel
theorem dX0_add_18 : decode cX0_add 18 = .ok (.iastore, 1) := by decide +kernel
theorem dX0_add_19 : decode cX0_add 19 = .ok (.aload_n 0, 1) := by decide +kernel
theorem dX0_add_20 : decode cX0_add 20 = .ok (.getfield 15, 3) := by decide +kernel
theorem dX0_add_23 : decode cX0_add 23 = .ok (.aload_n 0, 1) := by decide +kernel
theorem dX0_add_24 : decode cX0_add 24 = .ok (.getfield 18, 3) := by decide +kernel
theorem dX0_add_27 : decode cX0_add 27 = .ok (.iload_n 2, 1) := by decide +kernel
theorem dX0_add_28 : decode cX0_add 28 = .ok (.iastore, 1) := by decide +kernel
theorem dX0_add_29 : decode cX0_add 29 = .ok (.aload_n 0, 1) := by decide +kernel
theorem dX0_add_30 : decode cX0_add 30 = .ok (.dup, 1) := by decide +kernel
theorem dX0_add_31 : decode cX0_add 31 = .ok (.getfield 18, 3) := by decide +kernel
theorem dX0_add_34 : decode cX0_add 34 = .ok (.iconst 1, 1) := by decide +kernel
theorem dX0_add_35 : decode cX0_add 35 = .ok (.iadd, 1) := by decide +kernel
theorem dX0_add_36 : decode cX0_add 36 = .ok (.putfield 18, 3) := by decide +kernel
theorem dX0_add_39 : decode cX0_add 39 = .ok (.aload_n 0, 1) := by decide +kernel
theorem dX0_add_40 : decode cX0_add 40 = .ok (.getfield 18, 3) := by decide +kernel
theorem dX0_add_43 : decode cX0_add 43 = .ok (.ireturn, 1) := by decide +kernel
set_option maxRecDepth 100000 in
set_option maxHeartbeats 4000000 in
theorem mX0_add {w : WX} {adr : Nat → Nat → Nat} (hj : Ij adr) (a1 : Int32) (a2 : Int32) (S : St) : ∀ (l : Launch) (r : Int32) (S2 : St), fX0_add a1 a2 S = some (r, S2) → Mi l w adr yX0_add cX0_add 3 (some .int) 0 0 [.ref (adr 27 0), .int a1, .int a2] S r S2 := by
  refine mi_of (lv := [(0, .ref (adr 27 0)), (1, .int a1), (2, .int a2)]) hj (plainFor_of_name (by decide +kernel)) rfl (Nat.le_of_ble_eq_true rfl) (fun k C Rr => ?_)
  have C : Cx w adr k cX0_add RX0 3 0 0 := C
  refine ge_aload_n (n := 1) C 0 rfl dX0_add_0 rfl rfl ?_
  refine gt_X0_18 (n := 4) C (by decide) dX0_add_1 rfl ?_
  refine ge_bipush (v := 15) (n := 6) C dX0_add_4 (by decide) rfl ?_
  refine ge_icmp_ge (t := 39) (n := 9) C dX0_add_6 (by decide) rfl (fun h_6 => ?_) (fun h_6 => ?_)
  · refine ge_aload_n (n := 40) C 0 rfl dX0_add_39 rfl rfl ?_
    refine gt_X0_18 (n := 43) C (by decide) dX0_add_40 rfl ?_
    exact ge_iret C Rr dX0_add_43
  · refine ge_aload_n (n := 10) C 0 rfl dX0_add_9 rfl rfl ?_
    refine gt_X0_9 (n := 13) C (by decide) dX0_add_10 rfl ?_
    refine ge_aload_n (n := 14) C 0 rfl dX0_add_13 rfl rfl ?_
    refine gt_X0_18 (n := 17) C (by decide) dX0_add_14 rfl ?_
    refine ge_iload_n (n := 18) C 1 rfl dX0_add_17 rfl rfl ?_
    refine as_28 (n := 19) C (by decide) dX0_add_18 rfl (fun S_18 => ?_)
    refine ge_aload_n (n := 20) C 0 rfl dX0_add_19 rfl rfl ?_
    refine gt_X0_15 (n := 23) C (by decide) dX0_add_20 rfl ?_
    refine ge_aload_n (n := 24) C 0 rfl dX0_add_23 rfl rfl ?_
    refine gt_X0_18 (n := 27) C (by decide) dX0_add_24 rfl ?_
    refine ge_iload_n (n := 28) C 2 rfl dX0_add_27 rfl rfl ?_
    refine as_29 (n := 29) C (by decide) dX0_add_28 rfl (fun S_28 => ?_)
    refine ge_aload_n (n := 30) C 0 rfl dX0_add_29 rfl rfl ?_
    refine ge_dup (n := 31) C dX0_add_30 rfl rfl ?_
    refine gt_X0_18 (n := 34) C (by decide) dX0_add_31 rfl ?_
    refine ge_iconst (v := 1) (n := 35) C dX0_add_34 (by decide) rfl ?_
    refine ge_iadd (n := 36) C dX0_add_35 rfl ?_
    refine pt_X0_18 (n := 39) C (by decide) dX0_add_36 rfl (fun S_36 => ?_)
    refine ge_aload_n (n := 40) C 0 rfl dX0_add_39 rfl rfl ?_
    refine gt_X0_18 (n := 43) C (by decide) dX0_add_40 rfl ?_
    exact ge_iret C Rr dX0_add_43
theorem dX0_firstWrong_0 : decode cX0_firstWrong 0 = .ok (.iconst 0, 1) := by decide +kernel
theorem dX0_firstWrong_1 : decode cX0_firstWrong 1 = .ok (.istore_n 2, 1) := by decide +kernel
theorem dX0_firstWrong_2 : decode cX0_firstWrong 2 = .ok (.iload_n 2, 1) := by decide +kernel
theorem dX0_firstWrong_3 : decode cX0_firstWrong 3 = .ok (.aload_n 0, 1) := by decide +kernel
theorem dX0_firstWrong_4 : decode cX0_firstWrong 4 = .ok (.getfield 18, 3) := by decide +kernel
theorem dX0_firstWrong_7 : decode cX0_firstWrong 7 = .ok (.if_icmp .ge 34, 3) := by decide +kernel
theorem dX0_firstWrong_10 : decode cX0_firstWrong 10 = .ok (.aload_n 1, 1) := by decide +kernel
theorem dX0_firstWrong_11 : decode cX0_firstWrong 11 = .ok (.getfield 22, 3) := by decide +kernel
theorem dX0_firstWrong_14 : decode cX0_firstWrong 14 = .ok (.aload_n 0, 1) := by decide +kernel
theorem dX0_firstWrong_15 : decode cX0_firstWrong 15 = .ok (.getfield 9, 3) := by decide +kernel
theorem dX0_firstWrong_18 : decode cX0_firstWrong 18 = .ok (.iload_n 2, 1) := by decide +kernel
theorem dX0_firstWrong_19 : decode cX0_firstWrong 19 = .ok (.iaload, 1) := by decide +kernel
theorem dX0_firstWrong_20 : decode cX0_firstWrong 20 = .ok (.aaload, 1) := by decide +kernel
theorem dX0_firstWrong_21 : decode cX0_firstWrong 21 = .ok (.getfield 28, 3) := by decide +kernel
theorem dX0_firstWrong_24 : decode cX0_firstWrong 24 = .ok (.aload_n 0, 1) := by decide +kernel
theorem dX0_firstWrong_25 : decode cX0_firstWrong 25 = .ok (.getfield 15, 3) := by decide +kernel
theorem dX0_firstWrong_28 : decode cX0_firstWrong 28 = .ok (.iload_n 2, 1) := by decide +kernel
theorem dX0_firstWrong_29 : decode cX0_firstWrong 29 = .ok (.iaload, 1) := by decide +kernel
theorem dX0_firstWrong_30 : decode cX0_firstWrong 30 = .ok (.if_icmp .eq 5, 3) := by decide +kernel
theorem dX0_firstWrong_33 : decode cX0_firstWrong 33 = .ok (.iload_n 2, 1) := by decide +kernel
theorem dX0_firstWrong_34 : decode cX0_firstWrong 34 = .ok (.ireturn, 1) := by decide +kernel
theorem dX0_firstWrong_35 : decode cX0_firstWrong 35 = .ok (.iinc 2 1, 3) := by decide +kernel
theorem dX0_firstWrong_38 : decode cX0_firstWrong 38 = .ok (.goto (-36), 3) := by decide +kernel
theorem dX0_firstWrong_41 : decode cX0_firstWrong 41 = .ok (.iconst (-1), 1) := by decide +kernel
theorem dX0_firstWrong_42 : decode cX0_firstWrong 42 = .ok (.ireturn, 1) := by decide +kernel
set_option maxRecDepth 100000 in
set_option maxHeartbeats 4000000 in
theorem mX0_firstWrong {w : WX} {adr : Nat → Nat → Nat} (hj : Ij adr)  (S : St) : ∀ (l : Launch) (r : Int32) (S2 : St), fX0_firstWrong S = some (r, S2) → Mi l w adr yX0_firstWrong cX0_firstWrong 3 (some .int) 0 0 [.ref (adr 27 0), .ref (adr 9 0)] S r S2 := by
  refine mi_of (lv := [(0, .ref (adr 27 0)), (1, .ref (adr 9 0))]) hj (plainFor_of_name (by decide +kernel)) rfl (Nat.le_of_ble_eq_true rfl) (fun k C Rr => ?_)
  have C : Cx w adr k cX0_firstWrong RX0 3 0 0 := C
  refine ge_iconst (v := 0) (n := 1) C dX0_firstWrong_0 (by decide) rfl ?_
  refine ge_istore_n (n := 2) (lv2 := [(2, .int (0 : Int32)), (0, .ref (adr 27 0)), (1, .ref (adr 9 0))]) C dX0_firstWrong_1 rfl rfl (by decide) rfl ?_
  refine ge_jn (fun (jj : Op) => Ge w adr k 41 [] [] S (jj)) ?_ (fun kk2 hkk2 => ?_)
  · refine ge_iconst (v := -1) (n := 42) C dX0_firstWrong_41 (by decide) rfl ?_
    exact ge_iret C Rr dX0_firstWrong_42
  refine ge_lop (fun (jj : Int32 → Op) => ∀ (x2_2 : Int32), Ge w adr k 2 [(2, .int x2_2), (0, .ref (adr 27 0)), (1, .ref (adr 9 0))] [] S (jj x2_2)) (fun _ => ge_none) (fun ag2 hag2 x2_2 => ?_) FU (0 : Int32)
  refine ge_iload_n (n := 3) C 0 rfl dX0_firstWrong_2 rfl rfl ?_
  refine ge_aload_n (n := 4) C 1 rfl dX0_firstWrong_3 rfl rfl ?_
  refine gt_X0_18 (n := 7) C (by decide) dX0_firstWrong_4 rfl ?_
  refine ge_icmp_ge (t := 41) (n := 10) C dX0_firstWrong_7 (by decide) rfl (fun h_7 => ?_) (fun h_7 => ?_)
  · refine ge_sub [] rfl ?_
    exact hkk2
  · refine ge_aload_n (n := 11) C 2 rfl dX0_firstWrong_10 rfl rfl ?_
    refine gt_X0_22 (n := 14) C (by decide) dX0_firstWrong_11 rfl ?_
    refine ge_aload_n (n := 15) C 1 rfl dX0_firstWrong_14 rfl rfl ?_
    refine gt_X0_9 (n := 18) C (by decide) dX0_firstWrong_15 rfl ?_
    refine ge_iload_n (n := 19) C 0 rfl dX0_firstWrong_18 rfl rfl ?_
    refine al_28 (n := 20) C (by decide) dX0_firstWrong_19 rfl ?_
    refine al_10 (n := 21) C (by decide) dX0_firstWrong_20 rfl (fun h_20 => ?_)
    refine gt_X0_28 (n := 24) C (bd_c h_20 (by decide)) dX0_firstWrong_21 rfl ?_
    refine ge_aload_n (n := 25) C 1 rfl dX0_firstWrong_24 rfl rfl ?_
    refine gt_X0_15 (n := 28) C (by decide) dX0_firstWrong_25 rfl ?_
    refine ge_iload_n (n := 29) C 0 rfl dX0_firstWrong_28 rfl rfl ?_
    refine al_29 (n := 30) C (by decide) dX0_firstWrong_29 rfl ?_
    refine ge_icmp_eq (t := 35) (n := 33) C dX0_firstWrong_30 (by decide) rfl (fun h_30 => ?_) (fun h_30 => ?_)
    · refine ge_iinc (n := 38) (v := (x2_2 + (1 : Int32))) (lv2 := [(2, .int (x2_2 + (1 : Int32))), (0, .ref (adr 27 0)), (1, .ref (adr 9 0))]) C 0 rfl dX0_firstWrong_35 rfl rfl (by decide) rfl ?_
      refine ge_goto (n := 2) C dX0_firstWrong_38 (by decide) ?_
      exact hag2 (x2_2 + (1 : Int32))
    · refine ge_iload_n (n := 34) C 0 rfl dX0_firstWrong_33 rfl rfl ?_
      exact ge_iret C Rr dX0_firstWrong_34
theorem dX1_next_0 : decode cX1_next 0 = .ok (.aload_n 0, 1) := by decide +kernel
theorem dX1_next_1 : decode cX1_next 1 = .ok (.aload_n 0, 1) := by decide +kernel
theorem dX1_next_2 : decode cX1_next 2 = .ok (.getfield 7, 3) := by decide +kernel
theorem dX1_next_5 : decode cX1_next 5 = .ok (.i2l, 1) := by decide +kernel
theorem dX1_next_6 : decode cX1_next 6 = .ok (.ldc2_w 13, 3) := by decide +kernel
theorem dX1_next_9 : decode cX1_next 9 = .ok (.lmul, 1) := by decide +kernel
theorem dX1_next_10 : decode cX1_next 10 = .ok (.ldc2_w 15, 3) := by decide +kernel
theorem dX1_next_13 : decode cX1_next 13 = .ok (.ladd, 1) := by decide +kernel
theorem dX1_next_14 : decode cX1_next 14 = .ok (.ldc2_w 17, 3) := by decide +kernel
theorem dX1_next_17 : decode cX1_next 17 = .ok (.land, 1) := by decide +kernel
theorem dX1_next_18 : decode cX1_next 18 = .ok (.l2i, 1) := by decide +kernel
theorem dX1_next_19 : decode cX1_next 19 = .ok (.putfield 7, 3) := by decide +kernel
theorem dX1_next_22 : decode cX1_next 22 = .ok (.iload_n 1, 1) := by decide +kernel
theorem dX1_next_23 : decode cX1_next 23 = .ok (.ifCond .le 15, 3) := by decide +kernel
theorem dX1_next_26 : decode cX1_next 26 = .ok (.aload_n 0, 1) := by decide +kernel
theorem dX1_next_27 : decode cX1_next 27 = .ok (.getfield 7, 3) := by decide +kernel
theorem dX1_next_30 : decode cX1_next 30 = .ok (.ldc 19, 2) := by decide +kernel
theorem dX1_next_32 : decode cX1_next 32 = .ok (.idiv, 1) := by decide +kernel
theorem dX1_next_33 : decode cX1_next 33 = .ok (.iload_n 1, 1) := by decide +kernel
theorem dX1_next_34 : decode cX1_next 34 = .ok (.irem, 1) := by decide +kernel
theorem dX1_next_35 : decode cX1_next 35 = .ok (.goto 4, 3) := by decide +kernel
theorem dX1_next_38 : decode cX1_next 38 = .ok (.iconst 0, 1) := by decide +kernel
theorem dX1_next_39 : decode cX1_next 39 = .ok (.ireturn, 1) := by decide +kernel
set_option maxRecDepth 100000 in
set_option maxHeartbeats 4000000 in
theorem mX1_next {w : WX} {adr : Nat → Nat → Nat} (hj : Ij adr) (a1 : Int32) (S : St) : ∀ (l : Launch) (r : Int32) (S2 : St), fX1_next a1 S = some (r, S2) → Mi l w adr yX1_next cX1_next 2 (some .int) 0 0 [.ref (adr 19 0), .int a1] S r S2 := by
  refine mi_of (lv := [(0, .ref (adr 19 0)), (1, .int a1)]) hj (plainFor_of_name (by decide +kernel)) rfl (Nat.le_of_ble_eq_true rfl) (fun k C Rr => ?_)
  have C : Cx w adr k cX1_next RX1 2 0 0 := C
  refine ge_aload_n (n := 1) C 0 rfl dX1_next_0 rfl rfl ?_
  refine ge_aload_n (n := 2) C 0 rfl dX1_next_1 rfl rfl ?_
  refine gt_X1_7 (n := 5) C (by decide) dX1_next_2 rfl ?_
  refine ge_i2l (n := 6) C dX1_next_5 rfl ?_
  refine ge_ldc2 (n := 9) C kl_X1_13 dX1_next_6 rfl ?_
  refine ge_lmul (n := 10) C dX1_next_9 rfl ?_
  refine ge_ldc2 (n := 13) C kl_X1_15 dX1_next_10 rfl ?_
  refine ge_ladd (n := 14) C dX1_next_13 rfl ?_
  refine ge_ldc2 (n := 17) C kl_X1_17 dX1_next_14 rfl ?_
  refine ge_land (n := 18) C dX1_next_17 rfl ?_
  refine ge_l2i (n := 19) C dX1_next_18 rfl ?_
  refine pt_X1_7 (n := 22) C (by decide) dX1_next_19 rfl (fun S_19 => ?_)
  refine ge_iload_n (n := 23) C 1 rfl dX1_next_22 rfl rfl ?_
  refine ge_if_le (t := 38) (n := 26) C dX1_next_23 (by decide) rfl (fun h_23 => ?_) (fun h_23 => ?_)
  · refine ge_iconst (v := 0) (n := 39) C dX1_next_38 (by decide) rfl ?_
    exact ge_iret C Rr dX1_next_39
  · refine ge_aload_n (n := 27) C 0 rfl dX1_next_26 rfl rfl ?_
    refine gt_X1_7 (n := 30) C (by decide) dX1_next_27 rfl ?_
    refine ge_ldc (n := 32) C kc_X1_19 dX1_next_30 rfl ?_
    refine ge_idiv0 (n := 33) C (by decide) dX1_next_32 rfl ?_
    refine ge_iload_n (n := 34) C 1 rfl dX1_next_33 rfl rfl ?_
    refine ge_irem (n := 35) C dX1_next_34 rfl (fun _ => ?_)
    refine ge_goto (n := 39) C dX1_next_35 (by decide) ?_
    exact ge_iret C Rr dX1_next_39
theorem dX2_add_0 : decode cX2_add 0 = .ok (.aload_n 0, 1) := by decide +kernel
theorem dX2_add_1 : decode cX2_add 1 = .ok (.getfield 30, 3) := by decide +kernel
theorem dX2_add_4 : decode cX2_add 4 = .ok (.bipush 6, 2) := by decide +kernel
theorem dX2_add_6 : decode cX2_add 6 = .ok (.if_icmp .ge 43, 3) := by decide +kernel
theorem dX2_add_9 : decode cX2_add 9 = .ok (.aload_n 0, 1) := by decide +kernel
theorem dX2_add_10 : decode cX2_add 10 = .ok (.getfield 9, 3) := by decide +kernel
theorem dX2_add_13 : decode cX2_add 13 = .ok (.aload_n 0, 1) := by decide +kernel
theorem dX2_add_14 : decode cX2_add 14 = .ok (.getfield 30, 3) := by decide +kernel
theorem dX2_add_17 : decode cX2_add 17 = .ok (.iload_n 1, 1) := by decide +kernel
theorem dX2_add_18 : decode cX2_add 18 = .ok (.iastore, 1) := by decide +kernel
theorem dX2_add_19 : decode cX2_add 19 = .ok (.aload_n 0, 1) := by decide +kernel
theorem dX2_add_20 : decode cX2_add 20 = .ok (.getfield 15, 3) := by decide +kernel
theorem dX2_add_23 : decode cX2_add 23 = .ok (.aload_n 0, 1) := by decide +kernel
theorem dX2_add_24 : decode cX2_add 24 = .ok (.getfield 30, 3) := by decide +kernel
theorem dX2_add_27 : decode cX2_add 27 = .ok (.iload_n 2, 1) := by decide +kernel
theorem dX2_add_28 : decode cX2_add 28 = .ok (.iastore, 1) := by decide +kernel
theorem dX2_add_29 : decode cX2_add 29 = .ok (.aload_n 0, 1) := by decide +kernel
theorem dX2_add_30 : decode cX2_add 30 = .ok (.getfield 18, 3) := by decide +kernel
theorem dX2_add_33 : decode cX2_add 33 = .ok (.aload_n 0, 1) := by decide +kernel
theorem dX2_add_34 : decode cX2_add 34 = .ok (.getfield 30, 3) := by decide +kernel
theorem dX2_add_37 : decode cX2_add 37 = .ok (.iload_n 3, 1) := by decide +kernel
theorem dX2_add_38 : decode cX2_add 38 = .ok (.iastore, 1) := by decide +kernel
theorem dX2_add_39 : decode cX2_add 39 = .ok (.aload_n 0, 1) := by decide +kernel
theorem dX2_add_40 : decode cX2_add 40 = .ok (.dup, 1) := by decide +kernel
theorem dX2_add_41 : decode cX2_add 41 = .ok (.getfield 30, 3) := by decide +kernel
theorem dX2_add_44 : decode cX2_add 44 = .ok (.iconst 1, 1) := by decide +kernel
theorem dX2_add_45 : decode cX2_add 45 = .ok (.iadd, 1) := by decide +kernel
theorem dX2_add_46 : decode cX2_add 46 = .ok (.putfield 30, 3) := by decide +kernel
theorem dX2_add_49 : decode cX2_add 49 = .ok (.aload_n 0, 1) := by decide +kernel
theorem dX2_add_50 : decode cX2_add 50 = .ok (.getfield 30, 3) := by decide +kernel
theorem dX2_add_53 : decode cX2_add 53 = .ok (.ireturn, 1) := by decide +kernel
set_option maxRecDepth 100000 in
set_option maxHeartbeats 4000000 in
theorem mX2_add {w : WX} {adr : Nat → Nat → Nat} (hj : Ij adr) (a1 : Int32) (a2 : Int32) (a3 : Int32) (S : St) : ∀ (l : Launch) (r : Int32) (S2 : St), fX2_add a1 a2 a3 S = some (r, S2) → Mi l w adr yX2_add cX2_add 4 (some .int) 0 0 [.ref (adr 20 0), .int a1, .int a2, .int a3] S r S2 := by
  refine mi_of (lv := [(0, .ref (adr 20 0)), (1, .int a1), (2, .int a2), (3, .int a3)]) hj (plainFor_of_name (by decide +kernel)) rfl (Nat.le_of_ble_eq_true rfl) (fun k C Rr => ?_)
  have C : Cx w adr k cX2_add RX2 4 0 0 := C
  refine ge_aload_n (n := 1) C 0 rfl dX2_add_0 rfl rfl ?_
  refine gt_X2_30 (n := 4) C (by decide) dX2_add_1 rfl ?_
  refine ge_bipush (v := 6) (n := 6) C dX2_add_4 (by decide) rfl ?_
  refine ge_icmp_ge (t := 49) (n := 9) C dX2_add_6 (by decide) rfl (fun h_6 => ?_) (fun h_6 => ?_)
  · refine ge_aload_n (n := 50) C 0 rfl dX2_add_49 rfl rfl ?_
    refine gt_X2_30 (n := 53) C (by decide) dX2_add_50 rfl ?_
    exact ge_iret C Rr dX2_add_53
  · refine ge_aload_n (n := 10) C 0 rfl dX2_add_9 rfl rfl ?_
    refine gt_X2_9 (n := 13) C (by decide) dX2_add_10 rfl ?_
    refine ge_aload_n (n := 14) C 0 rfl dX2_add_13 rfl rfl ?_
    refine gt_X2_30 (n := 17) C (by decide) dX2_add_14 rfl ?_
    refine ge_iload_n (n := 18) C 1 rfl dX2_add_17 rfl rfl ?_
    refine as_21 (n := 19) C (by decide) dX2_add_18 rfl (fun S_18 => ?_)
    refine ge_aload_n (n := 20) C 0 rfl dX2_add_19 rfl rfl ?_
    refine gt_X2_15 (n := 23) C (by decide) dX2_add_20 rfl ?_
    refine ge_aload_n (n := 24) C 0 rfl dX2_add_23 rfl rfl ?_
    refine gt_X2_30 (n := 27) C (by decide) dX2_add_24 rfl ?_
    refine ge_iload_n (n := 28) C 2 rfl dX2_add_27 rfl rfl ?_
    refine as_22 (n := 29) C (by decide) dX2_add_28 rfl (fun S_28 => ?_)
    refine ge_aload_n (n := 30) C 0 rfl dX2_add_29 rfl rfl ?_
    refine gt_X2_18 (n := 33) C (by decide) dX2_add_30 rfl ?_
    refine ge_aload_n (n := 34) C 0 rfl dX2_add_33 rfl rfl ?_
    refine gt_X2_30 (n := 37) C (by decide) dX2_add_34 rfl ?_
    refine ge_iload_n (n := 38) C 3 rfl dX2_add_37 rfl rfl ?_
    refine as_23 (n := 39) C (by decide) dX2_add_38 rfl (fun S_38 => ?_)
    refine ge_aload_n (n := 40) C 0 rfl dX2_add_39 rfl rfl ?_
    refine ge_dup (n := 41) C dX2_add_40 rfl rfl ?_
    refine gt_X2_30 (n := 44) C (by decide) dX2_add_41 rfl ?_
    refine ge_iconst (v := 1) (n := 45) C dX2_add_44 (by decide) rfl ?_
    refine ge_iadd (n := 46) C dX2_add_45 rfl ?_
    refine pt_X2_30 (n := 49) C (by decide) dX2_add_46 rfl (fun S_46 => ?_)
    refine ge_aload_n (n := 50) C 0 rfl dX2_add_49 rfl rfl ?_
    refine gt_X2_30 (n := 53) C (by decide) dX2_add_50 rfl ?_
    exact ge_iret C Rr dX2_add_53
theorem dX6_pain_0 : decode cX6_pain 0 = .ok (.aload_n 0, 1) := by decide +kernel
theorem dX6_pain_1 : decode cX6_pain 1 = .ok (.getfield 20, 3) := by decide +kernel
theorem dX6_pain_4 : decode cX6_pain 4 = .ok (.iload_n 2, 1) := by decide +kernel
theorem dX6_pain_5 : decode cX6_pain 5 = .ok (.iaload, 1) := by decide +kernel
theorem dX6_pain_6 : decode cX6_pain 6 = .ok (.istore_n 3, 1) := by decide +kernel
theorem dX6_pain_7 : decode cX6_pain 7 = .ok (.iconst 0, 1) := by decide +kernel
theorem dX6_pain_8 : decode cX6_pain 8 = .ok (.aload_n 0, 1) := by decide +kernel
theorem dX6_pain_9 : decode cX6_pain 9 = .ok (.getfield 23, 3) := by decide +kernel
theorem dX6_pain_12 : decode cX6_pain 12 = .ok (.iload_n 2, 1) := by decide +kernel
theorem dX6_pain_13 : decode cX6_pain 13 = .ok (.iaload, 1) := by decide +kernel
theorem dX6_pain_14 : decode cX6_pain 14 = .ok (.aload_n 1, 1) := by decide +kernel
theorem dX6_pain_15 : decode cX6_pain 15 = .ok (.getfield 39, 3) := by decide +kernel
theorem dX6_pain_18 : decode cX6_pain 18 = .ok (.iload_n 3, 1) := by decide +kernel
theorem dX6_pain_19 : decode cX6_pain 19 = .ok (.iaload, 1) := by decide +kernel
theorem dX6_pain_20 : decode cX6_pain 20 = .ok (.iadd, 1) := by decide +kernel
theorem dX6_pain_21 : decode cX6_pain 21 = .ok (.aload_n 1, 1) := by decide +kernel
theorem dX6_pain_22 : decode cX6_pain 22 = .ok (.getfield 43, 3) := by decide +kernel
theorem dX6_pain_25 : decode cX6_pain 25 = .ok (.iload_n 3, 1) := by decide +kernel
theorem dX6_pain_26 : decode cX6_pain 26 = .ok (.iaload, 1) := by decide +kernel
theorem dX6_pain_27 : decode cX6_pain 27 = .ok (.isub, 1) := by decide +kernel
theorem dX6_pain_28 : decode cX6_pain 28 = .ok (.invokestatic 46, 3) := by decide +kernel
theorem dX6_pain_31 : decode cX6_pain 31 = .ok (.ireturn, 1) := by decide +kernel
set_option maxRecDepth 100000 in
set_option maxHeartbeats 4000000 in
theorem mX6_pain {w : WX} {adr : Nat → Nat → Nat} (hj : Ij adr) {o0 : Nat} (ho0 : o0 < 2) {o1 : Nat} (ho1 : o1 < 7) (a2 : Int32) (S : St) : ∀ (l : Launch) (r : Int32) (S2 : St), fX6_pain o0 o1 a2 S = some (r, S2) → Mi l w adr yX6_pain cX6_pain 4 (some .int) 1 21 [.ref (adr 3 o0), .ref (adr 11 o1), .int a2] S r S2 := by
  refine mi_of (lv := [(0, .ref (adr 3 o0)), (1, .ref (adr 11 o1)), (2, .int a2)]) hj (plainFor_of_name (by decide +kernel)) rfl (Nat.le_of_ble_eq_true rfl) (fun k C Rr => ?_)
  have C : Cx w adr k cX6_pain RX6 4 1 21 := C
  refine ge_aload_n (n := 1) C 0 rfl dX6_pain_0 rfl rfl ?_
  refine gt_X6_20 (n := 4) C ho0 dX6_pain_1 rfl ?_
  refine ge_iload_n (n := 5) C 2 rfl dX6_pain_4 rfl rfl ?_
  refine al_7 (n := 6) C ho0 dX6_pain_5 rfl ?_
  refine ge_bi (fun x3_6 => ?_)
  refine ge_istore_n (n := 7) (lv2 := [(3, .int x3_6), (0, .ref (adr 3 o0)), (1, .ref (adr 11 o1)), (2, .int a2)]) C dX6_pain_6 rfl rfl (by decide) rfl ?_
  refine ge_iconst (v := 0) (n := 8) C dX6_pain_7 (by decide) rfl ?_
  refine ge_aload_n (n := 9) C 1 rfl dX6_pain_8 rfl rfl ?_
  refine gt_X6_23 (n := 12) C ho0 dX6_pain_9 rfl ?_
  refine ge_iload_n (n := 13) C 3 rfl dX6_pain_12 rfl rfl ?_
  refine al_8 (n := 14) C ho0 dX6_pain_13 rfl ?_
  refine ge_aload_n (n := 15) C 2 rfl dX6_pain_14 rfl rfl ?_
  refine gt_X6_39 (n := 18) C ho1 dX6_pain_15 rfl ?_
  refine ge_iload_n (n := 19) C 0 rfl dX6_pain_18 rfl rfl ?_
  refine al_12 (n := 20) C ho1 dX6_pain_19 rfl ?_
  refine ge_iadd (n := 21) C dX6_pain_20 rfl ?_
  refine ge_aload_n (n := 22) C 2 rfl dX6_pain_21 rfl rfl ?_
  refine gt_X6_43 (n := 25) C ho1 dX6_pain_22 rfl ?_
  refine ge_iload_n (n := 26) C 0 rfl dX6_pain_25 rfl rfl ?_
  refine al_13 (n := 27) C ho1 dX6_pain_26 rfl ?_
  refine ge_isub (n := 28) C dX6_pain_27 rfl ?_
  refine ge_mmax (n := 31) C ml_X6_46 (by decide) (Nat.le_of_ble_eq_true rfl) dX6_pain_28 rfl ?_
  exact ge_iret C Rr dX6_pain_31
theorem dX2_agree_0 : decode cX2_agree 0 = .ok (.iconst 0, 1) := by decide +kernel
theorem dX2_agree_1 : decode cX2_agree 1 = .ok (.istore 4, 2) := by decide +kernel
theorem dX2_agree_3 : decode cX2_agree 3 = .ok (.iload 4, 2) := by decide +kernel
theorem dX2_agree_5 : decode cX2_agree 5 = .ok (.aload_n 0, 1) := by decide +kernel
theorem dX2_agree_6 : decode cX2_agree 6 = .ok (.getfield 30, 3) := by decide +kernel
theorem dX2_agree_9 : decode cX2_agree 9 = .ok (.if_icmp .ge 44, 3) := by decide +kernel
theorem dX2_agree_12 : decode cX2_agree 12 = .ok (.aload_n 0, 1) := by decide +kernel
theorem dX2_agree_13 : decode cX2_agree 13 = .ok (.getfield 9, 3) := by decide +kernel
theorem dX2_agree_16 : decode cX2_agree 16 = .ok (.iload 4, 2) := by decide +kernel
theorem dX2_agree_18 : decode cX2_agree 18 = .ok (.iaload, 1) := by decide +kernel
theorem dX2_agree_19 : decode cX2_agree 19 = .ok (.iload_n 3, 1) := by decide +kernel
theorem dX2_agree_20 : decode cX2_agree 20 = .ok (.if_icmp .ne 27, 3) := by decide +kernel
theorem dX2_agree_23 : decode cX2_agree 23 = .ok (.aload_n 1, 1) := by decide +kernel
theorem dX2_agree_24 : decode cX2_agree 24 = .ok (.aload_n 2, 1) := by decide +kernel
theorem dX2_agree_25 : decode cX2_agree 25 = .ok (.aload_n 0, 1) := by decide +kernel
theorem dX2_agree_26 : decode cX2_agree 26 = .ok (.getfield 15, 3) := by decide +kernel
theorem dX2_agree_29 : decode cX2_agree 29 = .ok (.iload 4, 2) := by decide +kernel
theorem dX2_agree_31 : decode cX2_agree 31 = .ok (.iaload, 1) := by decide +kernel
theorem dX2_agree_32 : decode cX2_agree 32 = .ok (.invokevirtual 34, 3) := by decide +kernel
theorem dX2_agree_35 : decode cX2_agree 35 = .ok (.aload_n 0, 1) := by decide +kernel
theorem dX2_agree_36 : decode cX2_agree 36 = .ok (.getfield 18, 3) := by decide +kernel
theorem dX2_agree_39 : decode cX2_agree 39 = .ok (.iload 4, 2) := by decide +kernel
theorem dX2_agree_41 : decode cX2_agree 41 = .ok (.iaload, 1) := by decide +kernel
theorem dX2_agree_42 : decode cX2_agree 42 = .ok (.if_icmp .eq 5, 3) := by decide +kernel
theorem dX2_agree_45 : decode cX2_agree 45 = .ok (.iconst 0, 1) := by decide +kernel
theorem dX2_agree_46 : decode cX2_agree 46 = .ok (.ireturn, 1) := by decide +kernel
theorem dX2_agree_47 : decode cX2_agree 47 = .ok (.iinc 4 1, 3) := by decide +kernel
theorem dX2_agree_50 : decode cX2_agree 50 = .ok (.goto (-47), 3) := by decide +kernel
theorem dX2_agree_53 : decode cX2_agree 53 = .ok (.iconst 1, 1) := by decide +kernel
theorem dX2_agree_54 : decode cX2_agree 54 = .ok (.ireturn, 1) := by decide +kernel
set_option maxRecDepth 100000 in
set_option maxHeartbeats 4000000 in
theorem mX2_agree {w : WX} {adr : Nat → Nat → Nat} (hj : Ij adr) {o1 : Nat} (ho1 : o1 < 2) {o2 : Nat} (ho2 : o2 < 7) (a3 : Int32) (S : St) : ∀ (l : Launch) (r : Int32) (S2 : St), fX2_agree o1 o2 a3 S = some (r, S2) → Mi l w adr yX2_agree cX2_agree 5 (some .boolean) 2 44 [.ref (adr 20 0), .ref (adr 3 o1), .ref (adr 11 o2), .int a3] S r S2 := by
  refine mi_of (lv := [(0, .ref (adr 20 0)), (1, .ref (adr 3 o1)), (2, .ref (adr 11 o2)), (3, .int a3)]) hj (plainFor_of_name (by decide +kernel)) rfl (Nat.le_of_ble_eq_true rfl) (fun k C Rr => ?_)
  have C : Cx w adr k cX2_agree RX2 5 2 44 := C
  refine ge_iconst (v := 0) (n := 1) C dX2_agree_0 (by decide) rfl ?_
  refine ge_istore (n := 3) (lv2 := [(4, .int (0 : Int32)), (0, .ref (adr 20 0)), (1, .ref (adr 3 o1)), (2, .ref (adr 11 o2)), (3, .int a3)]) C dX2_agree_1 rfl (by decide) rfl ?_
  refine ge_jn (fun (jj : St → Op) => ∀ (S_53 : St), Ge w adr k 53 [] [] S_53 (jj S_53)) (fun S_53 => ?_) (fun kk3 hkk3 => ?_)
  · refine ge_iconst (v := 1) (n := 54) C dX2_agree_53 (by decide) rfl ?_
    exact ge_zret C Rr (by decide) dX2_agree_54
  refine ge_lop (fun (jj : Int32 → St → Op) => ∀ (x4_3 : Int32) (S_3 : St), Ge w adr k 3 [(4, .int x4_3), (0, .ref (adr 20 0)), (1, .ref (adr 3 o1)), (2, .ref (adr 11 o2)), (3, .int a3)] [] S_3 (jj x4_3 S_3)) (fun _ _ => ge_none) (fun ag3 hag3 x4_3 S_3 => ?_) FU (0 : Int32) S
  refine ge_iload (n := 5) C 0 rfl dX2_agree_3 rfl ?_
  refine ge_aload_n (n := 6) C 1 rfl dX2_agree_5 rfl rfl ?_
  refine gt_X2_30 (n := 9) C (by decide) dX2_agree_6 rfl ?_
  refine ge_icmp_ge (t := 53) (n := 12) C dX2_agree_9 (by decide) rfl (fun h_9 => ?_) (fun h_9 => ?_)
  · refine ge_sub [] rfl ?_
    exact hkk3 S_3
  · refine ge_aload_n (n := 13) C 1 rfl dX2_agree_12 rfl rfl ?_
    refine gt_X2_9 (n := 16) C (by decide) dX2_agree_13 rfl ?_
    refine ge_iload (n := 18) C 0 rfl dX2_agree_16 rfl ?_
    refine al_21 (n := 19) C (by decide) dX2_agree_18 rfl ?_
    refine ge_iload_n (n := 20) C 4 rfl dX2_agree_19 rfl rfl ?_
    refine ge_icmp_ne (t := 47) (n := 23) C dX2_agree_20 (by decide) rfl (fun h_20 => ?_) (fun h_20 => ?_)
    · refine ge_iinc (n := 50) (v := (x4_3 + (1 : Int32))) (lv2 := [(4, .int (x4_3 + (1 : Int32))), (0, .ref (adr 20 0)), (1, .ref (adr 3 o1)), (2, .ref (adr 11 o2)), (3, .int a3)]) C 0 rfl dX2_agree_47 rfl rfl (by decide) rfl ?_
      refine ge_goto (n := 3) C dX2_agree_50 (by decide) ?_
      exact hag3 (x4_3 + (1 : Int32)) S_3
    · refine ge_aload_n (n := 24) C 2 rfl dX2_agree_23 rfl rfl ?_
      refine ge_aload_n (n := 25) C 3 rfl dX2_agree_24 rfl rfl ?_
      refine ge_aload_n (n := 26) C 1 rfl dX2_agree_25 rfl rfl ?_
      refine gt_X2_15 (n := 29) C (by decide) dX2_agree_26 rfl ?_
      refine ge_iload (n := 31) C 0 rfl dX2_agree_29 rfl ?_
      refine al_22 (n := 32) C (by decide) dX2_agree_31 rfl ?_
      refine ge_callVi (n := 35) C (mX6_pain hj (o0 := o1) ho1 (o1 := o2) ho2 (S_3 22 0 (Int32.toNatClampNeg x4_3)) S_3) gv_X2_34 (cl_3 ho1) rfl rfl hc_X6_pain ⟨Nat.le_of_ble_eq_true rfl, Nat.le_of_ble_eq_true rfl⟩ rfl rfl (Nat.le_of_ble_eq_true rfl) dX2_agree_32 rfl (fun r_32 S_32 => ?_)
      refine ge_aload_n (n := 36) C 1 rfl dX2_agree_35 rfl rfl ?_
      refine gt_X2_18 (n := 39) C (by decide) dX2_agree_36 rfl ?_
      refine ge_iload (n := 41) C 0 rfl dX2_agree_39 rfl ?_
      refine al_23 (n := 42) C (by decide) dX2_agree_41 rfl ?_
      refine ge_icmp_eq (t := 47) (n := 45) C dX2_agree_42 (by decide) rfl (fun h_42 => ?_) (fun h_42 => ?_)
      · refine ge_iinc (n := 50) (v := (x4_3 + (1 : Int32))) (lv2 := [(4, .int (x4_3 + (1 : Int32))), (0, .ref (adr 20 0)), (1, .ref (adr 3 o1)), (2, .ref (adr 11 o2)), (3, .int a3)]) C 0 rfl dX2_agree_47 rfl rfl (by decide) rfl ?_
        refine ge_goto (n := 3) C dX2_agree_50 (by decide) ?_
        exact hag3 (x4_3 + (1 : Int32)) S_32
      · refine ge_iconst (v := 0) (n := 46) C dX2_agree_45 (by decide) rfl ?_
        exact ge_zret C Rr (by decide) dX2_agree_46
theorem dX2_clearParts_0 : decode cX2_clearParts 0 = .ok (.aload_n 0, 1) := by decide +kernel
theorem dX2_clearParts_1 : decode cX2_clearParts 1 = .ok (.iconst 0, 1) := by decide +kernel
theorem dX2_clearParts_2 : decode cX2_clearParts 2 = .ok (.putfield 39, 3) := by decide +kernel
theorem dX2_clearParts_5 : decode cX2_clearParts 5 = .ok (.iconst 0, 1) := by decide +kernel
theorem dX2_clearParts_6 : decode cX2_clearParts 6 = .ok (.istore_n 1, 1) := by decide +kernel
theorem dX2_clearParts_7 : decode cX2_clearParts 7 = .ok (.iload_n 1, 1) := by decide +kernel
theorem dX2_clearParts_8 : decode cX2_clearParts 8 = .ok (.bipush 8, 2) := by decide +kernel
theorem dX2_clearParts_10 : decode cX2_clearParts 10 = .ok (.if_icmp .ge 23, 3) := by decide +kernel
theorem dX2_clearParts_13 : decode cX2_clearParts 13 = .ok (.aload_n 0, 1) := by decide +kernel
theorem dX2_clearParts_14 : decode cX2_clearParts 14 = .ok (.getfield 21, 3) := by decide +kernel
theorem dX2_clearParts_17 : decode cX2_clearParts 17 = .ok (.iload_n 1, 1) := by decide +kernel
theorem dX2_clearParts_18 : decode cX2_clearParts 18 = .ok (.iconst (-1), 1) := by decide +kernel
theorem dX2_clearParts_19 : decode cX2_clearParts 19 = .ok (.iastore, 1) := by decide +kernel
theorem dX2_clearParts_20 : decode cX2_clearParts 20 = .ok (.aload_n 0, 1) := by decide +kernel
theorem dX2_clearParts_21 : decode cX2_clearParts 21 = .ok (.getfield 27, 3) := by decide +kernel
theorem dX2_clearParts_24 : decode cX2_clearParts 24 = .ok (.iload_n 1, 1) := by decide +kernel
theorem dX2_clearParts_25 : decode cX2_clearParts 25 = .ok (.iconst 0, 1) := by decide +kernel
theorem dX2_clearParts_26 : decode cX2_clearParts 26 = .ok (.iastore, 1) := by decide +kernel
theorem dX2_clearParts_27 : decode cX2_clearParts 27 = .ok (.iinc 1 1, 3) := by decide +kernel
theorem dX2_clearParts_30 : decode cX2_clearParts 30 = .ok (.goto (-23), 3) := by decide +kernel
theorem dX2_clearParts_33 : decode cX2_clearParts 33 = .ok (.return_, 1) := by decide +kernel
set_option maxRecDepth 100000 in
set_option maxHeartbeats 4000000 in
theorem mX2_clearParts {w : WX} {adr : Nat → Nat → Nat} (hj : Ij adr)  (S : St) : ∀ (l : Launch) (r : Int32) (S2 : St), fX2_clearParts S = some (r, S2) → Mv l w adr yX2_clearParts cX2_clearParts 2 none 0 0 [.ref (adr 20 0)] S S2 := by
  refine mv_of (lv := [(0, .ref (adr 20 0))]) hj (plainFor_of_name (by decide +kernel)) rfl (Nat.le_of_ble_eq_true rfl) (fun k C Rr => ?_)
  have C : Cx w adr k cX2_clearParts RX2 2 0 0 := C
  refine ge_aload_n (n := 1) C 0 rfl dX2_clearParts_0 rfl rfl ?_
  refine ge_iconst (v := 0) (n := 2) C dX2_clearParts_1 (by decide) rfl ?_
  refine pt_X2_39 (n := 5) C (by decide) dX2_clearParts_2 rfl (fun S_2 => ?_)
  refine ge_iconst (v := 0) (n := 6) C dX2_clearParts_5 (by decide) rfl ?_
  refine ge_istore_n (n := 7) (lv2 := [(1, .int (0 : Int32)), (0, .ref (adr 20 0))]) C dX2_clearParts_6 rfl rfl (by decide) rfl ?_
  refine ge_jn (fun (jj : St → Op) => ∀ (S_33 : St), Ge w adr k 33 [] [] S_33 (jj S_33)) (fun S_33 => ?_) (fun kk7 hkk7 => ?_)
  · exact ge_vret C Rr dX2_clearParts_33
  refine ge_lop (fun (jj : Int32 → St → Op) => ∀ (x1_7 : Int32) (S_7 : St), Ge w adr k 7 [(1, .int x1_7), (0, .ref (adr 20 0))] [] S_7 (jj x1_7 S_7)) (fun _ _ => ge_none) (fun ag7 hag7 x1_7 S_7 => ?_) FU (0 : Int32) S_2
  refine ge_iload_n (n := 8) C 0 rfl dX2_clearParts_7 rfl rfl ?_
  refine ge_bipush (v := 8) (n := 10) C dX2_clearParts_8 (by decide) rfl ?_
  refine ge_icmp_ge (t := 33) (n := 13) C dX2_clearParts_10 (by decide) rfl (fun h_10 => ?_) (fun h_10 => ?_)
  · refine ge_sub [] rfl ?_
    exact hkk7 S_7
  · refine ge_aload_n (n := 14) C 1 rfl dX2_clearParts_13 rfl rfl ?_
    refine gt_X2_21 (n := 17) C (by decide) dX2_clearParts_14 rfl ?_
    refine ge_iload_n (n := 18) C 0 rfl dX2_clearParts_17 rfl rfl ?_
    refine ge_iconst (v := -1) (n := 19) C dX2_clearParts_18 (by decide) rfl ?_
    refine as_24 (n := 20) C (by decide) dX2_clearParts_19 rfl (fun S_19 => ?_)
    refine ge_aload_n (n := 21) C 1 rfl dX2_clearParts_20 rfl rfl ?_
    refine gt_X2_27 (n := 24) C (by decide) dX2_clearParts_21 rfl ?_
    refine ge_iload_n (n := 25) C 0 rfl dX2_clearParts_24 rfl rfl ?_
    refine ge_iconst (v := 0) (n := 26) C dX2_clearParts_25 (by decide) rfl ?_
    refine as_26 (n := 27) C (by decide) dX2_clearParts_26 rfl (fun S_26 => ?_)
    refine ge_iinc (n := 30) (v := (x1_7 + (1 : Int32))) (lv2 := [(1, .int (x1_7 + (1 : Int32))), (0, .ref (adr 20 0))]) C 0 rfl dX2_clearParts_27 rfl rfl (by decide) rfl ?_
    refine ge_goto (n := 7) C dX2_clearParts_30 (by decide) ?_
    exact hag7 (x1_7 + (1 : Int32)) S_26
theorem dX2_part_0 : decode cX2_part 0 = .ok (.aload_n 0, 1) := by decide +kernel
theorem dX2_part_1 : decode cX2_part 1 = .ok (.dup, 1) := by decide +kernel
theorem dX2_part_2 : decode cX2_part 2 = .ok (.getfield 39, 3) := by decide +kernel
theorem dX2_part_5 : decode cX2_part 5 = .ok (.iconst 1, 1) := by decide +kernel
theorem dX2_part_6 : decode cX2_part 6 = .ok (.iadd, 1) := by decide +kernel
theorem dX2_part_7 : decode cX2_part 7 = .ok (.putfield 39, 3) := by decide +kernel
theorem dX2_part_10 : decode cX2_part 10 = .ok (.iconst 0, 1) := by decide +kernel
theorem dX2_part_11 : decode cX2_part 11 = .ok (.istore_n 3, 1) := by decide +kernel
theorem dX2_part_12 : decode cX2_part 12 = .ok (.iload_n 3, 1) := by decide +kernel
theorem dX2_part_13 : decode cX2_part 13 = .ok (.aload_n 1, 1) := by decide +kernel
theorem dX2_part_14 : decode cX2_part 14 = .ok (.getfield 42, 3) := by decide +kernel
theorem dX2_part_17 : decode cX2_part 17 = .ok (.if_icmp .ge 75, 3) := by decide +kernel
theorem dX2_part_20 : decode cX2_part 20 = .ok (.aload_n 1, 1) := by decide +kernel
theorem dX2_part_21 : decode cX2_part 21 = .ok (.aload_n 2, 1) := by decide +kernel
theorem dX2_part_22 : decode cX2_part 22 = .ok (.iload_n 3, 1) := by decide +kernel
theorem dX2_part_23 : decode cX2_part 23 = .ok (.invokevirtual 34, 3) := by decide +kernel
theorem dX2_part_26 : decode cX2_part 26 = .ok (.istore 4, 2) := by decide +kernel
theorem dX2_part_28 : decode cX2_part 28 = .ok (.aload_n 0, 1) := by decide +kernel
theorem dX2_part_29 : decode cX2_part 29 = .ok (.getfield 24, 3) := by decide +kernel
theorem dX2_part_32 : decode cX2_part 32 = .ok (.iload_n 3, 1) := by decide +kernel
theorem dX2_part_33 : decode cX2_part 33 = .ok (.iload 4, 2) := by decide +kernel
theorem dX2_part_35 : decode cX2_part 35 = .ok (.aload_n 0, 1) := by decide +kernel
theorem dX2_part_36 : decode cX2_part 36 = .ok (.getfield 21, 3) := by decide +kernel
theorem dX2_part_39 : decode cX2_part 39 = .ok (.iload_n 3, 1) := by decide +kernel
theorem dX2_part_40 : decode cX2_part 40 = .ok (.iaload, 1) := by decide +kernel
theorem dX2_part_41 : decode cX2_part 41 = .ok (.if_icmp .ne 14, 3) := by decide +kernel
theorem dX2_part_44 : decode cX2_part 44 = .ok (.aload_n 0, 1) := by decide +kernel
theorem dX2_part_45 : decode cX2_part 45 = .ok (.getfield 24, 3) := by decide +kernel
theorem dX2_part_48 : decode cX2_part 48 = .ok (.iload_n 3, 1) := by decide +kernel
theorem dX2_part_49 : decode cX2_part 49 = .ok (.iaload, 1) := by decide +kernel
theorem dX2_part_50 : decode cX2_part 50 = .ok (.iconst 1, 1) := by decide +kernel
theorem dX2_part_51 : decode cX2_part 51 = .ok (.iadd, 1) := by decide +kernel
theorem dX2_part_52 : decode cX2_part 52 = .ok (.goto 4, 3) := by decide +kernel
theorem dX2_part_55 : decode cX2_part 55 = .ok (.iconst 1, 1) := by decide +kernel
theorem dX2_part_56 : decode cX2_part 56 = .ok (.iastore, 1) := by decide +kernel
theorem dX2_part_57 : decode cX2_part 57 = .ok (.aload_n 0, 1) := by decide +kernel
theorem dX2_part_58 : decode cX2_part 58 = .ok (.getfield 21, 3) := by decide +kernel
theorem dX2_part_61 : decode cX2_part 61 = .ok (.iload_n 3, 1) := by decide +kernel
theorem dX2_part_62 : decode cX2_part 62 = .ok (.iload 4, 2) := by decide +kernel
theorem dX2_part_64 : decode cX2_part 64 = .ok (.iastore, 1) := by decide +kernel
theorem dX2_part_65 : decode cX2_part 65 = .ok (.aload_n 0, 1) := by decide +kernel
theorem dX2_part_66 : decode cX2_part 66 = .ok (.getfield 27, 3) := by decide +kernel
theorem dX2_part_69 : decode cX2_part 69 = .ok (.iload_n 3, 1) := by decide +kernel
theorem dX2_part_70 : decode cX2_part 70 = .ok (.aload_n 0, 1) := by decide +kernel
theorem dX2_part_71 : decode cX2_part 71 = .ok (.getfield 27, 3) := by decide +kernel
theorem dX2_part_74 : decode cX2_part 74 = .ok (.iload_n 3, 1) := by decide +kernel
theorem dX2_part_75 : decode cX2_part 75 = .ok (.iaload, 1) := by decide +kernel
theorem dX2_part_76 : decode cX2_part 76 = .ok (.aload_n 0, 1) := by decide +kernel
theorem dX2_part_77 : decode cX2_part 77 = .ok (.getfield 24, 3) := by decide +kernel
theorem dX2_part_80 : decode cX2_part 80 = .ok (.iload_n 3, 1) := by decide +kernel
theorem dX2_part_81 : decode cX2_part 81 = .ok (.iaload, 1) := by decide +kernel
theorem dX2_part_82 : decode cX2_part 82 = .ok (.invokestatic 45, 3) := by decide +kernel
theorem dX2_part_85 : decode cX2_part 85 = .ok (.iastore, 1) := by decide +kernel
theorem dX2_part_86 : decode cX2_part 86 = .ok (.iinc 3 1, 3) := by decide +kernel
theorem dX2_part_89 : decode cX2_part 89 = .ok (.goto (-77), 3) := by decide +kernel
theorem dX2_part_92 : decode cX2_part 92 = .ok (.return_, 1) := by decide +kernel
set_option maxRecDepth 100000 in
set_option maxHeartbeats 4000000 in
theorem mX2_part {w : WX} {adr : Nat → Nat → Nat} (hj : Ij adr) {o1 : Nat} (ho1 : o1 < 2) {o2 : Nat} (ho2 : o2 < 7) (S : St) : ∀ (l : Launch) (r : Int32) (S2 : St), fX2_part o1 o2 S = some (r, S2) → Mv l w adr yX2_part cX2_part 5 none 2 44 [.ref (adr 20 0), .ref (adr 3 o1), .ref (adr 11 o2)] S S2 := by
  refine mv_of (lv := [(0, .ref (adr 20 0)), (1, .ref (adr 3 o1)), (2, .ref (adr 11 o2))]) hj (plainFor_of_name (by decide +kernel)) rfl (Nat.le_of_ble_eq_true rfl) (fun k C Rr => ?_)
  have C : Cx w adr k cX2_part RX2 5 2 44 := C
  refine ge_aload_n (n := 1) C 0 rfl dX2_part_0 rfl rfl ?_
  refine ge_dup (n := 2) C dX2_part_1 rfl rfl ?_
  refine gt_X2_39 (n := 5) C (by decide) dX2_part_2 rfl ?_
  refine ge_iconst (v := 1) (n := 6) C dX2_part_5 (by decide) rfl ?_
  refine ge_iadd (n := 7) C dX2_part_6 rfl ?_
  refine pt_X2_39 (n := 10) C (by decide) dX2_part_7 rfl (fun S_7 => ?_)
  refine ge_iconst (v := 0) (n := 11) C dX2_part_10 (by decide) rfl ?_
  refine ge_istore_n (n := 12) (lv2 := [(3, .int (0 : Int32)), (0, .ref (adr 20 0)), (1, .ref (adr 3 o1)), (2, .ref (adr 11 o2))]) C dX2_part_11 rfl rfl (by decide) rfl ?_
  refine ge_jn (fun (jj : St → Op) => ∀ (S_92 : St), Ge w adr k 92 [] [] S_92 (jj S_92)) (fun S_92 => ?_) (fun kk12 hkk12 => ?_)
  · exact ge_vret C Rr dX2_part_92
  refine ge_lop (fun (jj : Int32 → St → Op) => ∀ (x3_12 : Int32) (S_12 : St), Ge w adr k 12 [(3, .int x3_12), (0, .ref (adr 20 0)), (1, .ref (adr 3 o1)), (2, .ref (adr 11 o2))] [] S_12 (jj x3_12 S_12)) (fun _ _ => ge_none) (fun ag12 hag12 x3_12 S_12 => ?_) FU (0 : Int32) S_7
  refine ge_iload_n (n := 13) C 0 rfl dX2_part_12 rfl rfl ?_
  refine ge_aload_n (n := 14) C 2 rfl dX2_part_13 rfl rfl ?_
  refine gt_X2_42 (n := 17) C ho1 dX2_part_14 rfl ?_
  refine ge_icmp_ge (t := 92) (n := 20) C dX2_part_17 (by decide) rfl (fun h_17 => ?_) (fun h_17 => ?_)
  · refine ge_sub [] rfl ?_
    exact hkk12 S_12
  · refine ge_aload_n (n := 21) C 2 rfl dX2_part_20 rfl rfl ?_
    refine ge_aload_n (n := 22) C 3 rfl dX2_part_21 rfl rfl ?_
    refine ge_iload_n (n := 23) C 0 rfl dX2_part_22 rfl rfl ?_
    refine ge_callVi (n := 26) C (mX6_pain hj (o0 := o1) ho1 (o1 := o2) ho2 x3_12 S_12) gv_X2_34 (cl_3 ho1) rfl rfl hc_X6_pain ⟨Nat.le_of_ble_eq_true rfl, Nat.le_of_ble_eq_true rfl⟩ rfl rfl (Nat.le_of_ble_eq_true rfl) dX2_part_23 rfl (fun r_23 S_23 => ?_)
    refine ge_istore (n := 28) (lv2 := [(4, .int r_23), (3, .int x3_12), (0, .ref (adr 20 0)), (1, .ref (adr 3 o1)), (2, .ref (adr 11 o2))]) C dX2_part_26 rfl (by decide) rfl ?_
    refine ge_aload_n (n := 29) C 2 rfl dX2_part_28 rfl rfl ?_
    refine gt_X2_24 (n := 32) C (by decide) dX2_part_29 rfl ?_
    refine ge_iload_n (n := 33) C 1 rfl dX2_part_32 rfl rfl ?_
    refine ge_iload (n := 35) C 0 rfl dX2_part_33 rfl ?_
    refine ge_aload_n (n := 36) C 2 rfl dX2_part_35 rfl rfl ?_
    refine gt_X2_21 (n := 39) C (by decide) dX2_part_36 rfl ?_
    refine ge_iload_n (n := 40) C 1 rfl dX2_part_39 rfl rfl ?_
    refine al_24 (n := 41) C (by decide) dX2_part_40 rfl ?_
    refine ge_jn (fun (jj : Int32 → Op) => ∀ (v0_56 : Int32), Ge w adr k 56 [(4, .int r_23), (3, .int x3_12), (0, .ref (adr 20 0)), (1, .ref (adr 3 o1)), (2, .ref (adr 11 o2))] [.int v0_56, .int x3_12, .ref (adr 25 0)] S_23 (jj v0_56)) (fun v0_56 => ?_) (fun j56 hj56 => ?_)
    · refine as_25 (n := 57) C (by decide) dX2_part_56 rfl (fun S_56 => ?_)
      refine ge_aload_n (n := 58) C 2 rfl dX2_part_57 rfl rfl ?_
      refine gt_X2_21 (n := 61) C (by decide) dX2_part_58 rfl ?_
      refine ge_iload_n (n := 62) C 1 rfl dX2_part_61 rfl rfl ?_
      refine ge_iload (n := 64) C 0 rfl dX2_part_62 rfl ?_
      refine as_24 (n := 65) C (by decide) dX2_part_64 rfl (fun S_64 => ?_)
      refine ge_aload_n (n := 66) C 2 rfl dX2_part_65 rfl rfl ?_
      refine gt_X2_27 (n := 69) C (by decide) dX2_part_66 rfl ?_
      refine ge_iload_n (n := 70) C 1 rfl dX2_part_69 rfl rfl ?_
      refine ge_aload_n (n := 71) C 2 rfl dX2_part_70 rfl rfl ?_
      refine gt_X2_27 (n := 74) C (by decide) dX2_part_71 rfl ?_
      refine ge_iload_n (n := 75) C 1 rfl dX2_part_74 rfl rfl ?_
      refine al_26 (n := 76) C (by decide) dX2_part_75 rfl ?_
      refine ge_aload_n (n := 77) C 2 rfl dX2_part_76 rfl rfl ?_
      refine gt_X2_24 (n := 80) C (by decide) dX2_part_77 rfl ?_
      refine ge_iload_n (n := 81) C 1 rfl dX2_part_80 rfl rfl ?_
      refine al_25 (n := 82) C (by decide) dX2_part_81 rfl ?_
      refine ge_mmax (n := 85) C ml_X2_45 (by decide) (Nat.le_of_ble_eq_true rfl) dX2_part_82 rfl ?_
      refine as_26 (n := 86) C (by decide) dX2_part_85 rfl (fun S_85 => ?_)
      refine ge_iinc (n := 89) (v := (x3_12 + (1 : Int32))) (lv2 := [(3, .int (x3_12 + (1 : Int32))), (4, .int r_23), (0, .ref (adr 20 0)), (1, .ref (adr 3 o1)), (2, .ref (adr 11 o2))]) C 1 rfl dX2_part_86 rfl rfl (by decide) rfl ?_
      refine ge_goto (n := 12) C dX2_part_89 (by decide) ?_
      refine ge_sub [0, 2, 3, 4] rfl ?_
      exact hag12 (x3_12 + (1 : Int32)) S_85
    refine ge_icmp_ne (t := 55) (n := 44) C dX2_part_41 (by decide) rfl (fun h_41 => ?_) (fun h_41 => ?_)
    · refine ge_iconst (v := 1) (n := 56) C dX2_part_55 (by decide) rfl ?_
      exact hj56 (1 : Int32)
    · refine ge_aload_n (n := 45) C 2 rfl dX2_part_44 rfl rfl ?_
      refine gt_X2_24 (n := 48) C (by decide) dX2_part_45 rfl ?_
      refine ge_iload_n (n := 49) C 1 rfl dX2_part_48 rfl rfl ?_
      refine al_25 (n := 50) C (by decide) dX2_part_49 rfl ?_
      refine ge_iconst (v := 1) (n := 51) C dX2_part_50 (by decide) rfl ?_
      refine ge_iadd (n := 52) C dX2_part_51 rfl ?_
      refine ge_goto (n := 56) C dX2_part_52 (by decide) ?_
      exact hj56 ((S_23 25 0 (Int32.toNatClampNeg x3_12)) + (1 : Int32))
theorem dX2_bestParting_0 : decode cX2_bestParting 0 = .ok (.iconst (-1), 1) := by decide +kernel
theorem dX2_bestParting_1 : decode cX2_bestParting 1 = .ok (.istore_n 2, 1) := by decide +kernel
theorem dX2_bestParting_2 : decode cX2_bestParting 2 = .ok (.aload_n 0, 1) := by decide +kernel
theorem dX2_bestParting_3 : decode cX2_bestParting 3 = .ok (.getfield 39, 3) := by decide +kernel
theorem dX2_bestParting_6 : decode cX2_bestParting 6 = .ok (.istore_n 3, 1) := by decide +kernel
theorem dX2_bestParting_7 : decode cX2_bestParting 7 = .ok (.iconst 0, 1) := by decide +kernel
theorem dX2_bestParting_8 : decode cX2_bestParting 8 = .ok (.istore 4, 2) := by decide +kernel
theorem dX2_bestParting_10 : decode cX2_bestParting 10 = .ok (.iload 4, 2) := by decide +kernel
theorem dX2_bestParting_12 : decode cX2_bestParting 12 = .ok (.iload_n 1, 1) := by decide +kernel
theorem dX2_bestParting_13 : decode cX2_bestParting 13 = .ok (.if_icmp .ge 31, 3) := by decide +kernel
theorem dX2_bestParting_16 : decode cX2_bestParting 16 = .ok (.aload_n 0, 1) := by decide +kernel
theorem dX2_bestParting_17 : decode cX2_bestParting 17 = .ok (.getfield 27, 3) := by decide +kernel
theorem dX2_bestParting_20 : decode cX2_bestParting 20 = .ok (.iload 4, 2) := by decide +kernel
theorem dX2_bestParting_22 : decode cX2_bestParting 22 = .ok (.iaload, 1) := by decide +kernel
theorem dX2_bestParting_23 : decode cX2_bestParting 23 = .ok (.iload_n 3, 1) := by decide +kernel
theorem dX2_bestParting_24 : decode cX2_bestParting 24 = .ok (.if_icmp .ge 14, 3) := by decide +kernel
theorem dX2_bestParting_27 : decode cX2_bestParting 27 = .ok (.iload 4, 2) := by decide +kernel
theorem dX2_bestParting_29 : decode cX2_bestParting 29 = .ok (.istore_n 2, 1) := by decide +kernel
theorem dX2_bestParting_30 : decode cX2_bestParting 30 = .ok (.aload_n 0, 1) := by decide +kernel
theorem dX2_bestParting_31 : decode cX2_bestParting 31 = .ok (.getfield 27, 3) := by decide +kernel
theorem dX2_bestParting_34 : decode cX2_bestParting 34 = .ok (.iload 4, 2) := by decide +kernel
theorem dX2_bestParting_36 : decode cX2_bestParting 36 = .ok (.iaload, 1) := by decide +kernel
theorem dX2_bestParting_37 : decode cX2_bestParting 37 = .ok (.istore_n 3, 1) := by decide +kernel
theorem dX2_bestParting_38 : decode cX2_bestParting 38 = .ok (.iinc 4 1, 3) := by decide +kernel
theorem dX2_bestParting_41 : decode cX2_bestParting 41 = .ok (.goto (-31), 3) := by decide +kernel
theorem dX2_bestParting_44 : decode cX2_bestParting 44 = .ok (.iload_n 2, 1) := by decide +kernel
theorem dX2_bestParting_45 : decode cX2_bestParting 45 = .ok (.ireturn, 1) := by decide +kernel
set_option maxRecDepth 100000 in
set_option maxHeartbeats 4000000 in
theorem mX2_bestParting {w : WX} {adr : Nat → Nat → Nat} (hj : Ij adr) (a1 : Int32) (S : St) : ∀ (l : Launch) (r : Int32) (S2 : St), fX2_bestParting a1 S = some (r, S2) → Mi l w adr yX2_bestParting cX2_bestParting 5 (some .int) 0 0 [.ref (adr 20 0), .int a1] S r S2 := by
  refine mi_of (lv := [(0, .ref (adr 20 0)), (1, .int a1)]) hj (plainFor_of_name (by decide +kernel)) rfl (Nat.le_of_ble_eq_true rfl) (fun k C Rr => ?_)
  have C : Cx w adr k cX2_bestParting RX2 5 0 0 := C
  refine ge_iconst (v := -1) (n := 1) C dX2_bestParting_0 (by decide) rfl ?_
  refine ge_istore_n (n := 2) (lv2 := [(2, .int (-1 : Int32)), (0, .ref (adr 20 0)), (1, .int a1)]) C dX2_bestParting_1 rfl rfl (by decide) rfl ?_
  refine ge_aload_n (n := 3) C 1 rfl dX2_bestParting_2 rfl rfl ?_
  refine gt_X2_39 (n := 6) C (by decide) dX2_bestParting_3 rfl ?_
  refine ge_bi (fun x3_6 => ?_)
  refine ge_istore_n (n := 7) (lv2 := [(3, .int x3_6), (2, .int (-1 : Int32)), (0, .ref (adr 20 0)), (1, .int a1)]) C dX2_bestParting_6 rfl rfl (by decide) rfl ?_
  refine ge_iconst (v := 0) (n := 8) C dX2_bestParting_7 (by decide) rfl ?_
  refine ge_istore (n := 10) (lv2 := [(4, .int (0 : Int32)), (3, .int x3_6), (2, .int (-1 : Int32)), (0, .ref (adr 20 0)), (1, .int a1)]) C dX2_bestParting_8 rfl (by decide) rfl ?_
  refine ge_jn (fun (jj : Int32 → Op) => ∀ (x2_44 : Int32), Ge w adr k 44 [(2, .int x2_44)] [] S (jj x2_44)) (fun x2_44 => ?_) (fun kk10 hkk10 => ?_)
  · refine ge_iload_n (n := 45) C 0 rfl dX2_bestParting_44 rfl rfl ?_
    exact ge_iret C Rr dX2_bestParting_45
  refine ge_lop (fun (jj : Int32 → Int32 → Int32 → Op) => ∀ (x4_10 : Int32) (x3_10 : Int32) (x2_10 : Int32), Ge w adr k 10 [(4, .int x4_10), (3, .int x3_10), (2, .int x2_10), (0, .ref (adr 20 0)), (1, .int a1)] [] S (jj x4_10 x3_10 x2_10)) (fun _ _ _ => ge_none) (fun ag10 hag10 x4_10 x3_10 x2_10 => ?_) FU (0 : Int32) x3_6 (-1 : Int32)
  refine ge_iload (n := 12) C 0 rfl dX2_bestParting_10 rfl ?_
  refine ge_iload_n (n := 13) C 4 rfl dX2_bestParting_12 rfl rfl ?_
  refine ge_icmp_ge (t := 44) (n := 16) C dX2_bestParting_13 (by decide) rfl (fun h_13 => ?_) (fun h_13 => ?_)
  · refine ge_sub [2] rfl ?_
    exact hkk10 x2_10
  · refine ge_aload_n (n := 17) C 3 rfl dX2_bestParting_16 rfl rfl ?_
    refine gt_X2_27 (n := 20) C (by decide) dX2_bestParting_17 rfl ?_
    refine ge_iload (n := 22) C 0 rfl dX2_bestParting_20 rfl ?_
    refine al_26 (n := 23) C (by decide) dX2_bestParting_22 rfl ?_
    refine ge_iload_n (n := 24) C 1 rfl dX2_bestParting_23 rfl rfl ?_
    refine ge_icmp_ge (t := 38) (n := 27) C dX2_bestParting_24 (by decide) rfl (fun h_24 => ?_) (fun h_24 => ?_)
    · refine ge_iinc (n := 41) (v := (x4_10 + (1 : Int32))) (lv2 := [(4, .int (x4_10 + (1 : Int32))), (3, .int x3_10), (2, .int x2_10), (0, .ref (adr 20 0)), (1, .int a1)]) C 0 rfl dX2_bestParting_38 rfl rfl (by decide) rfl ?_
      refine ge_goto (n := 10) C dX2_bestParting_41 (by decide) ?_
      exact hag10 (x4_10 + (1 : Int32)) x3_10 x2_10
    · refine ge_iload (n := 29) C 0 rfl dX2_bestParting_27 rfl ?_
      refine ge_istore_n (n := 30) (lv2 := [(2, .int x4_10), (4, .int x4_10), (3, .int x3_10), (0, .ref (adr 20 0)), (1, .int a1)]) C dX2_bestParting_29 rfl rfl (by decide) rfl ?_
      refine ge_aload_n (n := 31) C 3 rfl dX2_bestParting_30 rfl rfl ?_
      refine gt_X2_27 (n := 34) C (by decide) dX2_bestParting_31 rfl ?_
      refine ge_iload (n := 36) C 1 rfl dX2_bestParting_34 rfl ?_
      refine al_26 (n := 37) C (by decide) dX2_bestParting_36 rfl ?_
      refine ge_bi (fun x3_37 => ?_)
      refine ge_istore_n (n := 38) (lv2 := [(3, .int x3_37), (2, .int x4_10), (4, .int x4_10), (0, .ref (adr 20 0)), (1, .int a1)]) C dX2_bestParting_37 rfl rfl (by decide) rfl ?_
      refine ge_iinc (n := 41) (v := (x4_10 + (1 : Int32))) (lv2 := [(4, .int (x4_10 + (1 : Int32))), (3, .int x3_37), (2, .int x4_10), (0, .ref (adr 20 0)), (1, .int a1)]) C 2 rfl dX2_bestParting_38 rfl rfl (by decide) rfl ?_
      refine ge_goto (n := 10) C dX2_bestParting_41 (by decide) ?_
      exact hag10 (x4_10 + (1 : Int32)) x3_37 x4_10
theorem dX3_begin_0 : decode cX3_begin 0 = .ok (.aload_n 0, 1) := by decide +kernel
theorem dX3_begin_1 : decode cX3_begin 1 = .ok (.aload_n 1, 1) := by decide +kernel
theorem dX3_begin_2 : decode cX3_begin 2 = .ok (.getfield 18, 3) := by decide +kernel
theorem dX3_begin_5 : decode cX3_begin 5 = .ok (.iload_n 2, 1) := by decide +kernel
theorem dX3_begin_6 : decode cX3_begin 6 = .ok (.iaload, 1) := by decide +kernel
theorem dX3_begin_7 : decode cX3_begin 7 = .ok (.putfield 23, 3) := by decide +kernel
theorem dX3_begin_10 : decode cX3_begin 10 = .ok (.aload_n 0, 1) := by decide +kernel
theorem dX3_begin_11 : decode cX3_begin 11 = .ok (.iconst 0, 1) := by decide +kernel
theorem dX3_begin_12 : decode cX3_begin 12 = .ok (.putfield 26, 3) := by decide +kernel
theorem dX3_begin_15 : decode cX3_begin 15 = .ok (.aload_n 0, 1) := by decide +kernel
theorem dX3_begin_16 : decode cX3_begin 16 = .ok (.iconst 0, 1) := by decide +kernel
theorem dX3_begin_17 : decode cX3_begin 17 = .ok (.putfield 29, 3) := by decide +kernel
theorem dX3_begin_20 : decode cX3_begin 20 = .ok (.iconst 0, 1) := by decide +kernel
theorem dX3_begin_21 : decode cX3_begin 21 = .ok (.istore_n 3, 1) := by decide +kernel
theorem dX3_begin_22 : decode cX3_begin 22 = .ok (.iload_n 3, 1) := by decide +kernel
theorem dX3_begin_23 : decode cX3_begin 23 = .ok (.iconst 5, 1) := by decide +kernel
theorem dX3_begin_24 : decode cX3_begin 24 = .ok (.if_icmp .ge 30, 3) := by decide +kernel
theorem dX3_begin_27 : decode cX3_begin 27 = .ok (.aload_n 0, 1) := by decide +kernel
theorem dX3_begin_28 : decode cX3_begin 28 = .ok (.getfield 9, 3) := by decide +kernel
theorem dX3_begin_31 : decode cX3_begin 31 = .ok (.iload_n 3, 1) := by decide +kernel
theorem dX3_begin_32 : decode cX3_begin 32 = .ok (.aload_n 1, 1) := by decide +kernel
theorem dX3_begin_33 : decode cX3_begin 33 = .ok (.getfield 32, 3) := by decide +kernel
theorem dX3_begin_36 : decode cX3_begin 36 = .ok (.iload_n 2, 1) := by decide +kernel
theorem dX3_begin_37 : decode cX3_begin 37 = .ok (.aaload, 1) := by decide +kernel
theorem dX3_begin_38 : decode cX3_begin 38 = .ok (.iload_n 3, 1) := by decide +kernel
theorem dX3_begin_39 : decode cX3_begin 39 = .ok (.iaload, 1) := by decide +kernel
theorem dX3_begin_40 : decode cX3_begin 40 = .ok (.iastore, 1) := by decide +kernel
theorem dX3_begin_41 : decode cX3_begin 41 = .ok (.aload_n 0, 1) := by decide +kernel
theorem dX3_begin_42 : decode cX3_begin 42 = .ok (.getfield 15, 3) := by decide +kernel
theorem dX3_begin_45 : decode cX3_begin 45 = .ok (.iload_n 3, 1) := by decide +kernel
theorem dX3_begin_46 : decode cX3_begin 46 = .ok (.iconst 0, 1) := by decide +kernel
theorem dX3_begin_47 : decode cX3_begin 47 = .ok (.iastore, 1) := by decide +kernel
theorem dX3_begin_48 : decode cX3_begin 48 = .ok (.iinc 3 1, 3) := by decide +kernel
theorem dX3_begin_51 : decode cX3_begin 51 = .ok (.goto (-29), 3) := by decide +kernel
theorem dX3_begin_54 : decode cX3_begin 54 = .ok (.return_, 1) := by decide +kernel
set_option maxRecDepth 100000 in
set_option maxHeartbeats 4000000 in
theorem mX3_begin {w : WX} {adr : Nat → Nat → Nat} (hj : Ij adr) {o0 : Nat} (ho0 : o0 < 7) {o1 : Nat} (ho1 : o1 < 2) (a2 : Int32) (S : St) : ∀ (l : Launch) (r : Int32) (S2 : St), fX3_begin o0 o1 a2 S = some (r, S2) → Mv l w adr yX3_begin cX3_begin 4 none 0 0 [.ref (adr 11 o0), .ref (adr 3 o1), .int a2] S S2 := by
  refine mv_of (lv := [(0, .ref (adr 11 o0)), (1, .ref (adr 3 o1)), (2, .int a2)]) hj (plainFor_of_name (by decide +kernel)) rfl (Nat.le_of_ble_eq_true rfl) (fun k C Rr => ?_)
  have C : Cx w adr k cX3_begin RX3 4 0 0 := C
  refine ge_aload_n (n := 1) C 0 rfl dX3_begin_0 rfl rfl ?_
  refine ge_aload_n (n := 2) C 1 rfl dX3_begin_1 rfl rfl ?_
  refine gt_X3_18 (n := 5) C ho1 dX3_begin_2 rfl ?_
  refine ge_iload_n (n := 6) C 2 rfl dX3_begin_5 rfl rfl ?_
  refine al_4 (n := 7) C ho1 dX3_begin_6 rfl ?_
  refine pt_X3_23 (n := 10) C ho0 dX3_begin_7 rfl (fun S_7 => ?_)
  refine ge_aload_n (n := 11) C 0 rfl dX3_begin_10 rfl rfl ?_
  refine ge_iconst (v := 0) (n := 12) C dX3_begin_11 (by decide) rfl ?_
  refine pt_X3_26 (n := 15) C ho0 dX3_begin_12 rfl (fun S_12 => ?_)
  refine ge_aload_n (n := 16) C 0 rfl dX3_begin_15 rfl rfl ?_
  refine ge_iconst (v := 0) (n := 17) C dX3_begin_16 (by decide) rfl ?_
  refine pt_X3_29 (n := 20) C ho0 dX3_begin_17 rfl (fun S_17 => ?_)
  refine ge_iconst (v := 0) (n := 21) C dX3_begin_20 (by decide) rfl ?_
  refine ge_istore_n (n := 22) (lv2 := [(3, .int (0 : Int32)), (0, .ref (adr 11 o0)), (1, .ref (adr 3 o1)), (2, .int a2)]) C dX3_begin_21 rfl rfl (by decide) rfl ?_
  refine ge_jn (fun (jj : St → Op) => ∀ (S_54 : St), Ge w adr k 54 [] [] S_54 (jj S_54)) (fun S_54 => ?_) (fun kk22 hkk22 => ?_)
  · exact ge_vret C Rr dX3_begin_54
  refine ge_lop (fun (jj : Int32 → St → Op) => ∀ (x3_22 : Int32) (S_22 : St), Ge w adr k 22 [(3, .int x3_22), (0, .ref (adr 11 o0)), (1, .ref (adr 3 o1)), (2, .int a2)] [] S_22 (jj x3_22 S_22)) (fun _ _ => ge_none) (fun ag22 hag22 x3_22 S_22 => ?_) FU (0 : Int32) S_17
  refine ge_iload_n (n := 23) C 0 rfl dX3_begin_22 rfl rfl ?_
  refine ge_iconst (v := 5) (n := 24) C dX3_begin_23 (by decide) rfl ?_
  refine ge_icmp_ge (t := 54) (n := 27) C dX3_begin_24 (by decide) rfl (fun h_24 => ?_) (fun h_24 => ?_)
  · refine ge_sub [] rfl ?_
    exact hkk22 S_22
  · refine ge_aload_n (n := 28) C 1 rfl dX3_begin_27 rfl rfl ?_
    refine gt_X3_9 (n := 31) C ho0 dX3_begin_28 rfl ?_
    refine ge_iload_n (n := 32) C 0 rfl dX3_begin_31 rfl rfl ?_
    refine ge_aload_n (n := 33) C 2 rfl dX3_begin_32 rfl rfl ?_
    refine gt_X3_32 (n := 36) C ho1 dX3_begin_33 rfl ?_
    refine ge_iload_n (n := 37) C 3 rfl dX3_begin_36 rfl rfl ?_
    refine al_5 (n := 38) C ho1 dX3_begin_37 rfl (fun h_37 => ?_)
    refine ge_iload_n (n := 39) C 0 rfl dX3_begin_38 rfl rfl ?_
    refine al_6 (n := 40) C (bd_pls ho1 h_37) dX3_begin_39 rfl ?_
    refine as_12 (n := 41) C ho0 dX3_begin_40 rfl (fun S_40 => ?_)
    refine ge_aload_n (n := 42) C 1 rfl dX3_begin_41 rfl rfl ?_
    refine gt_X3_15 (n := 45) C ho0 dX3_begin_42 rfl ?_
    refine ge_iload_n (n := 46) C 0 rfl dX3_begin_45 rfl rfl ?_
    refine ge_iconst (v := 0) (n := 47) C dX3_begin_46 (by decide) rfl ?_
    refine as_13 (n := 48) C ho0 dX3_begin_47 rfl (fun S_47 => ?_)
    refine ge_iinc (n := 51) (v := (x3_22 + (1 : Int32))) (lv2 := [(3, .int (x3_22 + (1 : Int32))), (0, .ref (adr 11 o0)), (1, .ref (adr 3 o1)), (2, .int a2)]) C 0 rfl dX3_begin_48 rfl rfl (by decide) rfl ?_
    refine ge_goto (n := 22) C dX3_begin_51 (by decide) ?_
    exact hag22 (x3_22 + (1 : Int32)) S_47
theorem dX3_copySkin_0 : decode cX3_copySkin 0 = .ok (.aload_n 0, 1) := by decide +kernel
theorem dX3_copySkin_1 : decode cX3_copySkin 1 = .ok (.aload_n 1, 1) := by decide +kernel
theorem dX3_copySkin_2 : decode cX3_copySkin 2 = .ok (.getfield 23, 3) := by decide +kernel
theorem dX3_copySkin_5 : decode cX3_copySkin 5 = .ok (.putfield 23, 3) := by decide +kernel
theorem dX3_copySkin_8 : decode cX3_copySkin 8 = .ok (.iconst 0, 1) := by decide +kernel
theorem dX3_copySkin_9 : decode cX3_copySkin 9 = .ok (.istore_n 2, 1) := by decide +kernel
theorem dX3_copySkin_10 : decode cX3_copySkin 10 = .ok (.iload_n 2, 1) := by decide +kernel
theorem dX3_copySkin_11 : decode cX3_copySkin 11 = .ok (.iconst 5, 1) := by decide +kernel
theorem dX3_copySkin_12 : decode cX3_copySkin 12 = .ok (.if_icmp .ge 33, 3) := by decide +kernel
theorem dX3_copySkin_15 : decode cX3_copySkin 15 = .ok (.aload_n 0, 1) := by decide +kernel
theorem dX3_copySkin_16 : decode cX3_copySkin 16 = .ok (.getfield 9, 3) := by decide +kernel
theorem dX3_copySkin_19 : decode cX3_copySkin 19 = .ok (.iload_n 2, 1) := by decide +kernel
theorem dX3_copySkin_20 : decode cX3_copySkin 20 = .ok (.aload_n 1, 1) := by decide +kernel
theorem dX3_copySkin_21 : decode cX3_copySkin 21 = .ok (.getfield 9, 3) := by decide +kernel
theorem dX3_copySkin_24 : decode cX3_copySkin 24 = .ok (.iload_n 2, 1) := by decide +kernel
theorem dX3_copySkin_25 : decode cX3_copySkin 25 = .ok (.iaload, 1) := by decide +kernel
theorem dX3_copySkin_26 : decode cX3_copySkin 26 = .ok (.iastore, 1) := by decide +kernel
theorem dX3_copySkin_27 : decode cX3_copySkin 27 = .ok (.aload_n 0, 1) := by decide +kernel
theorem dX3_copySkin_28 : decode cX3_copySkin 28 = .ok (.getfield 15, 3) := by decide +kernel
theorem dX3_copySkin_31 : decode cX3_copySkin 31 = .ok (.iload_n 2, 1) := by decide +kernel
theorem dX3_copySkin_32 : decode cX3_copySkin 32 = .ok (.aload_n 1, 1) := by decide +kernel
theorem dX3_copySkin_33 : decode cX3_copySkin 33 = .ok (.getfield 15, 3) := by decide +kernel
theorem dX3_copySkin_36 : decode cX3_copySkin 36 = .ok (.iload_n 2, 1) := by decide +kernel
theorem dX3_copySkin_37 : decode cX3_copySkin 37 = .ok (.iaload, 1) := by decide +kernel
theorem dX3_copySkin_38 : decode cX3_copySkin 38 = .ok (.iastore, 1) := by decide +kernel
theorem dX3_copySkin_39 : decode cX3_copySkin 39 = .ok (.iinc 2 1, 3) := by decide +kernel
theorem dX3_copySkin_42 : decode cX3_copySkin 42 = .ok (.goto (-32), 3) := by decide +kernel
theorem dX3_copySkin_45 : decode cX3_copySkin 45 = .ok (.return_, 1) := by decide +kernel
set_option maxRecDepth 100000 in
set_option maxHeartbeats 4000000 in
theorem mX3_copySkin {w : WX} {adr : Nat → Nat → Nat} (hj : Ij adr) {o0 : Nat} (ho0 : o0 < 7) {o1 : Nat} (ho1 : o1 < 7) (S : St) : ∀ (l : Launch) (r : Int32) (S2 : St), fX3_copySkin o0 o1 S = some (r, S2) → Mv l w adr yX3_copySkin cX3_copySkin 3 none 0 0 [.ref (adr 11 o0), .ref (adr 11 o1)] S S2 := by
  refine mv_of (lv := [(0, .ref (adr 11 o0)), (1, .ref (adr 11 o1))]) hj (plainFor_of_name (by decide +kernel)) rfl (Nat.le_of_ble_eq_true rfl) (fun k C Rr => ?_)
  have C : Cx w adr k cX3_copySkin RX3 3 0 0 := C
  refine ge_aload_n (n := 1) C 0 rfl dX3_copySkin_0 rfl rfl ?_
  refine ge_aload_n (n := 2) C 1 rfl dX3_copySkin_1 rfl rfl ?_
  refine gt_X3_23 (n := 5) C ho1 dX3_copySkin_2 rfl ?_
  refine pt_X3_23 (n := 8) C ho0 dX3_copySkin_5 rfl (fun S_5 => ?_)
  refine ge_iconst (v := 0) (n := 9) C dX3_copySkin_8 (by decide) rfl ?_
  refine ge_istore_n (n := 10) (lv2 := [(2, .int (0 : Int32)), (0, .ref (adr 11 o0)), (1, .ref (adr 11 o1))]) C dX3_copySkin_9 rfl rfl (by decide) rfl ?_
  refine ge_jn (fun (jj : St → Op) => ∀ (S_45 : St), Ge w adr k 45 [] [] S_45 (jj S_45)) (fun S_45 => ?_) (fun kk10 hkk10 => ?_)
  · exact ge_vret C Rr dX3_copySkin_45
  refine ge_lop (fun (jj : Int32 → St → Op) => ∀ (x2_10 : Int32) (S_10 : St), Ge w adr k 10 [(2, .int x2_10), (0, .ref (adr 11 o0)), (1, .ref (adr 11 o1))] [] S_10 (jj x2_10 S_10)) (fun _ _ => ge_none) (fun ag10 hag10 x2_10 S_10 => ?_) FU (0 : Int32) S_5
  refine ge_iload_n (n := 11) C 0 rfl dX3_copySkin_10 rfl rfl ?_
  refine ge_iconst (v := 5) (n := 12) C dX3_copySkin_11 (by decide) rfl ?_
  refine ge_icmp_ge (t := 45) (n := 15) C dX3_copySkin_12 (by decide) rfl (fun h_12 => ?_) (fun h_12 => ?_)
  · refine ge_sub [] rfl ?_
    exact hkk10 S_10
  · refine ge_aload_n (n := 16) C 1 rfl dX3_copySkin_15 rfl rfl ?_
    refine gt_X3_9 (n := 19) C ho0 dX3_copySkin_16 rfl ?_
    refine ge_iload_n (n := 20) C 0 rfl dX3_copySkin_19 rfl rfl ?_
    refine ge_aload_n (n := 21) C 2 rfl dX3_copySkin_20 rfl rfl ?_
    refine gt_X3_9 (n := 24) C ho1 dX3_copySkin_21 rfl ?_
    refine ge_iload_n (n := 25) C 0 rfl dX3_copySkin_24 rfl rfl ?_
    refine al_12 (n := 26) C ho1 dX3_copySkin_25 rfl ?_
    refine as_12 (n := 27) C ho0 dX3_copySkin_26 rfl (fun S_26 => ?_)
    refine ge_aload_n (n := 28) C 1 rfl dX3_copySkin_27 rfl rfl ?_
    refine gt_X3_15 (n := 31) C ho0 dX3_copySkin_28 rfl ?_
    refine ge_iload_n (n := 32) C 0 rfl dX3_copySkin_31 rfl rfl ?_
    refine ge_aload_n (n := 33) C 2 rfl dX3_copySkin_32 rfl rfl ?_
    refine gt_X3_15 (n := 36) C ho1 dX3_copySkin_33 rfl ?_
    refine ge_iload_n (n := 37) C 0 rfl dX3_copySkin_36 rfl rfl ?_
    refine al_13 (n := 38) C ho1 dX3_copySkin_37 rfl ?_
    refine as_13 (n := 39) C ho0 dX3_copySkin_38 rfl (fun S_38 => ?_)
    refine ge_iinc (n := 42) (v := (x2_10 + (1 : Int32))) (lv2 := [(2, .int (x2_10 + (1 : Int32))), (0, .ref (adr 11 o0)), (1, .ref (adr 11 o1))]) C 0 rfl dX3_copySkin_39 rfl rfl (by decide) rfl ?_
    refine ge_goto (n := 10) C dX3_copySkin_42 (by decide) ?_
    exact hag10 (x2_10 + (1 : Int32)) S_38
theorem dX3_thicken_0 : decode cX3_thicken 0 = .ok (.aload_n 0, 1) := by decide +kernel
theorem dX3_thicken_1 : decode cX3_thicken 1 = .ok (.getfield 15, 3) := by decide +kernel
theorem dX3_thicken_4 : decode cX3_thicken 4 = .ok (.iload_n 1, 1) := by decide +kernel
theorem dX3_thicken_5 : decode cX3_thicken 5 = .ok (.bipush 99, 2) := by decide +kernel
theorem dX3_thicken_7 : decode cX3_thicken 7 = .ok (.aload_n 0, 1) := by decide +kernel
theorem dX3_thicken_8 : decode cX3_thicken 8 = .ok (.getfield 15, 3) := by decide +kernel
theorem dX3_thicken_11 : decode cX3_thicken 11 = .ok (.iload_n 1, 1) := by decide +kernel
theorem dX3_thicken_12 : decode cX3_thicken 12 = .ok (.iaload, 1) := by decide +kernel
theorem dX3_thicken_13 : decode cX3_thicken 13 = .ok (.iload_n 2, 1) := by decide +kernel
theorem dX3_thicken_14 : decode cX3_thicken 14 = .ok (.iadd, 1) := by decide +kernel
theorem dX3_thicken_15 : decode cX3_thicken 15 = .ok (.invokestatic 52, 3) := by decide +kernel
theorem dX3_thicken_18 : decode cX3_thicken 18 = .ok (.iastore, 1) := by decide +kernel
theorem dX3_thicken_19 : decode cX3_thicken 19 = .ok (.return_, 1) := by decide +kernel
set_option maxRecDepth 100000 in
set_option maxHeartbeats 4000000 in
theorem mX3_thicken {w : WX} {adr : Nat → Nat → Nat} (hj : Ij adr) {o0 : Nat} (ho0 : o0 < 7) (a1 : Int32) (a2 : Int32) (S : St) : ∀ (l : Launch) (r : Int32) (S2 : St), fX3_thicken o0 a1 a2 S = some (r, S2) → Mv l w adr yX3_thicken cX3_thicken 3 none 1 21 [.ref (adr 11 o0), .int a1, .int a2] S S2 := by
  refine mv_of (lv := [(0, .ref (adr 11 o0)), (1, .int a1), (2, .int a2)]) hj (plainFor_of_name (by decide +kernel)) rfl (Nat.le_of_ble_eq_true rfl) (fun k C Rr => ?_)
  have C : Cx w adr k cX3_thicken RX3 3 1 21 := C
  refine ge_aload_n (n := 1) C 0 rfl dX3_thicken_0 rfl rfl ?_
  refine gt_X3_15 (n := 4) C ho0 dX3_thicken_1 rfl ?_
  refine ge_iload_n (n := 5) C 1 rfl dX3_thicken_4 rfl rfl ?_
  refine ge_bipush (v := 99) (n := 7) C dX3_thicken_5 (by decide) rfl ?_
  refine ge_aload_n (n := 8) C 0 rfl dX3_thicken_7 rfl rfl ?_
  refine gt_X3_15 (n := 11) C ho0 dX3_thicken_8 rfl ?_
  refine ge_iload_n (n := 12) C 1 rfl dX3_thicken_11 rfl rfl ?_
  refine al_13 (n := 13) C ho0 dX3_thicken_12 rfl ?_
  refine ge_iload_n (n := 14) C 2 rfl dX3_thicken_13 rfl rfl ?_
  refine ge_iadd (n := 15) C dX3_thicken_14 rfl ?_
  refine ge_mmin (n := 18) C ml_X3_52 (by decide) (Nat.le_of_ble_eq_true rfl) dX3_thicken_15 rfl ?_
  refine as_13 (n := 19) C ho0 dX3_thicken_18 rfl (fun S_18 => ?_)
  exact ge_vret C Rr dX3_thicken_19
theorem dX3_thickenAll_0 : decode cX3_thickenAll 0 = .ok (.iconst 0, 1) := by decide +kernel
theorem dX3_thickenAll_1 : decode cX3_thickenAll 1 = .ok (.istore_n 3, 1) := by decide +kernel
theorem dX3_thickenAll_2 : decode cX3_thickenAll 2 = .ok (.iload_n 3, 1) := by decide +kernel
theorem dX3_thickenAll_3 : decode cX3_thickenAll 3 = .ok (.iconst 5, 1) := by decide +kernel
theorem dX3_thickenAll_4 : decode cX3_thickenAll 4 = .ok (.if_icmp .ge 20, 3) := by decide +kernel
theorem dX3_thickenAll_7 : decode cX3_thickenAll 7 = .ok (.iload_n 3, 1) := by decide +kernel
theorem dX3_thickenAll_8 : decode cX3_thickenAll 8 = .ok (.iload_n 2, 1) := by decide +kernel
theorem dX3_thickenAll_9 : decode cX3_thickenAll 9 = .ok (.if_icmp .eq 9, 3) := by decide +kernel
theorem dX3_thickenAll_12 : decode cX3_thickenAll 12 = .ok (.aload_n 0, 1) := by decide +kernel
theorem dX3_thickenAll_13 : decode cX3_thickenAll 13 = .ok (.iload_n 3, 1) := by decide +kernel
theorem dX3_thickenAll_14 : decode cX3_thickenAll 14 = .ok (.iload_n 1, 1) := by decide +kernel
theorem dX3_thickenAll_15 : decode cX3_thickenAll 15 = .ok (.invokevirtual 45, 3) := by decide +kernel
theorem dX3_thickenAll_18 : decode cX3_thickenAll 18 = .ok (.iinc 3 1, 3) := by decide +kernel
theorem dX3_thickenAll_21 : decode cX3_thickenAll 21 = .ok (.goto (-19), 3) := by decide +kernel
theorem dX3_thickenAll_24 : decode cX3_thickenAll 24 = .ok (.return_, 1) := by decide +kernel
set_option maxRecDepth 100000 in
set_option maxHeartbeats 4000000 in
theorem mX3_thickenAll {w : WX} {adr : Nat → Nat → Nat} (hj : Ij adr) {o0 : Nat} (ho0 : o0 < 7) (a1 : Int32) (a2 : Int32) (S : St) : ∀ (l : Launch) (r : Int32) (S2 : St), fX3_thickenAll o0 a1 a2 S = some (r, S2) → Mv l w adr yX3_thickenAll cX3_thickenAll 4 none 2 43 [.ref (adr 11 o0), .int a1, .int a2] S S2 := by
  refine mv_of (lv := [(0, .ref (adr 11 o0)), (1, .int a1), (2, .int a2)]) hj (plainFor_of_name (by decide +kernel)) rfl (Nat.le_of_ble_eq_true rfl) (fun k C Rr => ?_)
  have C : Cx w adr k cX3_thickenAll RX3 4 2 43 := C
  refine ge_iconst (v := 0) (n := 1) C dX3_thickenAll_0 (by decide) rfl ?_
  refine ge_istore_n (n := 2) (lv2 := [(3, .int (0 : Int32)), (0, .ref (adr 11 o0)), (1, .int a1), (2, .int a2)]) C dX3_thickenAll_1 rfl rfl (by decide) rfl ?_
  refine ge_jn (fun (jj : St → Op) => ∀ (S_24 : St), Ge w adr k 24 [] [] S_24 (jj S_24)) (fun S_24 => ?_) (fun kk2 hkk2 => ?_)
  · exact ge_vret C Rr dX3_thickenAll_24
  refine ge_lop (fun (jj : Int32 → St → Op) => ∀ (x3_2 : Int32) (S_2 : St), Ge w adr k 2 [(3, .int x3_2), (0, .ref (adr 11 o0)), (1, .int a1), (2, .int a2)] [] S_2 (jj x3_2 S_2)) (fun _ _ => ge_none) (fun ag2 hag2 x3_2 S_2 => ?_) FU (0 : Int32) S
  refine ge_iload_n (n := 3) C 0 rfl dX3_thickenAll_2 rfl rfl ?_
  refine ge_iconst (v := 5) (n := 4) C dX3_thickenAll_3 (by decide) rfl ?_
  refine ge_icmp_ge (t := 24) (n := 7) C dX3_thickenAll_4 (by decide) rfl (fun h_4 => ?_) (fun h_4 => ?_)
  · refine ge_sub [] rfl ?_
    exact hkk2 S_2
  · refine ge_iload_n (n := 8) C 0 rfl dX3_thickenAll_7 rfl rfl ?_
    refine ge_iload_n (n := 9) C 3 rfl dX3_thickenAll_8 rfl rfl ?_
    refine ge_icmp_eq (t := 18) (n := 12) C dX3_thickenAll_9 (by decide) rfl (fun h_9 => ?_) (fun h_9 => ?_)
    · refine ge_iinc (n := 21) (v := (x3_2 + (1 : Int32))) (lv2 := [(3, .int (x3_2 + (1 : Int32))), (0, .ref (adr 11 o0)), (1, .int a1), (2, .int a2)]) C 0 rfl dX3_thickenAll_18 rfl rfl (by decide) rfl ?_
      refine ge_goto (n := 2) C dX3_thickenAll_21 (by decide) ?_
      exact hag2 (x3_2 + (1 : Int32)) S_2
    · refine ge_aload_n (n := 13) C 1 rfl dX3_thickenAll_12 rfl rfl ?_
      refine ge_iload_n (n := 14) C 0 rfl dX3_thickenAll_13 rfl rfl ?_
      refine ge_iload_n (n := 15) C 2 rfl dX3_thickenAll_14 rfl rfl ?_
      refine ge_callVv (n := 18) C (mX3_thicken hj (o0 := o0) ho0 x3_2 a1 S_2) gv_X3_45 (cl_11 ho0) rfl rfl hc_X3_thicken ⟨Nat.le_of_ble_eq_true rfl, Nat.le_of_ble_eq_true rfl⟩ rfl rfl (Nat.le_of_ble_eq_true rfl) dX3_thickenAll_15 rfl (fun _ S_15 => ?_)
      refine ge_iinc (n := 21) (v := (x3_2 + (1 : Int32))) (lv2 := [(3, .int (x3_2 + (1 : Int32))), (0, .ref (adr 11 o0)), (1, .int a1), (2, .int a2)]) C 0 rfl dX3_thickenAll_18 rfl rfl (by decide) rfl ?_
      refine ge_goto (n := 2) C dX3_thickenAll_21 (by decide) ?_
      exact hag2 (x3_2 + (1 : Int32)) S_15
theorem dJ9_floorMod_7cf53_0 : decode cJ9_floorMod_7cf53 0 = .ok (.iload_n 0, 1) := by decide +kernel
theorem dJ9_floorMod_7cf53_1 : decode cJ9_floorMod_7cf53 1 = .ok (.iload_n 1, 1) := by decide +kernel
theorem dJ9_floorMod_7cf53_2 : decode cJ9_floorMod_7cf53 2 = .ok (.irem, 1) := by decide +kernel
theorem dJ9_floorMod_7cf53_3 : decode cJ9_floorMod_7cf53 3 = .ok (.istore_n 2, 1) := by decide +kernel
theorem dJ9_floorMod_7cf53_4 : decode cJ9_floorMod_7cf53 4 = .ok (.iload_n 0, 1) := by decide +kernel
theorem dJ9_floorMod_7cf53_5 : decode cJ9_floorMod_7cf53 5 = .ok (.iload_n 1, 1) := by decide +kernel
theorem dJ9_floorMod_7cf53_6 : decode cJ9_floorMod_7cf53 6 = .ok (.ixor, 1) := by decide +kernel
theorem dJ9_floorMod_7cf53_7 : decode cJ9_floorMod_7cf53 7 = .ok (.ifCond .ge 11, 3) := by decide +kernel
theorem dJ9_floorMod_7cf53_10 : decode cJ9_floorMod_7cf53 10 = .ok (.iload_n 2, 1) := by decide +kernel
theorem dJ9_floorMod_7cf53_11 : decode cJ9_floorMod_7cf53 11 = .ok (.ifCond .eq 7, 3) := by decide +kernel
theorem dJ9_floorMod_7cf53_14 : decode cJ9_floorMod_7cf53 14 = .ok (.iload_n 2, 1) := by decide +kernel
theorem dJ9_floorMod_7cf53_15 : decode cJ9_floorMod_7cf53 15 = .ok (.iload_n 1, 1) := by decide +kernel
theorem dJ9_floorMod_7cf53_16 : decode cJ9_floorMod_7cf53 16 = .ok (.iadd, 1) := by decide +kernel
theorem dJ9_floorMod_7cf53_17 : decode cJ9_floorMod_7cf53 17 = .ok (.ireturn, 1) := by decide +kernel
theorem dJ9_floorMod_7cf53_18 : decode cJ9_floorMod_7cf53 18 = .ok (.iload_n 2, 1) := by decide +kernel
theorem dJ9_floorMod_7cf53_19 : decode cJ9_floorMod_7cf53 19 = .ok (.ireturn, 1) := by decide +kernel
set_option maxRecDepth 100000 in
set_option maxHeartbeats 4000000 in
theorem mJ9_floorMod_7cf53 {w : WX} {adr : Nat → Nat → Nat} (hj : Ij adr) (a0 : Int32) (a1 : Int32) (S : St) : ∀ (l : Launch) (r : Int32) (S2 : St), fJ9_floorMod_7cf53 a0 a1 S = some (r, S2) → Mi l w adr yJ9_floorMod_7cf53 cJ9_floorMod_7cf53 3 (some .int) 0 0 [.int a0, .int a1] S r S2 := by
  refine mi_of (lv := [(0, .int a0), (1, .int a1)]) hj (by decide +kernel) rfl (Nat.le_of_ble_eq_true rfl) (fun k C Rr => ?_)
  have C : Cx w adr k cJ9_floorMod_7cf53 RJ9 3 0 0 := C
  refine ge_iload_n (n := 1) C 0 rfl dJ9_floorMod_7cf53_0 rfl rfl ?_
  refine ge_iload_n (n := 2) C 1 rfl dJ9_floorMod_7cf53_1 rfl rfl ?_
  refine ge_irem (n := 3) C dJ9_floorMod_7cf53_2 rfl (fun _ => ?_)
  refine ge_bi (fun x2_3 => ?_)
  refine ge_istore_n (n := 4) (lv2 := [(2, .int x2_3), (0, .int a0), (1, .int a1)]) C dJ9_floorMod_7cf53_3 rfl rfl (by decide) rfl ?_
  refine ge_iload_n (n := 5) C 1 rfl dJ9_floorMod_7cf53_4 rfl rfl ?_
  refine ge_iload_n (n := 6) C 2 rfl dJ9_floorMod_7cf53_5 rfl rfl ?_
  refine ge_ixor (n := 7) C dJ9_floorMod_7cf53_6 rfl ?_
  refine ge_if_ge (t := 18) (n := 10) C dJ9_floorMod_7cf53_7 (by decide) rfl (fun h_7 => ?_) (fun h_7 => ?_)
  · refine ge_iload_n (n := 19) C 0 rfl dJ9_floorMod_7cf53_18 rfl rfl ?_
    exact ge_iret C Rr dJ9_floorMod_7cf53_19
  · refine ge_iload_n (n := 11) C 0 rfl dJ9_floorMod_7cf53_10 rfl rfl ?_
    refine ge_if_eq (t := 18) (n := 14) C dJ9_floorMod_7cf53_11 (by decide) rfl (fun h_11 => ?_) (fun h_11 => ?_)
    · refine ge_iload_n (n := 19) C 0 rfl dJ9_floorMod_7cf53_18 rfl rfl ?_
      exact ge_iret C Rr dJ9_floorMod_7cf53_19
    · refine ge_iload_n (n := 15) C 0 rfl dJ9_floorMod_7cf53_14 rfl rfl ?_
      refine ge_iload_n (n := 16) C 2 rfl dJ9_floorMod_7cf53_15 rfl rfl ?_
      refine ge_iadd (n := 17) C dJ9_floorMod_7cf53_16 rfl ?_
      exact ge_iret C Rr dJ9_floorMod_7cf53_17
theorem dX3_thinnestPlace_0 : decode cX3_thinnestPlace 0 = .ok (.iconst 0, 1) := by decide +kernel
theorem dX3_thinnestPlace_1 : decode cX3_thinnestPlace 1 = .ok (.istore_n 1, 1) := by decide +kernel
theorem dX3_thinnestPlace_2 : decode cX3_thinnestPlace 2 = .ok (.iconst 1, 1) := by decide +kernel
theorem dX3_thinnestPlace_3 : decode cX3_thinnestPlace 3 = .ok (.istore_n 2, 1) := by decide +kernel
theorem dX3_thinnestPlace_4 : decode cX3_thinnestPlace 4 = .ok (.iload_n 2, 1) := by decide +kernel
theorem dX3_thinnestPlace_5 : decode cX3_thinnestPlace 5 = .ok (.iconst 5, 1) := by decide +kernel
theorem dX3_thinnestPlace_6 : decode cX3_thinnestPlace 6 = .ok (.if_icmp .ge 26, 3) := by decide +kernel
theorem dX3_thinnestPlace_9 : decode cX3_thinnestPlace 9 = .ok (.aload_n 0, 1) := by decide +kernel
theorem dX3_thinnestPlace_10 : decode cX3_thinnestPlace 10 = .ok (.getfield 15, 3) := by decide +kernel
theorem dX3_thinnestPlace_13 : decode cX3_thinnestPlace 13 = .ok (.iload_n 2, 1) := by decide +kernel
theorem dX3_thinnestPlace_14 : decode cX3_thinnestPlace 14 = .ok (.iaload, 1) := by decide +kernel
theorem dX3_thinnestPlace_15 : decode cX3_thinnestPlace 15 = .ok (.aload_n 0, 1) := by decide +kernel
theorem dX3_thinnestPlace_16 : decode cX3_thinnestPlace 16 = .ok (.getfield 15, 3) := by decide +kernel
theorem dX3_thinnestPlace_19 : decode cX3_thinnestPlace 19 = .ok (.iload_n 1, 1) := by decide +kernel
theorem dX3_thinnestPlace_20 : decode cX3_thinnestPlace 20 = .ok (.iaload, 1) := by decide +kernel
theorem dX3_thinnestPlace_21 : decode cX3_thinnestPlace 21 = .ok (.if_icmp .ge 5, 3) := by decide +kernel
theorem dX3_thinnestPlace_24 : decode cX3_thinnestPlace 24 = .ok (.iload_n 2, 1) := by decide +kernel
theorem dX3_thinnestPlace_25 : decode cX3_thinnestPlace 25 = .ok (.istore_n 1, 1) := by decide +kernel
theorem dX3_thinnestPlace_26 : decode cX3_thinnestPlace 26 = .ok (.iinc 2 1, 3) := by decide +kernel
theorem dX3_thinnestPlace_29 : decode cX3_thinnestPlace 29 = .ok (.goto (-25), 3) := by decide +kernel
theorem dX3_thinnestPlace_32 : decode cX3_thinnestPlace 32 = .ok (.iload_n 1, 1) := by decide +kernel
theorem dX3_thinnestPlace_33 : decode cX3_thinnestPlace 33 = .ok (.ireturn, 1) := by decide +kernel
set_option maxRecDepth 100000 in
set_option maxHeartbeats 4000000 in
theorem mX3_thinnestPlace {w : WX} {adr : Nat → Nat → Nat} (hj : Ij adr) {o0 : Nat} (ho0 : o0 < 7) (S : St) : ∀ (l : Launch) (r : Int32) (S2 : St), fX3_thinnestPlace o0 S = some (r, S2) → Mi l w adr yX3_thinnestPlace cX3_thinnestPlace 3 (some .int) 0 0 [.ref (adr 11 o0)] S r S2 := by
  refine mi_of (lv := [(0, .ref (adr 11 o0))]) hj (plainFor_of_name (by decide +kernel)) rfl (Nat.le_of_ble_eq_true rfl) (fun k C Rr => ?_)
  have C : Cx w adr k cX3_thinnestPlace RX3 3 0 0 := C
  refine ge_iconst (v := 0) (n := 1) C dX3_thinnestPlace_0 (by decide) rfl ?_
  refine ge_istore_n (n := 2) (lv2 := [(1, .int (0 : Int32)), (0, .ref (adr 11 o0))]) C dX3_thinnestPlace_1 rfl rfl (by decide) rfl ?_
  refine ge_iconst (v := 1) (n := 3) C dX3_thinnestPlace_2 (by decide) rfl ?_
  refine ge_istore_n (n := 4) (lv2 := [(2, .int (1 : Int32)), (1, .int (0 : Int32)), (0, .ref (adr 11 o0))]) C dX3_thinnestPlace_3 rfl rfl (by decide) rfl ?_
  refine ge_jn (fun (jj : Int32 → Op) => ∀ (x1_32 : Int32), Ge w adr k 32 [(1, .int x1_32)] [] S (jj x1_32)) (fun x1_32 => ?_) (fun kk4 hkk4 => ?_)
  · refine ge_iload_n (n := 33) C 0 rfl dX3_thinnestPlace_32 rfl rfl ?_
    exact ge_iret C Rr dX3_thinnestPlace_33
  refine ge_lop (fun (jj : Int32 → Int32 → Op) => ∀ (x2_4 : Int32) (x1_4 : Int32), Ge w adr k 4 [(2, .int x2_4), (1, .int x1_4), (0, .ref (adr 11 o0))] [] S (jj x2_4 x1_4)) (fun _ _ => ge_none) (fun ag4 hag4 x2_4 x1_4 => ?_) FU (1 : Int32) (0 : Int32)
  refine ge_iload_n (n := 5) C 0 rfl dX3_thinnestPlace_4 rfl rfl ?_
  refine ge_iconst (v := 5) (n := 6) C dX3_thinnestPlace_5 (by decide) rfl ?_
  refine ge_icmp_ge (t := 32) (n := 9) C dX3_thinnestPlace_6 (by decide) rfl (fun h_6 => ?_) (fun h_6 => ?_)
  · refine ge_sub [1] rfl ?_
    exact hkk4 x1_4
  · refine ge_aload_n (n := 10) C 2 rfl dX3_thinnestPlace_9 rfl rfl ?_
    refine gt_X3_15 (n := 13) C ho0 dX3_thinnestPlace_10 rfl ?_
    refine ge_iload_n (n := 14) C 0 rfl dX3_thinnestPlace_13 rfl rfl ?_
    refine al_13 (n := 15) C ho0 dX3_thinnestPlace_14 rfl ?_
    refine ge_aload_n (n := 16) C 2 rfl dX3_thinnestPlace_15 rfl rfl ?_
    refine gt_X3_15 (n := 19) C ho0 dX3_thinnestPlace_16 rfl ?_
    refine ge_iload_n (n := 20) C 1 rfl dX3_thinnestPlace_19 rfl rfl ?_
    refine al_13 (n := 21) C ho0 dX3_thinnestPlace_20 rfl ?_
    refine ge_icmp_ge (t := 26) (n := 24) C dX3_thinnestPlace_21 (by decide) rfl (fun h_21 => ?_) (fun h_21 => ?_)
    · refine ge_iinc (n := 29) (v := (x2_4 + (1 : Int32))) (lv2 := [(2, .int (x2_4 + (1 : Int32))), (1, .int x1_4), (0, .ref (adr 11 o0))]) C 0 rfl dX3_thinnestPlace_26 rfl rfl (by decide) rfl ?_
      refine ge_goto (n := 4) C dX3_thinnestPlace_29 (by decide) ?_
      exact hag4 (x2_4 + (1 : Int32)) x1_4
    · refine ge_iload_n (n := 25) C 0 rfl dX3_thinnestPlace_24 rfl rfl ?_
      refine ge_istore_n (n := 26) (lv2 := [(1, .int x2_4), (2, .int x2_4), (0, .ref (adr 11 o0))]) C dX3_thinnestPlace_25 rfl rfl (by decide) rfl ?_
      refine ge_iinc (n := 29) (v := (x2_4 + (1 : Int32))) (lv2 := [(2, .int (x2_4 + (1 : Int32))), (1, .int x2_4), (0, .ref (adr 11 o0))]) C 1 rfl dX3_thinnestPlace_26 rfl rfl (by decide) rfl ?_
      refine ge_goto (n := 4) C dX3_thinnestPlace_29 (by decide) ?_
      exact hag4 (x2_4 + (1 : Int32)) x2_4
theorem dX3_tan_0 : decode cX3_tan 0 = .ok (.aload_n 0, 1) := by decide +kernel
theorem dX3_tan_1 : decode cX3_tan 1 = .ok (.getfield 23, 3) := by decide +kernel
theorem dX3_tan_4 : decode cX3_tan 4 = .ok (.ifCond .ne 12, 3) := by decide +kernel
theorem dX3_tan_7 : decode cX3_tan 7 = .ok (.aload_n 0, 1) := by decide +kernel
theorem dX3_tan_8 : decode cX3_tan 8 = .ok (.iload_n 1, 1) := by decide +kernel
theorem dX3_tan_9 : decode cX3_tan 9 = .ok (.iconst (-1), 1) := by decide +kernel
theorem dX3_tan_10 : decode cX3_tan 10 = .ok (.invokevirtual 35, 3) := by decide +kernel
theorem dX3_tan_13 : decode cX3_tan 13 = .ok (.goto 56, 3) := by decide +kernel
theorem dX3_tan_16 : decode cX3_tan 16 = .ok (.aload_n 0, 1) := by decide +kernel
theorem dX3_tan_17 : decode cX3_tan 17 = .ok (.getfield 23, 3) := by decide +kernel
theorem dX3_tan_20 : decode cX3_tan 20 = .ok (.iconst 1, 1) := by decide +kernel
theorem dX3_tan_21 : decode cX3_tan 21 = .ok (.if_icmp .ne 16, 3) := by decide +kernel
theorem dX3_tan_24 : decode cX3_tan 24 = .ok (.aload_n 0, 1) := by decide +kernel
theorem dX3_tan_25 : decode cX3_tan 25 = .ok (.iload_n 1, 1) := by decide +kernel
theorem dX3_tan_26 : decode cX3_tan 26 = .ok (.iconst 2, 1) := by decide +kernel
theorem dX3_tan_27 : decode cX3_tan 27 = .ok (.idiv, 1) := by decide +kernel
theorem dX3_tan_28 : decode cX3_tan 28 = .ok (.iconst 1, 1) := by decide +kernel
theorem dX3_tan_29 : decode cX3_tan 29 = .ok (.iadd, 1) := by decide +kernel
theorem dX3_tan_30 : decode cX3_tan 30 = .ok (.iconst 2, 1) := by decide +kernel
theorem dX3_tan_31 : decode cX3_tan 31 = .ok (.invokevirtual 35, 3) := by decide +kernel
theorem dX3_tan_34 : decode cX3_tan 34 = .ok (.goto 35, 3) := by decide +kernel
theorem dX3_tan_37 : decode cX3_tan 37 = .ok (.aload_n 0, 1) := by decide +kernel
theorem dX3_tan_38 : decode cX3_tan 38 = .ok (.getfield 23, 3) := by decide +kernel
theorem dX3_tan_41 : decode cX3_tan 41 = .ok (.iconst 2, 1) := by decide +kernel
theorem dX3_tan_42 : decode cX3_tan 42 = .ok (.if_icmp .ne 16, 3) := by decide +kernel
theorem dX3_tan_45 : decode cX3_tan 45 = .ok (.aload_n 0, 1) := by decide +kernel
theorem dX3_tan_46 : decode cX3_tan 46 = .ok (.iload_n 2, 1) := by decide +kernel
theorem dX3_tan_47 : decode cX3_tan 47 = .ok (.iconst 5, 1) := by decide +kernel
theorem dX3_tan_48 : decode cX3_tan 48 = .ok (.invokestatic 39, 3) := by decide +kernel
theorem dX3_tan_51 : decode cX3_tan 51 = .ok (.iconst 1, 1) := by decide +kernel
theorem dX3_tan_52 : decode cX3_tan 52 = .ok (.invokevirtual 45, 3) := by decide +kernel
theorem dX3_tan_55 : decode cX3_tan 55 = .ok (.goto 14, 3) := by decide +kernel
theorem dX3_tan_58 : decode cX3_tan 58 = .ok (.aload_n 0, 1) := by decide +kernel
theorem dX3_tan_59 : decode cX3_tan 59 = .ok (.aload_n 0, 1) := by decide +kernel
theorem dX3_tan_60 : decode cX3_tan 60 = .ok (.invokevirtual 48, 3) := by decide +kernel
theorem dX3_tan_63 : decode cX3_tan 63 = .ok (.iconst 3, 1) := by decide +kernel
theorem dX3_tan_64 : decode cX3_tan 64 = .ok (.iload_n 1, 1) := by decide +kernel
theorem dX3_tan_65 : decode cX3_tan 65 = .ok (.imul, 1) := by decide +kernel
theorem dX3_tan_66 : decode cX3_tan 66 = .ok (.invokevirtual 45, 3) := by decide +kernel
theorem dX3_tan_69 : decode cX3_tan 69 = .ok (.return_, 1) := by decide +kernel
set_option maxRecDepth 100000 in
set_option maxHeartbeats 4000000 in
theorem mX3_tan {w : WX} {adr : Nat → Nat → Nat} (hj : Ij adr) {o0 : Nat} (ho0 : o0 < 7) (a1 : Int32) (a2 : Int32) (S : St) : ∀ (l : Launch) (r : Int32) (S2 : St), fX3_tan o0 a1 a2 S = some (r, S2) → Mv l w adr yX3_tan cX3_tan 3 none 3 66 [.ref (adr 11 o0), .int a1, .int a2] S S2 := by
  refine mv_of (lv := [(0, .ref (adr 11 o0)), (1, .int a1), (2, .int a2)]) hj (plainFor_of_name (by decide +kernel)) rfl (Nat.le_of_ble_eq_true rfl) (fun k C Rr => ?_)
  have C : Cx w adr k cX3_tan RX3 3 3 66 := C
  refine ge_aload_n (n := 1) C 0 rfl dX3_tan_0 rfl rfl ?_
  refine gt_X3_23 (n := 4) C ho0 dX3_tan_1 rfl ?_
  refine ge_if_ne (t := 16) (n := 7) C dX3_tan_4 (by decide) rfl (fun h_4 => ?_) (fun h_4 => ?_)
  · refine ge_aload_n (n := 17) C 0 rfl dX3_tan_16 rfl rfl ?_
    refine gt_X3_23 (n := 20) C ho0 dX3_tan_17 rfl ?_
    refine ge_iconst (v := 1) (n := 21) C dX3_tan_20 (by decide) rfl ?_
    refine ge_icmp_ne (t := 37) (n := 24) C dX3_tan_21 (by decide) rfl (fun h_21 => ?_) (fun h_21 => ?_)
    · refine ge_aload_n (n := 38) C 0 rfl dX3_tan_37 rfl rfl ?_
      refine gt_X3_23 (n := 41) C ho0 dX3_tan_38 rfl ?_
      refine ge_iconst (v := 2) (n := 42) C dX3_tan_41 (by decide) rfl ?_
      refine ge_icmp_ne (t := 58) (n := 45) C dX3_tan_42 (by decide) rfl (fun h_42 => ?_) (fun h_42 => ?_)
      · refine ge_aload_n (n := 59) C 0 rfl dX3_tan_58 rfl rfl ?_
        refine ge_aload_n (n := 60) C 0 rfl dX3_tan_59 rfl rfl ?_
        refine ge_callVi (n := 63) C (mX3_thinnestPlace hj (o0 := o0) ho0 S) gv_X3_48 (cl_11 ho0) rfl rfl hc_X3_thinnestPlace ⟨Nat.le_of_ble_eq_true rfl, Nat.le_of_ble_eq_true rfl⟩ rfl rfl (Nat.le_of_ble_eq_true rfl) dX3_tan_60 rfl (fun r_60 S_60 => ?_)
        refine ge_iconst (v := 3) (n := 64) C dX3_tan_63 (by decide) rfl ?_
        refine ge_iload_n (n := 65) C 1 rfl dX3_tan_64 rfl rfl ?_
        refine ge_imul (n := 66) C dX3_tan_65 rfl ?_
        refine ge_callVv (n := 69) C (mX3_thicken hj (o0 := o0) ho0 r_60 ((3 : Int32) * a1) S_60) gv_X3_45 (cl_11 ho0) rfl rfl hc_X3_thicken ⟨Nat.le_of_ble_eq_true rfl, Nat.le_of_ble_eq_true rfl⟩ rfl rfl (Nat.le_of_ble_eq_true rfl) dX3_tan_66 rfl (fun _ S_66 => ?_)
        exact ge_vret C Rr dX3_tan_69
      · refine ge_aload_n (n := 46) C 0 rfl dX3_tan_45 rfl rfl ?_
        refine ge_iload_n (n := 47) C 2 rfl dX3_tan_46 rfl rfl ?_
        refine ge_iconst (v := 5) (n := 48) C dX3_tan_47 (by decide) rfl ?_
        refine ge_callSi (n := 51) C (mJ9_floorMod_7cf53 hj a2 (5 : Int32) S) gv_X3_39 hc_J9_floorMod_7cf53 ⟨Nat.le_of_ble_eq_true rfl, Nat.le_of_ble_eq_true rfl⟩ rfl rfl (Nat.le_of_ble_eq_true rfl) dX3_tan_48 rfl (fun r_48 S_48 => ?_)
        refine ge_iconst (v := 1) (n := 52) C dX3_tan_51 (by decide) rfl ?_
        refine ge_callVv (n := 55) C (mX3_thicken hj (o0 := o0) ho0 r_48 (1 : Int32) S_48) gv_X3_45 (cl_11 ho0) rfl rfl hc_X3_thicken ⟨Nat.le_of_ble_eq_true rfl, Nat.le_of_ble_eq_true rfl⟩ rfl rfl (Nat.le_of_ble_eq_true rfl) dX3_tan_52 rfl (fun _ S_52 => ?_)
        refine ge_goto (n := 69) C dX3_tan_55 (by decide) ?_
        exact ge_vret C Rr dX3_tan_69
    · refine ge_aload_n (n := 25) C 0 rfl dX3_tan_24 rfl rfl ?_
      refine ge_iload_n (n := 26) C 1 rfl dX3_tan_25 rfl rfl ?_
      refine ge_iconst (v := 2) (n := 27) C dX3_tan_26 (by decide) rfl ?_
      refine ge_idiv0 (n := 28) C (by decide) dX3_tan_27 rfl ?_
      refine ge_iconst (v := 1) (n := 29) C dX3_tan_28 (by decide) rfl ?_
      refine ge_iadd (n := 30) C dX3_tan_29 rfl ?_
      refine ge_iconst (v := 2) (n := 31) C dX3_tan_30 (by decide) rfl ?_
      refine ge_callVv (n := 34) C (mX3_thickenAll hj (o0 := o0) ho0 ((a1 / (2 : Int32)) + (1 : Int32)) (2 : Int32) S) gv_X3_35 (cl_11 ho0) rfl rfl hc_X3_thickenAll ⟨Nat.le_of_ble_eq_true rfl, Nat.le_of_ble_eq_true rfl⟩ rfl rfl (Nat.le_of_ble_eq_true rfl) dX3_tan_31 rfl (fun _ S_31 => ?_)
      refine ge_goto (n := 69) C dX3_tan_34 (by decide) ?_
      exact ge_vret C Rr dX3_tan_69
  · refine ge_aload_n (n := 8) C 0 rfl dX3_tan_7 rfl rfl ?_
    refine ge_iload_n (n := 9) C 1 rfl dX3_tan_8 rfl rfl ?_
    refine ge_iconst (v := -1) (n := 10) C dX3_tan_9 (by decide) rfl ?_
    refine ge_callVv (n := 13) C (mX3_thickenAll hj (o0 := o0) ho0 a1 (-1 : Int32) S) gv_X3_35 (cl_11 ho0) rfl rfl hc_X3_thickenAll ⟨Nat.le_of_ble_eq_true rfl, Nat.le_of_ble_eq_true rfl⟩ rfl rfl (Nat.le_of_ble_eq_true rfl) dX3_tan_10 rfl (fun _ S_10 => ?_)
    refine ge_goto (n := 69) C dX3_tan_13 (by decide) ?_
    exact ge_vret C Rr dX3_tan_69
theorem dJ6_compare_7cf53_0 : decode cJ6_compare_7cf53 0 = .ok (.iload_n 0, 1) := by decide +kernel
theorem dJ6_compare_7cf53_1 : decode cJ6_compare_7cf53 1 = .ok (.iload_n 1, 1) := by decide +kernel
theorem dJ6_compare_7cf53_2 : decode cJ6_compare_7cf53 2 = .ok (.if_icmp .ge 7, 3) := by decide +kernel
theorem dJ6_compare_7cf53_5 : decode cJ6_compare_7cf53 5 = .ok (.iconst (-1), 1) := by decide +kernel
theorem dJ6_compare_7cf53_6 : decode cJ6_compare_7cf53 6 = .ok (.goto 13, 3) := by decide +kernel
theorem dJ6_compare_7cf53_9 : decode cJ6_compare_7cf53 9 = .ok (.iload_n 0, 1) := by decide +kernel
theorem dJ6_compare_7cf53_10 : decode cJ6_compare_7cf53 10 = .ok (.iload_n 1, 1) := by decide +kernel
theorem dJ6_compare_7cf53_11 : decode cJ6_compare_7cf53 11 = .ok (.if_icmp .ne 7, 3) := by decide +kernel
theorem dJ6_compare_7cf53_14 : decode cJ6_compare_7cf53 14 = .ok (.iconst 0, 1) := by decide +kernel
theorem dJ6_compare_7cf53_15 : decode cJ6_compare_7cf53 15 = .ok (.goto 4, 3) := by decide +kernel
theorem dJ6_compare_7cf53_18 : decode cJ6_compare_7cf53 18 = .ok (.iconst 1, 1) := by decide +kernel
theorem dJ6_compare_7cf53_19 : decode cJ6_compare_7cf53 19 = .ok (.ireturn, 1) := by decide +kernel
set_option maxRecDepth 100000 in
set_option maxHeartbeats 4000000 in
theorem mJ6_compare_7cf53 {w : WX} {adr : Nat → Nat → Nat} (hj : Ij adr) (a0 : Int32) (a1 : Int32) (S : St) : ∀ (l : Launch) (r : Int32) (S2 : St), fJ6_compare_7cf53 a0 a1 S = some (r, S2) → Mi l w adr yJ6_compare_7cf53 cJ6_compare_7cf53 2 (some .int) 0 0 [.int a0, .int a1] S r S2 := by
  refine mi_of (lv := [(0, .int a0), (1, .int a1)]) hj (plainFor_of_name (by decide +kernel)) rfl (Nat.le_of_ble_eq_true rfl) (fun k C Rr => ?_)
  have C : Cx w adr k cJ6_compare_7cf53 RJ6 2 0 0 := C
  refine ge_iload_n (n := 1) C 0 rfl dJ6_compare_7cf53_0 rfl rfl ?_
  refine ge_iload_n (n := 2) C 1 rfl dJ6_compare_7cf53_1 rfl rfl ?_
  refine ge_icmp_ge (t := 9) (n := 5) C dJ6_compare_7cf53_2 (by decide) rfl (fun h_2 => ?_) (fun h_2 => ?_)
  · refine ge_iload_n (n := 10) C 0 rfl dJ6_compare_7cf53_9 rfl rfl ?_
    refine ge_iload_n (n := 11) C 1 rfl dJ6_compare_7cf53_10 rfl rfl ?_
    refine ge_icmp_ne (t := 18) (n := 14) C dJ6_compare_7cf53_11 (by decide) rfl (fun h_11 => ?_) (fun h_11 => ?_)
    · refine ge_iconst (v := 1) (n := 19) C dJ6_compare_7cf53_18 (by decide) rfl ?_
      exact ge_iret C Rr dJ6_compare_7cf53_19
    · refine ge_iconst (v := 0) (n := 15) C dJ6_compare_7cf53_14 (by decide) rfl ?_
      refine ge_goto (n := 19) C dJ6_compare_7cf53_15 (by decide) ?_
      exact ge_iret C Rr dJ6_compare_7cf53_19
  · refine ge_iconst (v := -1) (n := 6) C dJ6_compare_7cf53_5 (by decide) rfl ?_
    refine ge_goto (n := 19) C dJ6_compare_7cf53_6 (by decide) ?_
    exact ge_iret C Rr dJ6_compare_7cf53_19
theorem dX3_isOver_0 : decode cX3_isOver 0 = .ok (.iconst 0, 1) := by decide +kernel
theorem dX3_isOver_1 : decode cX3_isOver 1 = .ok (.istore_n 2, 1) := by decide +kernel
theorem dX3_isOver_2 : decode cX3_isOver 2 = .ok (.iconst 0, 1) := by decide +kernel
theorem dX3_isOver_3 : decode cX3_isOver 3 = .ok (.istore_n 3, 1) := by decide +kernel
theorem dX3_isOver_4 : decode cX3_isOver 4 = .ok (.iload_n 3, 1) := by decide +kernel
theorem dX3_isOver_5 : decode cX3_isOver 5 = .ok (.iconst 5, 1) := by decide +kernel
theorem dX3_isOver_6 : decode cX3_isOver 6 = .ok (.if_icmp .ge 27, 3) := by decide +kernel
theorem dX3_isOver_9 : decode cX3_isOver 9 = .ok (.iload_n 2, 1) := by decide +kernel
theorem dX3_isOver_10 : decode cX3_isOver 10 = .ok (.aload_n 0, 1) := by decide +kernel
theorem dX3_isOver_11 : decode cX3_isOver 11 = .ok (.getfield 15, 3) := by decide +kernel
theorem dX3_isOver_14 : decode cX3_isOver 14 = .ok (.iload_n 3, 1) := by decide +kernel
theorem dX3_isOver_15 : decode cX3_isOver 15 = .ok (.iaload, 1) := by decide +kernel
theorem dX3_isOver_16 : decode cX3_isOver 16 = .ok (.aload_n 1, 1) := by decide +kernel
theorem dX3_isOver_17 : decode cX3_isOver 17 = .ok (.getfield 15, 3) := by decide +kernel
theorem dX3_isOver_20 : decode cX3_isOver 20 = .ok (.iload_n 3, 1) := by decide +kernel
theorem dX3_isOver_21 : decode cX3_isOver 21 = .ok (.iaload, 1) := by decide +kernel
theorem dX3_isOver_22 : decode cX3_isOver 22 = .ok (.invokestatic 55, 3) := by decide +kernel
theorem dX3_isOver_25 : decode cX3_isOver 25 = .ok (.iadd, 1) := by decide +kernel
theorem dX3_isOver_26 : decode cX3_isOver 26 = .ok (.istore_n 2, 1) := by decide +kernel
theorem dX3_isOver_27 : decode cX3_isOver 27 = .ok (.iinc 3 1, 3) := by decide +kernel
theorem dX3_isOver_30 : decode cX3_isOver 30 = .ok (.goto (-26), 3) := by decide +kernel
theorem dX3_isOver_33 : decode cX3_isOver 33 = .ok (.iload_n 2, 1) := by decide +kernel
theorem dX3_isOver_34 : decode cX3_isOver 34 = .ok (.ifCond .le 7, 3) := by decide +kernel
theorem dX3_isOver_37 : decode cX3_isOver 37 = .ok (.iconst 1, 1) := by decide +kernel
theorem dX3_isOver_38 : decode cX3_isOver 38 = .ok (.goto 4, 3) := by decide +kernel
theorem dX3_isOver_41 : decode cX3_isOver 41 = .ok (.iconst 0, 1) := by decide +kernel
theorem dX3_isOver_42 : decode cX3_isOver 42 = .ok (.ireturn, 1) := by decide +kernel
set_option maxRecDepth 100000 in
set_option maxHeartbeats 4000000 in
theorem mX3_isOver {w : WX} {adr : Nat → Nat → Nat} (hj : Ij adr) {o0 : Nat} (ho0 : o0 < 7) {o1 : Nat} (ho1 : o1 < 7) (S : St) : ∀ (l : Launch) (r : Int32) (S2 : St), fX3_isOver o0 o1 S = some (r, S2) → Mi l w adr yX3_isOver cX3_isOver 4 (some .boolean) 1 21 [.ref (adr 11 o0), .ref (adr 11 o1)] S r S2 := by
  refine mi_of (lv := [(0, .ref (adr 11 o0)), (1, .ref (adr 11 o1))]) hj (plainFor_of_name (by decide +kernel)) rfl (Nat.le_of_ble_eq_true rfl) (fun k C Rr => ?_)
  have C : Cx w adr k cX3_isOver RX3 4 1 21 := C
  refine ge_iconst (v := 0) (n := 1) C dX3_isOver_0 (by decide) rfl ?_
  refine ge_istore_n (n := 2) (lv2 := [(2, .int (0 : Int32)), (0, .ref (adr 11 o0)), (1, .ref (adr 11 o1))]) C dX3_isOver_1 rfl rfl (by decide) rfl ?_
  refine ge_iconst (v := 0) (n := 3) C dX3_isOver_2 (by decide) rfl ?_
  refine ge_istore_n (n := 4) (lv2 := [(3, .int (0 : Int32)), (2, .int (0 : Int32)), (0, .ref (adr 11 o0)), (1, .ref (adr 11 o1))]) C dX3_isOver_3 rfl rfl (by decide) rfl ?_
  refine ge_jn (fun (jj : Int32 → St → Op) => ∀ (x2_33 : Int32) (S_33 : St), Ge w adr k 33 [(2, .int x2_33)] [] S_33 (jj x2_33 S_33)) (fun x2_33 S_33 => ?_) (fun kk4 hkk4 => ?_)
  · refine ge_iload_n (n := 34) C 0 rfl dX3_isOver_33 rfl rfl ?_
    refine ge_if_le (t := 41) (n := 37) C dX3_isOver_34 (by decide) rfl (fun h_34 => ?_) (fun h_34 => ?_)
    · refine ge_iconst (v := 0) (n := 42) C dX3_isOver_41 (by decide) rfl ?_
      exact ge_zret C Rr (by decide) dX3_isOver_42
    · refine ge_iconst (v := 1) (n := 38) C dX3_isOver_37 (by decide) rfl ?_
      refine ge_goto (n := 42) C dX3_isOver_38 (by decide) ?_
      exact ge_zret C Rr (by decide) dX3_isOver_42
  refine ge_lop (fun (jj : Int32 → Int32 → St → Op) => ∀ (x3_4 : Int32) (x2_4 : Int32) (S_4 : St), Ge w adr k 4 [(3, .int x3_4), (2, .int x2_4), (0, .ref (adr 11 o0)), (1, .ref (adr 11 o1))] [] S_4 (jj x3_4 x2_4 S_4)) (fun _ _ _ => ge_none) (fun ag4 hag4 x3_4 x2_4 S_4 => ?_) FU (0 : Int32) (0 : Int32) S
  refine ge_iload_n (n := 5) C 0 rfl dX3_isOver_4 rfl rfl ?_
  refine ge_iconst (v := 5) (n := 6) C dX3_isOver_5 (by decide) rfl ?_
  refine ge_icmp_ge (t := 33) (n := 9) C dX3_isOver_6 (by decide) rfl (fun h_6 => ?_) (fun h_6 => ?_)
  · refine ge_sub [1] rfl ?_
    exact hkk4 x2_4 S_4
  · refine ge_iload_n (n := 10) C 1 rfl dX3_isOver_9 rfl rfl ?_
    refine ge_aload_n (n := 11) C 2 rfl dX3_isOver_10 rfl rfl ?_
    refine gt_X3_15 (n := 14) C ho0 dX3_isOver_11 rfl ?_
    refine ge_iload_n (n := 15) C 0 rfl dX3_isOver_14 rfl rfl ?_
    refine al_13 (n := 16) C ho0 dX3_isOver_15 rfl ?_
    refine ge_aload_n (n := 17) C 3 rfl dX3_isOver_16 rfl rfl ?_
    refine gt_X3_15 (n := 20) C ho1 dX3_isOver_17 rfl ?_
    refine ge_iload_n (n := 21) C 0 rfl dX3_isOver_20 rfl rfl ?_
    refine al_13 (n := 22) C ho1 dX3_isOver_21 rfl ?_
    refine ge_callSi (n := 25) C (mJ6_compare_7cf53 hj (S_4 13 o0 (Int32.toNatClampNeg x3_4)) (S_4 13 o1 (Int32.toNatClampNeg x3_4)) S_4) gv_X3_55 hc_J6_compare_7cf53 ⟨Nat.le_of_ble_eq_true rfl, Nat.le_of_ble_eq_true rfl⟩ rfl rfl (Nat.le_of_ble_eq_true rfl) dX3_isOver_22 rfl (fun r_22 S_22 => ?_)
    refine ge_iadd (n := 26) C dX3_isOver_25 rfl ?_
    refine ge_bi (fun x2_26 => ?_)
    refine ge_istore_n (n := 27) (lv2 := [(2, .int x2_26), (3, .int x3_4), (0, .ref (adr 11 o0)), (1, .ref (adr 11 o1))]) C dX3_isOver_26 rfl rfl (by decide) rfl ?_
    refine ge_iinc (n := 30) (v := (x3_4 + (1 : Int32))) (lv2 := [(3, .int (x3_4 + (1 : Int32))), (2, .int x2_26), (0, .ref (adr 11 o0)), (1, .ref (adr 11 o1))]) C 1 rfl dX3_isOver_27 rfl rfl (by decide) rfl ?_
    refine ge_goto (n := 4) C dX3_isOver_30 (by decide) ?_
    exact hag4 (x3_4 + (1 : Int32)) x2_26 S_22
theorem dX3_saveTo_0 : decode cX3_saveTo 0 = .ok (.aload_n 1, 1) := by decide +kernel
theorem dX3_saveTo_1 : decode cX3_saveTo 1 = .ok (.iload_n 2, 1) := by decide +kernel
theorem dX3_saveTo_2 : decode cX3_saveTo 2 = .ok (.aload_n 0, 1) := by decide +kernel
theorem dX3_saveTo_3 : decode cX3_saveTo 3 = .ok (.getfield 26, 3) := by decide +kernel
theorem dX3_saveTo_6 : decode cX3_saveTo 6 = .ok (.iastore, 1) := by decide +kernel
theorem dX3_saveTo_7 : decode cX3_saveTo 7 = .ok (.aload_n 1, 1) := by decide +kernel
theorem dX3_saveTo_8 : decode cX3_saveTo 8 = .ok (.iload_n 2, 1) := by decide +kernel
theorem dX3_saveTo_9 : decode cX3_saveTo 9 = .ok (.iconst 1, 1) := by decide +kernel
theorem dX3_saveTo_10 : decode cX3_saveTo 10 = .ok (.iadd, 1) := by decide +kernel
theorem dX3_saveTo_11 : decode cX3_saveTo 11 = .ok (.aload_n 0, 1) := by decide +kernel
theorem dX3_saveTo_12 : decode cX3_saveTo 12 = .ok (.getfield 29, 3) := by decide +kernel
theorem dX3_saveTo_15 : decode cX3_saveTo 15 = .ok (.iastore, 1) := by decide +kernel
theorem dX3_saveTo_16 : decode cX3_saveTo 16 = .ok (.iconst 0, 1) := by decide +kernel
theorem dX3_saveTo_17 : decode cX3_saveTo 17 = .ok (.istore_n 3, 1) := by decide +kernel
theorem dX3_saveTo_18 : decode cX3_saveTo 18 = .ok (.iload_n 3, 1) := by decide +kernel
theorem dX3_saveTo_19 : decode cX3_saveTo 19 = .ok (.iconst 5, 1) := by decide +kernel
theorem dX3_saveTo_20 : decode cX3_saveTo 20 = .ok (.if_icmp .ge 37, 3) := by decide +kernel
theorem dX3_saveTo_23 : decode cX3_saveTo 23 = .ok (.aload_n 1, 1) := by decide +kernel
theorem dX3_saveTo_24 : decode cX3_saveTo 24 = .ok (.iload_n 2, 1) := by decide +kernel
theorem dX3_saveTo_25 : decode cX3_saveTo 25 = .ok (.iconst 2, 1) := by decide +kernel
theorem dX3_saveTo_26 : decode cX3_saveTo 26 = .ok (.iadd, 1) := by decide +kernel
theorem dX3_saveTo_27 : decode cX3_saveTo 27 = .ok (.iload_n 3, 1) := by decide +kernel
theorem dX3_saveTo_28 : decode cX3_saveTo 28 = .ok (.iadd, 1) := by decide +kernel
theorem dX3_saveTo_29 : decode cX3_saveTo 29 = .ok (.aload_n 0, 1) := by decide +kernel
theorem dX3_saveTo_30 : decode cX3_saveTo 30 = .ok (.getfield 9, 3) := by decide +kernel
theorem dX3_saveTo_33 : decode cX3_saveTo 33 = .ok (.iload_n 3, 1) := by decide +kernel
theorem dX3_saveTo_34 : decode cX3_saveTo 34 = .ok (.iaload, 1) := by decide +kernel
theorem dX3_saveTo_35 : decode cX3_saveTo 35 = .ok (.iastore, 1) := by decide +kernel
theorem dX3_saveTo_36 : decode cX3_saveTo 36 = .ok (.aload_n 1, 1) := by decide +kernel
theorem dX3_saveTo_37 : decode cX3_saveTo 37 = .ok (.iload_n 2, 1) := by decide +kernel
theorem dX3_saveTo_38 : decode cX3_saveTo 38 = .ok (.iconst 2, 1) := by decide +kernel
theorem dX3_saveTo_39 : decode cX3_saveTo 39 = .ok (.iadd, 1) := by decide +kernel
theorem dX3_saveTo_40 : decode cX3_saveTo 40 = .ok (.iconst 5, 1) := by decide +kernel
theorem dX3_saveTo_41 : decode cX3_saveTo 41 = .ok (.iadd, 1) := by decide +kernel
theorem dX3_saveTo_42 : decode cX3_saveTo 42 = .ok (.iload_n 3, 1) := by decide +kernel
theorem dX3_saveTo_43 : decode cX3_saveTo 43 = .ok (.iadd, 1) := by decide +kernel
theorem dX3_saveTo_44 : decode cX3_saveTo 44 = .ok (.aload_n 0, 1) := by decide +kernel
theorem dX3_saveTo_45 : decode cX3_saveTo 45 = .ok (.getfield 15, 3) := by decide +kernel
theorem dX3_saveTo_48 : decode cX3_saveTo 48 = .ok (.iload_n 3, 1) := by decide +kernel
theorem dX3_saveTo_49 : decode cX3_saveTo 49 = .ok (.iaload, 1) := by decide +kernel
theorem dX3_saveTo_50 : decode cX3_saveTo 50 = .ok (.iastore, 1) := by decide +kernel
theorem dX3_saveTo_51 : decode cX3_saveTo 51 = .ok (.iinc 3 1, 3) := by decide +kernel
theorem dX3_saveTo_54 : decode cX3_saveTo 54 = .ok (.goto (-36), 3) := by decide +kernel
theorem dX3_saveTo_57 : decode cX3_saveTo 57 = .ok (.return_, 1) := by decide +kernel
set_option maxRecDepth 100000 in
set_option maxHeartbeats 4000000 in
theorem mX3_saveTo {w : WX} {adr : Nat → Nat → Nat} (hj : Ij adr) {o0 : Nat} (ho0 : o0 < 7) {o1 : Nat} (ho1 : o1 < 18) (a2 : Int32) (S : St) : ∀ (l : Launch) (r : Int32) (S2 : St), fX3_saveTo o0 o1 a2 S = some (r, S2) → Mv l w adr yX3_saveTo cX3_saveTo 4 none 0 0 [.ref (adr 11 o0), .ref (adr 17 o1), .int a2] S S2 := by
  refine mv_of (lv := [(0, .ref (adr 11 o0)), (1, .ref (adr 17 o1)), (2, .int a2)]) hj (plainFor_of_name (by decide +kernel)) rfl (Nat.le_of_ble_eq_true rfl) (fun k C Rr => ?_)
  have C : Cx w adr k cX3_saveTo RX3 4 0 0 := C
  refine ge_aload_n (n := 1) C 1 rfl dX3_saveTo_0 rfl rfl ?_
  refine ge_iload_n (n := 2) C 2 rfl dX3_saveTo_1 rfl rfl ?_
  refine ge_aload_n (n := 3) C 0 rfl dX3_saveTo_2 rfl rfl ?_
  refine gt_X3_26 (n := 6) C ho0 dX3_saveTo_3 rfl ?_
  refine as_17 (n := 7) C ho1 dX3_saveTo_6 rfl (fun S_6 => ?_)
  refine ge_aload_n (n := 8) C 1 rfl dX3_saveTo_7 rfl rfl ?_
  refine ge_iload_n (n := 9) C 2 rfl dX3_saveTo_8 rfl rfl ?_
  refine ge_iconst (v := 1) (n := 10) C dX3_saveTo_9 (by decide) rfl ?_
  refine ge_iadd (n := 11) C dX3_saveTo_10 rfl ?_
  refine ge_aload_n (n := 12) C 0 rfl dX3_saveTo_11 rfl rfl ?_
  refine gt_X3_29 (n := 15) C ho0 dX3_saveTo_12 rfl ?_
  refine as_17 (n := 16) C ho1 dX3_saveTo_15 rfl (fun S_15 => ?_)
  refine ge_iconst (v := 0) (n := 17) C dX3_saveTo_16 (by decide) rfl ?_
  refine ge_istore_n (n := 18) (lv2 := [(3, .int (0 : Int32)), (0, .ref (adr 11 o0)), (1, .ref (adr 17 o1)), (2, .int a2)]) C dX3_saveTo_17 rfl rfl (by decide) rfl ?_
  refine ge_jn (fun (jj : St → Op) => ∀ (S_57 : St), Ge w adr k 57 [] [] S_57 (jj S_57)) (fun S_57 => ?_) (fun kk18 hkk18 => ?_)
  · exact ge_vret C Rr dX3_saveTo_57
  refine ge_lop (fun (jj : Int32 → St → Op) => ∀ (x3_18 : Int32) (S_18 : St), Ge w adr k 18 [(3, .int x3_18), (0, .ref (adr 11 o0)), (1, .ref (adr 17 o1)), (2, .int a2)] [] S_18 (jj x3_18 S_18)) (fun _ _ => ge_none) (fun ag18 hag18 x3_18 S_18 => ?_) FU (0 : Int32) S_15
  refine ge_iload_n (n := 19) C 0 rfl dX3_saveTo_18 rfl rfl ?_
  refine ge_iconst (v := 5) (n := 20) C dX3_saveTo_19 (by decide) rfl ?_
  refine ge_icmp_ge (t := 57) (n := 23) C dX3_saveTo_20 (by decide) rfl (fun h_20 => ?_) (fun h_20 => ?_)
  · refine ge_sub [] rfl ?_
    exact hkk18 S_18
  · refine ge_aload_n (n := 24) C 2 rfl dX3_saveTo_23 rfl rfl ?_
    refine ge_iload_n (n := 25) C 3 rfl dX3_saveTo_24 rfl rfl ?_
    refine ge_iconst (v := 2) (n := 26) C dX3_saveTo_25 (by decide) rfl ?_
    refine ge_iadd (n := 27) C dX3_saveTo_26 rfl ?_
    refine ge_iload_n (n := 28) C 0 rfl dX3_saveTo_27 rfl rfl ?_
    refine ge_iadd (n := 29) C dX3_saveTo_28 rfl ?_
    refine ge_aload_n (n := 30) C 1 rfl dX3_saveTo_29 rfl rfl ?_
    refine gt_X3_9 (n := 33) C ho0 dX3_saveTo_30 rfl ?_
    refine ge_iload_n (n := 34) C 0 rfl dX3_saveTo_33 rfl rfl ?_
    refine al_12 (n := 35) C ho0 dX3_saveTo_34 rfl ?_
    refine as_17 (n := 36) C ho1 dX3_saveTo_35 rfl (fun S_35 => ?_)
    refine ge_aload_n (n := 37) C 2 rfl dX3_saveTo_36 rfl rfl ?_
    refine ge_iload_n (n := 38) C 3 rfl dX3_saveTo_37 rfl rfl ?_
    refine ge_iconst (v := 2) (n := 39) C dX3_saveTo_38 (by decide) rfl ?_
    refine ge_iadd (n := 40) C dX3_saveTo_39 rfl ?_
    refine ge_iconst (v := 5) (n := 41) C dX3_saveTo_40 (by decide) rfl ?_
    refine ge_iadd (n := 42) C dX3_saveTo_41 rfl ?_
    refine ge_iload_n (n := 43) C 0 rfl dX3_saveTo_42 rfl rfl ?_
    refine ge_iadd (n := 44) C dX3_saveTo_43 rfl ?_
    refine ge_aload_n (n := 45) C 1 rfl dX3_saveTo_44 rfl rfl ?_
    refine gt_X3_15 (n := 48) C ho0 dX3_saveTo_45 rfl ?_
    refine ge_iload_n (n := 49) C 0 rfl dX3_saveTo_48 rfl rfl ?_
    refine al_13 (n := 50) C ho0 dX3_saveTo_49 rfl ?_
    refine as_17 (n := 51) C ho1 dX3_saveTo_50 rfl (fun S_50 => ?_)
    refine ge_iinc (n := 54) (v := (x3_18 + (1 : Int32))) (lv2 := [(3, .int (x3_18 + (1 : Int32))), (0, .ref (adr 11 o0)), (1, .ref (adr 17 o1)), (2, .int a2)]) C 0 rfl dX3_saveTo_51 rfl rfl (by decide) rfl ?_
    refine ge_goto (n := 18) C dX3_saveTo_54 (by decide) ?_
    exact hag18 (x3_18 + (1 : Int32)) S_50
theorem dX3_loadFrom_0 : decode cX3_loadFrom 0 = .ok (.aload_n 0, 1) := by decide +kernel
theorem dX3_loadFrom_1 : decode cX3_loadFrom 1 = .ok (.aload_n 1, 1) := by decide +kernel
theorem dX3_loadFrom_2 : decode cX3_loadFrom 2 = .ok (.iload_n 2, 1) := by decide +kernel
theorem dX3_loadFrom_3 : decode cX3_loadFrom 3 = .ok (.iaload, 1) := by decide +kernel
theorem dX3_loadFrom_4 : decode cX3_loadFrom 4 = .ok (.putfield 26, 3) := by decide +kernel
theorem dX3_loadFrom_7 : decode cX3_loadFrom 7 = .ok (.aload_n 0, 1) := by decide +kernel
theorem dX3_loadFrom_8 : decode cX3_loadFrom 8 = .ok (.aload_n 1, 1) := by decide +kernel
theorem dX3_loadFrom_9 : decode cX3_loadFrom 9 = .ok (.iload_n 2, 1) := by decide +kernel
theorem dX3_loadFrom_10 : decode cX3_loadFrom 10 = .ok (.iconst 1, 1) := by decide +kernel
theorem dX3_loadFrom_11 : decode cX3_loadFrom 11 = .ok (.iadd, 1) := by decide +kernel
theorem dX3_loadFrom_12 : decode cX3_loadFrom 12 = .ok (.iaload, 1) := by decide +kernel
theorem dX3_loadFrom_13 : decode cX3_loadFrom 13 = .ok (.putfield 29, 3) := by decide +kernel
theorem dX3_loadFrom_16 : decode cX3_loadFrom 16 = .ok (.iconst 0, 1) := by decide +kernel
theorem dX3_loadFrom_17 : decode cX3_loadFrom 17 = .ok (.istore_n 3, 1) := by decide +kernel
theorem dX3_loadFrom_18 : decode cX3_loadFrom 18 = .ok (.iload_n 3, 1) := by decide +kernel
theorem dX3_loadFrom_19 : decode cX3_loadFrom 19 = .ok (.iconst 5, 1) := by decide +kernel
theorem dX3_loadFrom_20 : decode cX3_loadFrom 20 = .ok (.if_icmp .ge 37, 3) := by decide +kernel
theorem dX3_loadFrom_23 : decode cX3_loadFrom 23 = .ok (.aload_n 0, 1) := by decide +kernel
theorem dX3_loadFrom_24 : decode cX3_loadFrom 24 = .ok (.getfield 9, 3) := by decide +kernel
theorem dX3_loadFrom_27 : decode cX3_loadFrom 27 = .ok (.iload_n 3, 1) := by decide +kernel
theorem dX3_loadFrom_28 : decode cX3_loadFrom 28 = .ok (.aload_n 1, 1) := by decide +kernel
theorem dX3_loadFrom_29 : decode cX3_loadFrom 29 = .ok (.iload_n 2, 1) := by decide +kernel
theorem dX3_loadFrom_30 : decode cX3_loadFrom 30 = .ok (.iconst 2, 1) := by decide +kernel
theorem dX3_loadFrom_31 : decode cX3_loadFrom 31 = .ok (.iadd, 1) := by decide +kernel
theorem dX3_loadFrom_32 : decode cX3_loadFrom 32 = .ok (.iload_n 3, 1) := by decide +kernel
theorem dX3_loadFrom_33 : decode cX3_loadFrom 33 = .ok (.iadd, 1) := by decide +kernel
theorem dX3_loadFrom_34 : decode cX3_loadFrom 34 = .ok (.iaload, 1) := by decide +kernel
theorem dX3_loadFrom_35 : decode cX3_loadFrom 35 = .ok (.iastore, 1) := by decide +kernel
theorem dX3_loadFrom_36 : decode cX3_loadFrom 36 = .ok (.aload_n 0, 1) := by decide +kernel
theorem dX3_loadFrom_37 : decode cX3_loadFrom 37 = .ok (.getfield 15, 3) := by decide +kernel
theorem dX3_loadFrom_40 : decode cX3_loadFrom 40 = .ok (.iload_n 3, 1) := by decide +kernel
theorem dX3_loadFrom_41 : decode cX3_loadFrom 41 = .ok (.aload_n 1, 1) := by decide +kernel
theorem dX3_loadFrom_42 : decode cX3_loadFrom 42 = .ok (.iload_n 2, 1) := by decide +kernel
theorem dX3_loadFrom_43 : decode cX3_loadFrom 43 = .ok (.iconst 2, 1) := by decide +kernel
theorem dX3_loadFrom_44 : decode cX3_loadFrom 44 = .ok (.iadd, 1) := by decide +kernel
theorem dX3_loadFrom_45 : decode cX3_loadFrom 45 = .ok (.iconst 5, 1) := by decide +kernel
theorem dX3_loadFrom_46 : decode cX3_loadFrom 46 = .ok (.iadd, 1) := by decide +kernel
theorem dX3_loadFrom_47 : decode cX3_loadFrom 47 = .ok (.iload_n 3, 1) := by decide +kernel
theorem dX3_loadFrom_48 : decode cX3_loadFrom 48 = .ok (.iadd, 1) := by decide +kernel
theorem dX3_loadFrom_49 : decode cX3_loadFrom 49 = .ok (.iaload, 1) := by decide +kernel
theorem dX3_loadFrom_50 : decode cX3_loadFrom 50 = .ok (.iastore, 1) := by decide +kernel
theorem dX3_loadFrom_51 : decode cX3_loadFrom 51 = .ok (.iinc 3 1, 3) := by decide +kernel
theorem dX3_loadFrom_54 : decode cX3_loadFrom 54 = .ok (.goto (-36), 3) := by decide +kernel
theorem dX3_loadFrom_57 : decode cX3_loadFrom 57 = .ok (.return_, 1) := by decide +kernel
set_option maxRecDepth 100000 in
set_option maxHeartbeats 4000000 in
theorem mX3_loadFrom {w : WX} {adr : Nat → Nat → Nat} (hj : Ij adr) {o0 : Nat} (ho0 : o0 < 7) {o1 : Nat} (ho1 : o1 < 18) (a2 : Int32) (S : St) : ∀ (l : Launch) (r : Int32) (S2 : St), fX3_loadFrom o0 o1 a2 S = some (r, S2) → Mv l w adr yX3_loadFrom cX3_loadFrom 4 none 0 0 [.ref (adr 11 o0), .ref (adr 17 o1), .int a2] S S2 := by
  refine mv_of (lv := [(0, .ref (adr 11 o0)), (1, .ref (adr 17 o1)), (2, .int a2)]) hj (plainFor_of_name (by decide +kernel)) rfl (Nat.le_of_ble_eq_true rfl) (fun k C Rr => ?_)
  have C : Cx w adr k cX3_loadFrom RX3 4 0 0 := C
  refine ge_aload_n (n := 1) C 0 rfl dX3_loadFrom_0 rfl rfl ?_
  refine ge_aload_n (n := 2) C 1 rfl dX3_loadFrom_1 rfl rfl ?_
  refine ge_iload_n (n := 3) C 2 rfl dX3_loadFrom_2 rfl rfl ?_
  refine al_17 (n := 4) C ho1 dX3_loadFrom_3 rfl ?_
  refine pt_X3_26 (n := 7) C ho0 dX3_loadFrom_4 rfl (fun S_4 => ?_)
  refine ge_aload_n (n := 8) C 0 rfl dX3_loadFrom_7 rfl rfl ?_
  refine ge_aload_n (n := 9) C 1 rfl dX3_loadFrom_8 rfl rfl ?_
  refine ge_iload_n (n := 10) C 2 rfl dX3_loadFrom_9 rfl rfl ?_
  refine ge_iconst (v := 1) (n := 11) C dX3_loadFrom_10 (by decide) rfl ?_
  refine ge_iadd (n := 12) C dX3_loadFrom_11 rfl ?_
  refine al_17 (n := 13) C ho1 dX3_loadFrom_12 rfl ?_
  refine pt_X3_29 (n := 16) C ho0 dX3_loadFrom_13 rfl (fun S_13 => ?_)
  refine ge_iconst (v := 0) (n := 17) C dX3_loadFrom_16 (by decide) rfl ?_
  refine ge_istore_n (n := 18) (lv2 := [(3, .int (0 : Int32)), (0, .ref (adr 11 o0)), (1, .ref (adr 17 o1)), (2, .int a2)]) C dX3_loadFrom_17 rfl rfl (by decide) rfl ?_
  refine ge_jn (fun (jj : St → Op) => ∀ (S_57 : St), Ge w adr k 57 [] [] S_57 (jj S_57)) (fun S_57 => ?_) (fun kk18 hkk18 => ?_)
  · exact ge_vret C Rr dX3_loadFrom_57
  refine ge_lop (fun (jj : Int32 → St → Op) => ∀ (x3_18 : Int32) (S_18 : St), Ge w adr k 18 [(3, .int x3_18), (0, .ref (adr 11 o0)), (1, .ref (adr 17 o1)), (2, .int a2)] [] S_18 (jj x3_18 S_18)) (fun _ _ => ge_none) (fun ag18 hag18 x3_18 S_18 => ?_) FU (0 : Int32) S_13
  refine ge_iload_n (n := 19) C 0 rfl dX3_loadFrom_18 rfl rfl ?_
  refine ge_iconst (v := 5) (n := 20) C dX3_loadFrom_19 (by decide) rfl ?_
  refine ge_icmp_ge (t := 57) (n := 23) C dX3_loadFrom_20 (by decide) rfl (fun h_20 => ?_) (fun h_20 => ?_)
  · refine ge_sub [] rfl ?_
    exact hkk18 S_18
  · refine ge_aload_n (n := 24) C 1 rfl dX3_loadFrom_23 rfl rfl ?_
    refine gt_X3_9 (n := 27) C ho0 dX3_loadFrom_24 rfl ?_
    refine ge_iload_n (n := 28) C 0 rfl dX3_loadFrom_27 rfl rfl ?_
    refine ge_aload_n (n := 29) C 2 rfl dX3_loadFrom_28 rfl rfl ?_
    refine ge_iload_n (n := 30) C 3 rfl dX3_loadFrom_29 rfl rfl ?_
    refine ge_iconst (v := 2) (n := 31) C dX3_loadFrom_30 (by decide) rfl ?_
    refine ge_iadd (n := 32) C dX3_loadFrom_31 rfl ?_
    refine ge_iload_n (n := 33) C 0 rfl dX3_loadFrom_32 rfl rfl ?_
    refine ge_iadd (n := 34) C dX3_loadFrom_33 rfl ?_
    refine al_17 (n := 35) C ho1 dX3_loadFrom_34 rfl ?_
    refine as_12 (n := 36) C ho0 dX3_loadFrom_35 rfl (fun S_35 => ?_)
    refine ge_aload_n (n := 37) C 1 rfl dX3_loadFrom_36 rfl rfl ?_
    refine gt_X3_15 (n := 40) C ho0 dX3_loadFrom_37 rfl ?_
    refine ge_iload_n (n := 41) C 0 rfl dX3_loadFrom_40 rfl rfl ?_
    refine ge_aload_n (n := 42) C 2 rfl dX3_loadFrom_41 rfl rfl ?_
    refine ge_iload_n (n := 43) C 3 rfl dX3_loadFrom_42 rfl rfl ?_
    refine ge_iconst (v := 2) (n := 44) C dX3_loadFrom_43 (by decide) rfl ?_
    refine ge_iadd (n := 45) C dX3_loadFrom_44 rfl ?_
    refine ge_iconst (v := 5) (n := 46) C dX3_loadFrom_45 (by decide) rfl ?_
    refine ge_iadd (n := 47) C dX3_loadFrom_46 rfl ?_
    refine ge_iload_n (n := 48) C 0 rfl dX3_loadFrom_47 rfl rfl ?_
    refine ge_iadd (n := 49) C dX3_loadFrom_48 rfl ?_
    refine al_17 (n := 50) C ho1 dX3_loadFrom_49 rfl ?_
    refine as_13 (n := 51) C ho0 dX3_loadFrom_50 rfl (fun S_50 => ?_)
    refine ge_iinc (n := 54) (v := (x3_18 + (1 : Int32))) (lv2 := [(3, .int (x3_18 + (1 : Int32))), (0, .ref (adr 11 o0)), (1, .ref (adr 17 o1)), (2, .int a2)]) C 0 rfl dX3_loadFrom_51 rfl rfl (by decide) rfl ?_
    refine ge_goto (n := 18) C dX3_loadFrom_54 (by decide) ?_
    exact hag18 (x3_18 + (1 : Int32)) S_50
theorem dX7_saveTo_0 : decode cX7_saveTo 0 = .ok (.aload_n 1, 1) := by decide +kernel
theorem dX7_saveTo_1 : decode cX7_saveTo 1 = .ok (.iconst 0, 1) := by decide +kernel
theorem dX7_saveTo_2 : decode cX7_saveTo 2 = .ok (.aload_n 0, 1) := by decide +kernel
theorem dX7_saveTo_3 : decode cX7_saveTo 3 = .ok (.getfield 22, 3) := by decide +kernel
theorem dX7_saveTo_6 : decode cX7_saveTo 6 = .ok (.iastore, 1) := by decide +kernel
theorem dX7_saveTo_7 : decode cX7_saveTo 7 = .ok (.aload_n 1, 1) := by decide +kernel
theorem dX7_saveTo_8 : decode cX7_saveTo 8 = .ok (.iconst 1, 1) := by decide +kernel
theorem dX7_saveTo_9 : decode cX7_saveTo 9 = .ok (.aload_n 0, 1) := by decide +kernel
theorem dX7_saveTo_10 : decode cX7_saveTo 10 = .ok (.getfield 31, 3) := by decide +kernel
theorem dX7_saveTo_13 : decode cX7_saveTo 13 = .ok (.iastore, 1) := by decide +kernel
theorem dX7_saveTo_14 : decode cX7_saveTo 14 = .ok (.aload_n 1, 1) := by decide +kernel
theorem dX7_saveTo_15 : decode cX7_saveTo 15 = .ok (.iconst 2, 1) := by decide +kernel
theorem dX7_saveTo_16 : decode cX7_saveTo 16 = .ok (.aload_n 0, 1) := by decide +kernel
theorem dX7_saveTo_17 : decode cX7_saveTo 17 = .ok (.getfield 32, 3) := by decide +kernel
theorem dX7_saveTo_20 : decode cX7_saveTo 20 = .ok (.iastore, 1) := by decide +kernel
theorem dX7_saveTo_21 : decode cX7_saveTo 21 = .ok (.iconst 0, 1) := by decide +kernel
theorem dX7_saveTo_22 : decode cX7_saveTo 22 = .ok (.istore_n 2, 1) := by decide +kernel
theorem dX7_saveTo_23 : decode cX7_saveTo 23 = .ok (.iload_n 2, 1) := by decide +kernel
theorem dX7_saveTo_24 : decode cX7_saveTo 24 = .ok (.aload_n 0, 1) := by decide +kernel
theorem dX7_saveTo_25 : decode cX7_saveTo 25 = .ok (.getfield 17, 3) := by decide +kernel
theorem dX7_saveTo_28 : decode cX7_saveTo 28 = .ok (.getfield 35, 3) := by decide +kernel
theorem dX7_saveTo_31 : decode cX7_saveTo 31 = .ok (.if_icmp .ge 25, 3) := by decide +kernel
theorem dX7_saveTo_34 : decode cX7_saveTo 34 = .ok (.aload_n 0, 1) := by decide +kernel
theorem dX7_saveTo_35 : decode cX7_saveTo 35 = .ok (.getfield 11, 3) := by decide +kernel
theorem dX7_saveTo_38 : decode cX7_saveTo 38 = .ok (.iload_n 2, 1) := by decide +kernel
theorem dX7_saveTo_39 : decode cX7_saveTo 39 = .ok (.aaload, 1) := by decide +kernel
theorem dX7_saveTo_40 : decode cX7_saveTo 40 = .ok (.aload_n 1, 1) := by decide +kernel
theorem dX7_saveTo_41 : decode cX7_saveTo 41 = .ok (.iconst 3, 1) := by decide +kernel
theorem dX7_saveTo_42 : decode cX7_saveTo 42 = .ok (.iload_n 2, 1) := by decide +kernel
theorem dX7_saveTo_43 : decode cX7_saveTo 43 = .ok (.bipush 12, 2) := by decide +kernel
theorem dX7_saveTo_45 : decode cX7_saveTo 45 = .ok (.imul, 1) := by decide +kernel
theorem dX7_saveTo_46 : decode cX7_saveTo 46 = .ok (.iadd, 1) := by decide +kernel
theorem dX7_saveTo_47 : decode cX7_saveTo 47 = .ok (.invokevirtual 114, 3) := by decide +kernel
theorem dX7_saveTo_50 : decode cX7_saveTo 50 = .ok (.iinc 2 1, 3) := by decide +kernel
theorem dX7_saveTo_53 : decode cX7_saveTo 53 = .ok (.goto (-30), 3) := by decide +kernel
theorem dX7_saveTo_56 : decode cX7_saveTo 56 = .ok (.return_, 1) := by decide +kernel
set_option maxRecDepth 100000 in
set_option maxHeartbeats 4000000 in
theorem mX7_saveTo {w : WX} {adr : Nat → Nat → Nat} (hj : Ij adr) {o1 : Nat} (ho1 : o1 < 18) (S : St) : ∀ (l : Launch) (r : Int32) (S2 : St), fX7_saveTo o1 S = some (r, S2) → Mv l w adr yX7_saveTo cX7_saveTo 3 none 1 23 [.ref (adr 9 0), .ref (adr 17 o1)] S S2 := by
  refine mv_of (lv := [(0, .ref (adr 9 0)), (1, .ref (adr 17 o1))]) hj (plainFor_of_name (by decide +kernel)) rfl (Nat.le_of_ble_eq_true rfl) (fun k C Rr => ?_)
  have C : Cx w adr k cX7_saveTo RX7 3 1 23 := C
  refine ge_aload_n (n := 1) C 1 rfl dX7_saveTo_0 rfl rfl ?_
  refine ge_iconst (v := 0) (n := 2) C dX7_saveTo_1 (by decide) rfl ?_
  refine ge_aload_n (n := 3) C 0 rfl dX7_saveTo_2 rfl rfl ?_
  refine gt_X7_22 (n := 6) C (by decide) dX7_saveTo_3 rfl ?_
  refine as_17 (n := 7) C ho1 dX7_saveTo_6 rfl (fun S_6 => ?_)
  refine ge_aload_n (n := 8) C 1 rfl dX7_saveTo_7 rfl rfl ?_
  refine ge_iconst (v := 1) (n := 9) C dX7_saveTo_8 (by decide) rfl ?_
  refine ge_aload_n (n := 10) C 0 rfl dX7_saveTo_9 rfl rfl ?_
  refine gt_X7_31 (n := 13) C (by decide) dX7_saveTo_10 rfl ?_
  refine as_17 (n := 14) C ho1 dX7_saveTo_13 rfl (fun S_13 => ?_)
  refine ge_aload_n (n := 15) C 1 rfl dX7_saveTo_14 rfl rfl ?_
  refine ge_iconst (v := 2) (n := 16) C dX7_saveTo_15 (by decide) rfl ?_
  refine ge_aload_n (n := 17) C 0 rfl dX7_saveTo_16 rfl rfl ?_
  refine gt_X7_32 (n := 20) C (by decide) dX7_saveTo_17 rfl ?_
  refine as_17 (n := 21) C ho1 dX7_saveTo_20 rfl (fun S_20 => ?_)
  refine ge_iconst (v := 0) (n := 22) C dX7_saveTo_21 (by decide) rfl ?_
  refine ge_istore_n (n := 23) (lv2 := [(2, .int (0 : Int32)), (0, .ref (adr 9 0)), (1, .ref (adr 17 o1))]) C dX7_saveTo_22 rfl rfl (by decide) rfl ?_
  refine ge_jn (fun (jj : St → Op) => ∀ (S_56 : St), Ge w adr k 56 [] [] S_56 (jj S_56)) (fun S_56 => ?_) (fun kk23 hkk23 => ?_)
  · exact ge_vret C Rr dX7_saveTo_56
  refine ge_lop (fun (jj : Int32 → St → Op) => ∀ (x2_23 : Int32) (S_23 : St), Ge w adr k 23 [(2, .int x2_23), (0, .ref (adr 9 0)), (1, .ref (adr 17 o1))] [] S_23 (jj x2_23 S_23)) (fun _ _ => ge_none) (fun ag23 hag23 x2_23 S_23 => ?_) FU (0 : Int32) S_20
  refine ge_iload_n (n := 24) C 0 rfl dX7_saveTo_23 rfl rfl ?_
  refine ge_aload_n (n := 25) C 1 rfl dX7_saveTo_24 rfl rfl ?_
  refine gt_X7_17 (n := 28) C (by decide) dX7_saveTo_25 rfl ?_
  refine gt_X7_35 (n := 31) C (pid_lt _) dX7_saveTo_28 rfl ?_
  refine ge_icmp_ge (t := 56) (n := 34) C dX7_saveTo_31 (by decide) rfl (fun h_31 => ?_) (fun h_31 => ?_)
  · refine ge_sub [] rfl ?_
    exact hkk23 S_23
  · refine ge_aload_n (n := 35) C 1 rfl dX7_saveTo_34 rfl rfl ?_
    refine gt_X7_11 (n := 38) C (by decide) dX7_saveTo_35 rfl ?_
    refine ge_iload_n (n := 39) C 0 rfl dX7_saveTo_38 rfl rfl ?_
    refine al_10 (n := 40) C (by decide) dX7_saveTo_39 rfl (fun h_39 => ?_)
    refine ge_aload_n (n := 41) C 2 rfl dX7_saveTo_40 rfl rfl ?_
    refine ge_iconst (v := 3) (n := 42) C dX7_saveTo_41 (by decide) rfl ?_
    refine ge_iload_n (n := 43) C 0 rfl dX7_saveTo_42 rfl rfl ?_
    refine ge_bipush (v := 12) (n := 45) C dX7_saveTo_43 (by decide) rfl ?_
    refine ge_imul (n := 46) C dX7_saveTo_45 rfl ?_
    refine ge_iadd (n := 47) C dX7_saveTo_46 rfl ?_
    refine ge_callVv (n := 50) C (mX3_saveTo hj (o0 := (Int32.toNatClampNeg x2_23)) (bd_c h_39 (by decide)) (o1 := o1) ho1 ((3 : Int32) + (x2_23 * (12 : Int32))) S_23) gv_X7_114 (cl_11 (bd_c h_39 (by decide))) rfl rfl hc_X3_saveTo ⟨Nat.le_of_ble_eq_true rfl, Nat.le_of_ble_eq_true rfl⟩ rfl rfl (Nat.le_of_ble_eq_true rfl) dX7_saveTo_47 rfl (fun _ S_47 => ?_)
    refine ge_iinc (n := 53) (v := (x2_23 + (1 : Int32))) (lv2 := [(2, .int (x2_23 + (1 : Int32))), (0, .ref (adr 9 0)), (1, .ref (adr 17 o1))]) C 0 rfl dX7_saveTo_50 rfl rfl (by decide) rfl ?_
    refine ge_goto (n := 23) C dX7_saveTo_53 (by decide) ?_
    exact hag23 (x2_23 + (1 : Int32)) S_47
theorem dX4_push_0 : decode cX4_push 0 = .ok (.aload_n 1, 1) := by decide +kernel
theorem dX4_push_1 : decode cX4_push 1 = .ok (.aload_n 0, 1) := by decide +kernel
theorem dX4_push_2 : decode cX4_push 2 = .ok (.getfield 11, 3) := by decide +kernel
theorem dX4_push_5 : decode cX4_push 5 = .ok (.aload_n 0, 1) := by decide +kernel
theorem dX4_push_6 : decode cX4_push 6 = .ok (.getfield 23, 3) := by decide +kernel
theorem dX4_push_9 : decode cX4_push 9 = .ok (.aaload, 1) := by decide +kernel
theorem dX4_push_10 : decode cX4_push 10 = .ok (.invokevirtual 27, 3) := by decide +kernel
theorem dX4_push_13 : decode cX4_push 13 = .ok (.aload_n 0, 1) := by decide +kernel
theorem dX4_push_14 : decode cX4_push 14 = .ok (.aload_n 0, 1) := by decide +kernel
theorem dX4_push_15 : decode cX4_push 15 = .ok (.getfield 23, 3) := by decide +kernel
theorem dX4_push_18 : decode cX4_push 18 = .ok (.iconst 1, 1) := by decide +kernel
theorem dX4_push_19 : decode cX4_push 19 = .ok (.iadd, 1) := by decide +kernel
theorem dX4_push_20 : decode cX4_push 20 = .ok (.bipush 16, 2) := by decide +kernel
theorem dX4_push_22 : decode cX4_push 22 = .ok (.irem, 1) := by decide +kernel
theorem dX4_push_23 : decode cX4_push 23 = .ok (.putfield 23, 3) := by decide +kernel
theorem dX4_push_26 : decode cX4_push 26 = .ok (.aload_n 0, 1) := by decide +kernel
theorem dX4_push_27 : decode cX4_push 27 = .ok (.bipush 16, 2) := by decide +kernel
theorem dX4_push_29 : decode cX4_push 29 = .ok (.aload_n 0, 1) := by decide +kernel
theorem dX4_push_30 : decode cX4_push 30 = .ok (.getfield 33, 3) := by decide +kernel
theorem dX4_push_33 : decode cX4_push 33 = .ok (.iconst 1, 1) := by decide +kernel
theorem dX4_push_34 : decode cX4_push 34 = .ok (.iadd, 1) := by decide +kernel
theorem dX4_push_35 : decode cX4_push 35 = .ok (.invokestatic 36, 3) := by decide +kernel
theorem dX4_push_38 : decode cX4_push 38 = .ok (.putfield 33, 3) := by decide +kernel
theorem dX4_push_41 : decode cX4_push 41 = .ok (.return_, 1) := by decide +kernel
set_option maxRecDepth 100000 in
set_option maxHeartbeats 4000000 in
theorem mX4_push {w : WX} {adr : Nat → Nat → Nat} (hj : Ij adr)  (S : St) : ∀ (l : Launch) (r : Int32) (S2 : St), fX4_push S = some (r, S2) → Mv l w adr yX4_push cX4_push 2 none 2 45 [.ref (adr 14 0), .ref (adr 9 0)] S S2 := by
  refine mv_of (lv := [(0, .ref (adr 14 0)), (1, .ref (adr 9 0))]) hj (plainFor_of_name (by decide +kernel)) rfl (Nat.le_of_ble_eq_true rfl) (fun k C Rr => ?_)
  have C : Cx w adr k cX4_push RX4 2 2 45 := C
  refine ge_aload_n (n := 1) C 1 rfl dX4_push_0 rfl rfl ?_
  refine ge_aload_n (n := 2) C 0 rfl dX4_push_1 rfl rfl ?_
  refine gt_X4_11 (n := 5) C (by decide) dX4_push_2 rfl ?_
  refine ge_aload_n (n := 6) C 0 rfl dX4_push_5 rfl rfl ?_
  refine gt_X4_23 (n := 9) C (by decide) dX4_push_6 rfl ?_
  refine al_15 (n := 10) C (by decide) dX4_push_9 rfl (fun h_9 => ?_)
  refine ge_callVv (n := 13) C (mX7_saveTo hj (o1 := (Int32.toNatClampNeg (S 14 0 1))) (bd_c h_9 (by decide)) S) gv_X4_27 (cl_9 (by decide)) rfl rfl hc_X7_saveTo ⟨Nat.le_of_ble_eq_true rfl, Nat.le_of_ble_eq_true rfl⟩ rfl rfl (Nat.le_of_ble_eq_true rfl) dX4_push_10 rfl (fun _ S_10 => ?_)
  refine ge_aload_n (n := 14) C 0 rfl dX4_push_13 rfl rfl ?_
  refine ge_aload_n (n := 15) C 0 rfl dX4_push_14 rfl rfl ?_
  refine gt_X4_23 (n := 18) C (by decide) dX4_push_15 rfl ?_
  refine ge_iconst (v := 1) (n := 19) C dX4_push_18 (by decide) rfl ?_
  refine ge_iadd (n := 20) C dX4_push_19 rfl ?_
  refine ge_bipush (v := 16) (n := 22) C dX4_push_20 (by decide) rfl ?_
  refine ge_irem0 (n := 23) C (by decide) dX4_push_22 rfl ?_
  refine pt_X4_23 (n := 26) C (by decide) dX4_push_23 rfl (fun S_23 => ?_)
  refine ge_aload_n (n := 27) C 0 rfl dX4_push_26 rfl rfl ?_
  refine ge_bipush (v := 16) (n := 29) C dX4_push_27 (by decide) rfl ?_
  refine ge_aload_n (n := 30) C 0 rfl dX4_push_29 rfl rfl ?_
  refine gt_X4_33 (n := 33) C (by decide) dX4_push_30 rfl ?_
  refine ge_iconst (v := 1) (n := 34) C dX4_push_33 (by decide) rfl ?_
  refine ge_iadd (n := 35) C dX4_push_34 rfl ?_
  refine ge_mmin (n := 38) C ml_X4_36 (by decide) (Nat.le_of_ble_eq_true rfl) dX4_push_35 rfl ?_
  refine pt_X4_33 (n := 41) C (by decide) dX4_push_38 rfl (fun S_38 => ?_)
  exact ge_vret C Rr dX4_push_41
theorem dX7_loadFrom_0 : decode cX7_loadFrom 0 = .ok (.aload_n 0, 1) := by decide +kernel
theorem dX7_loadFrom_1 : decode cX7_loadFrom 1 = .ok (.aload_n 1, 1) := by decide +kernel
theorem dX7_loadFrom_2 : decode cX7_loadFrom 2 = .ok (.iconst 0, 1) := by decide +kernel
theorem dX7_loadFrom_3 : decode cX7_loadFrom 3 = .ok (.iaload, 1) := by decide +kernel
theorem dX7_loadFrom_4 : decode cX7_loadFrom 4 = .ok (.putfield 22, 3) := by decide +kernel
theorem dX7_loadFrom_7 : decode cX7_loadFrom 7 = .ok (.aload_n 0, 1) := by decide +kernel
theorem dX7_loadFrom_8 : decode cX7_loadFrom 8 = .ok (.aload_n 1, 1) := by decide +kernel
theorem dX7_loadFrom_9 : decode cX7_loadFrom 9 = .ok (.iconst 1, 1) := by decide +kernel
theorem dX7_loadFrom_10 : decode cX7_loadFrom 10 = .ok (.iaload, 1) := by decide +kernel
theorem dX7_loadFrom_11 : decode cX7_loadFrom 11 = .ok (.putfield 31, 3) := by decide +kernel
theorem dX7_loadFrom_14 : decode cX7_loadFrom 14 = .ok (.aload_n 0, 1) := by decide +kernel
theorem dX7_loadFrom_15 : decode cX7_loadFrom 15 = .ok (.aload_n 1, 1) := by decide +kernel
theorem dX7_loadFrom_16 : decode cX7_loadFrom 16 = .ok (.iconst 2, 1) := by decide +kernel
theorem dX7_loadFrom_17 : decode cX7_loadFrom 17 = .ok (.iaload, 1) := by decide +kernel
theorem dX7_loadFrom_18 : decode cX7_loadFrom 18 = .ok (.putfield 32, 3) := by decide +kernel
theorem dX7_loadFrom_21 : decode cX7_loadFrom 21 = .ok (.iconst 0, 1) := by decide +kernel
theorem dX7_loadFrom_22 : decode cX7_loadFrom 22 = .ok (.istore_n 2, 1) := by decide +kernel
theorem dX7_loadFrom_23 : decode cX7_loadFrom 23 = .ok (.iload_n 2, 1) := by decide +kernel
theorem dX7_loadFrom_24 : decode cX7_loadFrom 24 = .ok (.aload_n 0, 1) := by decide +kernel
theorem dX7_loadFrom_25 : decode cX7_loadFrom 25 = .ok (.getfield 17, 3) := by decide +kernel
theorem dX7_loadFrom_28 : decode cX7_loadFrom 28 = .ok (.getfield 35, 3) := by decide +kernel
theorem dX7_loadFrom_31 : decode cX7_loadFrom 31 = .ok (.if_icmp .ge 25, 3) := by decide +kernel
theorem dX7_loadFrom_34 : decode cX7_loadFrom 34 = .ok (.aload_n 0, 1) := by decide +kernel
theorem dX7_loadFrom_35 : decode cX7_loadFrom 35 = .ok (.getfield 11, 3) := by decide +kernel
theorem dX7_loadFrom_38 : decode cX7_loadFrom 38 = .ok (.iload_n 2, 1) := by decide +kernel
theorem dX7_loadFrom_39 : decode cX7_loadFrom 39 = .ok (.aaload, 1) := by decide +kernel
theorem dX7_loadFrom_40 : decode cX7_loadFrom 40 = .ok (.aload_n 1, 1) := by decide +kernel
theorem dX7_loadFrom_41 : decode cX7_loadFrom 41 = .ok (.iconst 3, 1) := by decide +kernel
theorem dX7_loadFrom_42 : decode cX7_loadFrom 42 = .ok (.iload_n 2, 1) := by decide +kernel
theorem dX7_loadFrom_43 : decode cX7_loadFrom 43 = .ok (.bipush 12, 2) := by decide +kernel
theorem dX7_loadFrom_45 : decode cX7_loadFrom 45 = .ok (.imul, 1) := by decide +kernel
theorem dX7_loadFrom_46 : decode cX7_loadFrom 46 = .ok (.iadd, 1) := by decide +kernel
theorem dX7_loadFrom_47 : decode cX7_loadFrom 47 = .ok (.invokevirtual 118, 3) := by decide +kernel
theorem dX7_loadFrom_50 : decode cX7_loadFrom 50 = .ok (.iinc 2 1, 3) := by decide +kernel
theorem dX7_loadFrom_53 : decode cX7_loadFrom 53 = .ok (.goto (-30), 3) := by decide +kernel
theorem dX7_loadFrom_56 : decode cX7_loadFrom 56 = .ok (.return_, 1) := by decide +kernel
set_option maxRecDepth 100000 in
set_option maxHeartbeats 4000000 in
theorem mX7_loadFrom {w : WX} {adr : Nat → Nat → Nat} (hj : Ij adr) {o1 : Nat} (ho1 : o1 < 18) (S : St) : ∀ (l : Launch) (r : Int32) (S2 : St), fX7_loadFrom o1 S = some (r, S2) → Mv l w adr yX7_loadFrom cX7_loadFrom 3 none 1 23 [.ref (adr 9 0), .ref (adr 17 o1)] S S2 := by
  refine mv_of (lv := [(0, .ref (adr 9 0)), (1, .ref (adr 17 o1))]) hj (plainFor_of_name (by decide +kernel)) rfl (Nat.le_of_ble_eq_true rfl) (fun k C Rr => ?_)
  have C : Cx w adr k cX7_loadFrom RX7 3 1 23 := C
  refine ge_aload_n (n := 1) C 0 rfl dX7_loadFrom_0 rfl rfl ?_
  refine ge_aload_n (n := 2) C 1 rfl dX7_loadFrom_1 rfl rfl ?_
  refine ge_iconst (v := 0) (n := 3) C dX7_loadFrom_2 (by decide) rfl ?_
  refine al_17 (n := 4) C ho1 dX7_loadFrom_3 rfl ?_
  refine pt_X7_22 (n := 7) C (by decide) dX7_loadFrom_4 rfl (fun S_4 => ?_)
  refine ge_aload_n (n := 8) C 0 rfl dX7_loadFrom_7 rfl rfl ?_
  refine ge_aload_n (n := 9) C 1 rfl dX7_loadFrom_8 rfl rfl ?_
  refine ge_iconst (v := 1) (n := 10) C dX7_loadFrom_9 (by decide) rfl ?_
  refine al_17 (n := 11) C ho1 dX7_loadFrom_10 rfl ?_
  refine pt_X7_31 (n := 14) C (by decide) dX7_loadFrom_11 rfl (fun S_11 => ?_)
  refine ge_aload_n (n := 15) C 0 rfl dX7_loadFrom_14 rfl rfl ?_
  refine ge_aload_n (n := 16) C 1 rfl dX7_loadFrom_15 rfl rfl ?_
  refine ge_iconst (v := 2) (n := 17) C dX7_loadFrom_16 (by decide) rfl ?_
  refine al_17 (n := 18) C ho1 dX7_loadFrom_17 rfl ?_
  refine pt_X7_32 (n := 21) C (by decide) dX7_loadFrom_18 rfl (fun S_18 => ?_)
  refine ge_iconst (v := 0) (n := 22) C dX7_loadFrom_21 (by decide) rfl ?_
  refine ge_istore_n (n := 23) (lv2 := [(2, .int (0 : Int32)), (0, .ref (adr 9 0)), (1, .ref (adr 17 o1))]) C dX7_loadFrom_22 rfl rfl (by decide) rfl ?_
  refine ge_jn (fun (jj : St → Op) => ∀ (S_56 : St), Ge w adr k 56 [] [] S_56 (jj S_56)) (fun S_56 => ?_) (fun kk23 hkk23 => ?_)
  · exact ge_vret C Rr dX7_loadFrom_56
  refine ge_lop (fun (jj : Int32 → St → Op) => ∀ (x2_23 : Int32) (S_23 : St), Ge w adr k 23 [(2, .int x2_23), (0, .ref (adr 9 0)), (1, .ref (adr 17 o1))] [] S_23 (jj x2_23 S_23)) (fun _ _ => ge_none) (fun ag23 hag23 x2_23 S_23 => ?_) FU (0 : Int32) S_18
  refine ge_iload_n (n := 24) C 0 rfl dX7_loadFrom_23 rfl rfl ?_
  refine ge_aload_n (n := 25) C 1 rfl dX7_loadFrom_24 rfl rfl ?_
  refine gt_X7_17 (n := 28) C (by decide) dX7_loadFrom_25 rfl ?_
  refine gt_X7_35 (n := 31) C (pid_lt _) dX7_loadFrom_28 rfl ?_
  refine ge_icmp_ge (t := 56) (n := 34) C dX7_loadFrom_31 (by decide) rfl (fun h_31 => ?_) (fun h_31 => ?_)
  · refine ge_sub [] rfl ?_
    exact hkk23 S_23
  · refine ge_aload_n (n := 35) C 1 rfl dX7_loadFrom_34 rfl rfl ?_
    refine gt_X7_11 (n := 38) C (by decide) dX7_loadFrom_35 rfl ?_
    refine ge_iload_n (n := 39) C 0 rfl dX7_loadFrom_38 rfl rfl ?_
    refine al_10 (n := 40) C (by decide) dX7_loadFrom_39 rfl (fun h_39 => ?_)
    refine ge_aload_n (n := 41) C 2 rfl dX7_loadFrom_40 rfl rfl ?_
    refine ge_iconst (v := 3) (n := 42) C dX7_loadFrom_41 (by decide) rfl ?_
    refine ge_iload_n (n := 43) C 0 rfl dX7_loadFrom_42 rfl rfl ?_
    refine ge_bipush (v := 12) (n := 45) C dX7_loadFrom_43 (by decide) rfl ?_
    refine ge_imul (n := 46) C dX7_loadFrom_45 rfl ?_
    refine ge_iadd (n := 47) C dX7_loadFrom_46 rfl ?_
    refine ge_callVv (n := 50) C (mX3_loadFrom hj (o0 := (Int32.toNatClampNeg x2_23)) (bd_c h_39 (by decide)) (o1 := o1) ho1 ((3 : Int32) + (x2_23 * (12 : Int32))) S_23) gv_X7_118 (cl_11 (bd_c h_39 (by decide))) rfl rfl hc_X3_loadFrom ⟨Nat.le_of_ble_eq_true rfl, Nat.le_of_ble_eq_true rfl⟩ rfl rfl (Nat.le_of_ble_eq_true rfl) dX7_loadFrom_47 rfl (fun _ S_47 => ?_)
    refine ge_iinc (n := 53) (v := (x2_23 + (1 : Int32))) (lv2 := [(2, .int (x2_23 + (1 : Int32))), (0, .ref (adr 9 0)), (1, .ref (adr 17 o1))]) C 0 rfl dX7_loadFrom_50 rfl rfl (by decide) rfl ?_
    refine ge_goto (n := 23) C dX7_loadFrom_53 (by decide) ?_
    exact hag23 (x2_23 + (1 : Int32)) S_47
theorem dX4_pop_0 : decode cX4_pop 0 = .ok (.aload_n 0, 1) := by decide +kernel
theorem dX4_pop_1 : decode cX4_pop 1 = .ok (.aload_n 0, 1) := by decide +kernel
theorem dX4_pop_2 : decode cX4_pop 2 = .ok (.getfield 23, 3) := by decide +kernel
theorem dX4_pop_5 : decode cX4_pop 5 = .ok (.bipush 16, 2) := by decide +kernel
theorem dX4_pop_7 : decode cX4_pop 7 = .ok (.iadd, 1) := by decide +kernel
theorem dX4_pop_8 : decode cX4_pop 8 = .ok (.iconst 1, 1) := by decide +kernel
theorem dX4_pop_9 : decode cX4_pop 9 = .ok (.isub, 1) := by decide +kernel
theorem dX4_pop_10 : decode cX4_pop 10 = .ok (.bipush 16, 2) := by decide +kernel
theorem dX4_pop_12 : decode cX4_pop 12 = .ok (.irem, 1) := by decide +kernel
theorem dX4_pop_13 : decode cX4_pop 13 = .ok (.putfield 23, 3) := by decide +kernel
theorem dX4_pop_16 : decode cX4_pop 16 = .ok (.aload_n 0, 1) := by decide +kernel
theorem dX4_pop_17 : decode cX4_pop 17 = .ok (.dup, 1) := by decide +kernel
theorem dX4_pop_18 : decode cX4_pop 18 = .ok (.getfield 33, 3) := by decide +kernel
theorem dX4_pop_21 : decode cX4_pop 21 = .ok (.iconst 1, 1) := by decide +kernel
theorem dX4_pop_22 : decode cX4_pop 22 = .ok (.isub, 1) := by decide +kernel
theorem dX4_pop_23 : decode cX4_pop 23 = .ok (.putfield 33, 3) := by decide +kernel
theorem dX4_pop_26 : decode cX4_pop 26 = .ok (.aload_n 1, 1) := by decide +kernel
theorem dX4_pop_27 : decode cX4_pop 27 = .ok (.aload_n 0, 1) := by decide +kernel
theorem dX4_pop_28 : decode cX4_pop 28 = .ok (.getfield 11, 3) := by decide +kernel
theorem dX4_pop_31 : decode cX4_pop 31 = .ok (.aload_n 0, 1) := by decide +kernel
theorem dX4_pop_32 : decode cX4_pop 32 = .ok (.getfield 23, 3) := by decide +kernel
theorem dX4_pop_35 : decode cX4_pop 35 = .ok (.aaload, 1) := by decide +kernel
theorem dX4_pop_36 : decode cX4_pop 36 = .ok (.invokevirtual 42, 3) := by decide +kernel
theorem dX4_pop_39 : decode cX4_pop 39 = .ok (.return_, 1) := by decide +kernel
set_option maxRecDepth 100000 in
set_option maxHeartbeats 4000000 in
theorem mX4_pop {w : WX} {adr : Nat → Nat → Nat} (hj : Ij adr)  (S : St) : ∀ (l : Launch) (r : Int32) (S2 : St), fX4_pop S = some (r, S2) → Mv l w adr yX4_pop cX4_pop 2 none 2 45 [.ref (adr 14 0), .ref (adr 9 0)] S S2 := by
  refine mv_of (lv := [(0, .ref (adr 14 0)), (1, .ref (adr 9 0))]) hj (plainFor_of_name (by decide +kernel)) rfl (Nat.le_of_ble_eq_true rfl) (fun k C Rr => ?_)
  have C : Cx w adr k cX4_pop RX4 2 2 45 := C
  refine ge_aload_n (n := 1) C 0 rfl dX4_pop_0 rfl rfl ?_
  refine ge_aload_n (n := 2) C 0 rfl dX4_pop_1 rfl rfl ?_
  refine gt_X4_23 (n := 5) C (by decide) dX4_pop_2 rfl ?_
  refine ge_bipush (v := 16) (n := 7) C dX4_pop_5 (by decide) rfl ?_
  refine ge_iadd (n := 8) C dX4_pop_7 rfl ?_
  refine ge_iconst (v := 1) (n := 9) C dX4_pop_8 (by decide) rfl ?_
  refine ge_isub (n := 10) C dX4_pop_9 rfl ?_
  refine ge_bipush (v := 16) (n := 12) C dX4_pop_10 (by decide) rfl ?_
  refine ge_irem0 (n := 13) C (by decide) dX4_pop_12 rfl ?_
  refine pt_X4_23 (n := 16) C (by decide) dX4_pop_13 rfl (fun S_13 => ?_)
  refine ge_aload_n (n := 17) C 0 rfl dX4_pop_16 rfl rfl ?_
  refine ge_dup (n := 18) C dX4_pop_17 rfl rfl ?_
  refine gt_X4_33 (n := 21) C (by decide) dX4_pop_18 rfl ?_
  refine ge_iconst (v := 1) (n := 22) C dX4_pop_21 (by decide) rfl ?_
  refine ge_isub (n := 23) C dX4_pop_22 rfl ?_
  refine pt_X4_33 (n := 26) C (by decide) dX4_pop_23 rfl (fun S_23 => ?_)
  refine ge_aload_n (n := 27) C 1 rfl dX4_pop_26 rfl rfl ?_
  refine ge_aload_n (n := 28) C 0 rfl dX4_pop_27 rfl rfl ?_
  refine gt_X4_11 (n := 31) C (by decide) dX4_pop_28 rfl ?_
  refine ge_aload_n (n := 32) C 0 rfl dX4_pop_31 rfl rfl ?_
  refine gt_X4_23 (n := 35) C (by decide) dX4_pop_32 rfl ?_
  refine al_15 (n := 36) C (by decide) dX4_pop_35 rfl (fun h_35 => ?_)
  refine ge_callVv (n := 39) C (mX7_loadFrom hj (o1 := (Int32.toNatClampNeg (S_23 14 0 1))) (bd_c h_35 (by decide)) S_23) gv_X4_42 (cl_9 (by decide)) rfl rfl hc_X7_loadFrom ⟨Nat.le_of_ble_eq_true rfl, Nat.le_of_ble_eq_true rfl⟩ rfl rfl (Nat.le_of_ble_eq_true rfl) dX4_pop_36 rfl (fun _ S_36 => ?_)
  exact ge_vret C Rr dX4_pop_39
theorem dX4_hasImage_0 : decode cX4_hasImage 0 = .ok (.aload_n 0, 1) := by decide +kernel
theorem dX4_hasImage_1 : decode cX4_hasImage 1 = .ok (.getfield 45, 3) := by decide +kernel
theorem dX4_hasImage_4 : decode cX4_hasImage 4 = .ok (.iload_n 1, 1) := by decide +kernel
theorem dX4_hasImage_5 : decode cX4_hasImage 5 = .ok (.ishr, 1) := by decide +kernel
theorem dX4_hasImage_6 : decode cX4_hasImage 6 = .ok (.iconst 1, 1) := by decide +kernel
theorem dX4_hasImage_7 : decode cX4_hasImage 7 = .ok (.iand, 1) := by decide +kernel
theorem dX4_hasImage_8 : decode cX4_hasImage 8 = .ok (.iconst 1, 1) := by decide +kernel
theorem dX4_hasImage_9 : decode cX4_hasImage 9 = .ok (.if_icmp .ne 7, 3) := by decide +kernel
theorem dX4_hasImage_12 : decode cX4_hasImage 12 = .ok (.iconst 1, 1) := by decide +kernel
theorem dX4_hasImage_13 : decode cX4_hasImage 13 = .ok (.goto 4, 3) := by decide +kernel
theorem dX4_hasImage_16 : decode cX4_hasImage 16 = .ok (.iconst 0, 1) := by decide +kernel
theorem dX4_hasImage_17 : decode cX4_hasImage 17 = .ok (.ireturn, 1) := by decide +kernel
set_option maxRecDepth 100000 in
set_option maxHeartbeats 4000000 in
theorem mX4_hasImage {w : WX} {adr : Nat → Nat → Nat} (hj : Ij adr) (a1 : Int32) (S : St) : ∀ (l : Launch) (r : Int32) (S2 : St), fX4_hasImage a1 S = some (r, S2) → Mi l w adr yX4_hasImage cX4_hasImage 2 (some .boolean) 0 0 [.ref (adr 14 0), .int a1] S r S2 := by
  refine mi_of (lv := [(0, .ref (adr 14 0)), (1, .int a1)]) hj (plainFor_of_name (by decide +kernel)) rfl (Nat.le_of_ble_eq_true rfl) (fun k C Rr => ?_)
  have C : Cx w adr k cX4_hasImage RX4 2 0 0 := C
  refine ge_aload_n (n := 1) C 0 rfl dX4_hasImage_0 rfl rfl ?_
  refine gt_X4_45 (n := 4) C (by decide) dX4_hasImage_1 rfl ?_
  refine ge_iload_n (n := 5) C 1 rfl dX4_hasImage_4 rfl rfl ?_
  refine ge_ishr (n := 6) C dX4_hasImage_5 rfl ?_
  refine ge_iconst (v := 1) (n := 7) C dX4_hasImage_6 (by decide) rfl ?_
  refine ge_iand (n := 8) C dX4_hasImage_7 rfl ?_
  refine ge_iconst (v := 1) (n := 9) C dX4_hasImage_8 (by decide) rfl ?_
  refine ge_icmp_ne (t := 16) (n := 12) C dX4_hasImage_9 (by decide) rfl (fun h_9 => ?_) (fun h_9 => ?_)
  · refine ge_iconst (v := 0) (n := 17) C dX4_hasImage_16 (by decide) rfl ?_
    exact ge_zret C Rr (by decide) dX4_hasImage_17
  · refine ge_iconst (v := 1) (n := 13) C dX4_hasImage_12 (by decide) rfl ?_
    refine ge_goto (n := 17) C dX4_hasImage_13 (by decide) ?_
    exact ge_zret C Rr (by decide) dX4_hasImage_17
theorem dX4_keepImage_0 : decode cX4_keepImage 0 = .ok (.aload_n 2, 1) := by decide +kernel
theorem dX4_keepImage_1 : decode cX4_keepImage 1 = .ok (.aload_n 0, 1) := by decide +kernel
theorem dX4_keepImage_2 : decode cX4_keepImage 2 = .ok (.getfield 16, 3) := by decide +kernel
theorem dX4_keepImage_5 : decode cX4_keepImage 5 = .ok (.iload_n 1, 1) := by decide +kernel
theorem dX4_keepImage_6 : decode cX4_keepImage 6 = .ok (.aaload, 1) := by decide +kernel
theorem dX4_keepImage_7 : decode cX4_keepImage 7 = .ok (.invokevirtual 27, 3) := by decide +kernel
theorem dX4_keepImage_10 : decode cX4_keepImage 10 = .ok (.aload_n 0, 1) := by decide +kernel
theorem dX4_keepImage_11 : decode cX4_keepImage 11 = .ok (.getfield 19, 3) := by decide +kernel
theorem dX4_keepImage_14 : decode cX4_keepImage 14 = .ok (.iload_n 1, 1) := by decide +kernel
theorem dX4_keepImage_15 : decode cX4_keepImage 15 = .ok (.aload_n 3, 1) := by decide +kernel
theorem dX4_keepImage_16 : decode cX4_keepImage 16 = .ok (.getfield 48, 3) := by decide +kernel
theorem dX4_keepImage_19 : decode cX4_keepImage 19 = .ok (.iastore, 1) := by decide +kernel
theorem dX4_keepImage_20 : decode cX4_keepImage 20 = .ok (.aload_n 0, 1) := by decide +kernel
theorem dX4_keepImage_21 : decode cX4_keepImage 21 = .ok (.dup, 1) := by decide +kernel
theorem dX4_keepImage_22 : decode cX4_keepImage 22 = .ok (.getfield 45, 3) := by decide +kernel
theorem dX4_keepImage_25 : decode cX4_keepImage 25 = .ok (.iconst 1, 1) := by decide +kernel
theorem dX4_keepImage_26 : decode cX4_keepImage 26 = .ok (.iload_n 1, 1) := by decide +kernel
theorem dX4_keepImage_27 : decode cX4_keepImage 27 = .ok (.ishl, 1) := by decide +kernel
theorem dX4_keepImage_28 : decode cX4_keepImage 28 = .ok (.ior, 1) := by decide +kernel
theorem dX4_keepImage_29 : decode cX4_keepImage 29 = .ok (.putfield 45, 3) := by decide +kernel
theorem dX4_keepImage_32 : decode cX4_keepImage 32 = .ok (.return_, 1) := by decide +kernel
set_option maxRecDepth 100000 in
set_option maxHeartbeats 4000000 in
theorem mX4_keepImage {w : WX} {adr : Nat → Nat → Nat} (hj : Ij adr) (a1 : Int32) (S : St) : ∀ (l : Launch) (r : Int32) (S2 : St), fX4_keepImage a1 S = some (r, S2) → Mv l w adr yX4_keepImage cX4_keepImage 4 none 2 45 [.ref (adr 14 0), .int a1, .ref (adr 9 0), .ref (adr 19 0)] S S2 := by
  refine mv_of (lv := [(0, .ref (adr 14 0)), (1, .int a1), (2, .ref (adr 9 0)), (3, .ref (adr 19 0))]) hj (plainFor_of_name (by decide +kernel)) rfl (Nat.le_of_ble_eq_true rfl) (fun k C Rr => ?_)
  have C : Cx w adr k cX4_keepImage RX4 4 2 45 := C
  refine ge_aload_n (n := 1) C 2 rfl dX4_keepImage_0 rfl rfl ?_
  refine ge_aload_n (n := 2) C 0 rfl dX4_keepImage_1 rfl rfl ?_
  refine gt_X4_16 (n := 5) C (by decide) dX4_keepImage_2 rfl ?_
  refine ge_iload_n (n := 6) C 1 rfl dX4_keepImage_5 rfl rfl ?_
  refine al_16 (n := 7) C (by decide) dX4_keepImage_6 rfl (fun h_6 => ?_)
  refine ge_callVv (n := 10) C (mX7_saveTo hj (o1 := (16 + (Int32.toNatClampNeg a1))) (bd_pai h_6) S) gv_X4_27 (cl_9 (by decide)) rfl rfl hc_X7_saveTo ⟨Nat.le_of_ble_eq_true rfl, Nat.le_of_ble_eq_true rfl⟩ rfl rfl (Nat.le_of_ble_eq_true rfl) dX4_keepImage_7 rfl (fun _ S_7 => ?_)
  refine ge_aload_n (n := 11) C 0 rfl dX4_keepImage_10 rfl rfl ?_
  refine gt_X4_19 (n := 14) C (by decide) dX4_keepImage_11 rfl ?_
  refine ge_iload_n (n := 15) C 1 rfl dX4_keepImage_14 rfl rfl ?_
  refine ge_aload_n (n := 16) C 3 rfl dX4_keepImage_15 rfl rfl ?_
  refine gt_X4_48 (n := 19) C (by decide) dX4_keepImage_16 rfl ?_
  refine as_18 (n := 20) C (by decide) dX4_keepImage_19 rfl (fun S_19 => ?_)
  refine ge_aload_n (n := 21) C 0 rfl dX4_keepImage_20 rfl rfl ?_
  refine ge_dup (n := 22) C dX4_keepImage_21 rfl rfl ?_
  refine gt_X4_45 (n := 25) C (by decide) dX4_keepImage_22 rfl ?_
  refine ge_iconst (v := 1) (n := 26) C dX4_keepImage_25 (by decide) rfl ?_
  refine ge_iload_n (n := 27) C 1 rfl dX4_keepImage_26 rfl rfl ?_
  refine ge_ishl (n := 28) C dX4_keepImage_27 rfl ?_
  refine ge_ior (n := 29) C dX4_keepImage_28 rfl ?_
  refine pt_X4_45 (n := 32) C (by decide) dX4_keepImage_29 rfl (fun S_29 => ?_)
  exact ge_vret C Rr dX4_keepImage_32
end
