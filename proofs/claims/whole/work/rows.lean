section
/-- a private method of a class that the tables say can be made, by its rows of tables_1 -/
def lw_okq (q : MethodName × Nat) : Prop := (q.1.cls ≠ "java/lang/invoke/MethodHandle" ∧ q.1.cls ≠ "java/lang/invoke/VarHandle") ∧ Cond.instantiable q.1.cls q.2 ∈ tables_1 ∧ Cond.privateMethod q.1 ∈ tables_1 ∧ Cond.instanceMethod q.1 ∈ tables_1
theorem lw_p0 : lw_okq (⟨"TannedMen", "refusalOfMonths", "(I)I"⟩, 10) := ⟨⟨by decide +kernel, by decide +kernel⟩, List.mem_of_getElem? (i := 16) (by decide +kernel), List.mem_of_getElem? (i := 500) (by decide +kernel), List.mem_of_getElem? (i := 501) (by decide +kernel)⟩
theorem lw_p1 : lw_okq (⟨"TannedMenModel", "here", "()I"⟩, 42) := ⟨⟨by decide +kernel, by decide +kernel⟩, List.mem_of_getElem? (i := 826) (by decide +kernel), List.mem_of_getElem? (i := 974) (by decide +kernel), List.mem_of_getElem? (i := 975) (by decide +kernel)⟩
theorem lw_p2 : lw_okq (⟨"TannedMenModel", "takeClause", "()I"⟩, 42) := ⟨⟨by decide +kernel, by decide +kernel⟩, List.mem_of_getElem? (i := 826) (by decide +kernel), List.mem_of_getElem? (i := 978) (by decide +kernel), List.mem_of_getElem? (i := 979) (by decide +kernel)⟩
theorem lw_p3 : lw_okq (⟨"TannedMenModel", "fails", "(II)I"⟩, 42) := ⟨⟨by decide +kernel, by decide +kernel⟩, List.mem_of_getElem? (i := 826) (by decide +kernel), List.mem_of_getElem? (i := 982) (by decide +kernel), List.mem_of_getElem? (i := 983) (by decide +kernel)⟩
theorem lw_p4 : lw_okq (⟨"TannedMenModel", "isFull", "(I)Z"⟩, 42) := ⟨⟨by decide +kernel, by decide +kernel⟩, List.mem_of_getElem? (i := 826) (by decide +kernel), List.mem_of_getElem? (i := 986) (by decide +kernel), List.mem_of_getElem? (i := 987) (by decide +kernel)⟩
theorem lw_p5 : lw_okq (⟨"TannedMenModel", "takeBody", "(I)I"⟩, 42) := ⟨⟨by decide +kernel, by decide +kernel⟩, List.mem_of_getElem? (i := 826) (by decide +kernel), List.mem_of_getElem? (i := 990) (by decide +kernel), List.mem_of_getElem? (i := 991) (by decide +kernel)⟩
theorem lw_p6 : lw_okq (⟨"TannedMenModel", "takePits", "()I"⟩, 42) := ⟨⟨by decide +kernel, by decide +kernel⟩, List.mem_of_getElem? (i := 826) (by decide +kernel), List.mem_of_getElem? (i := 994) (by decide +kernel), List.mem_of_getElem? (i := 995) (by decide +kernel)⟩
theorem lw_p7 : lw_okq (⟨"TannedMenModel", "takeNumber", "(II)I"⟩, 42) := ⟨⟨by decide +kernel, by decide +kernel⟩, List.mem_of_getElem? (i := 826) (by decide +kernel), List.mem_of_getElem? (i := 998) (by decide +kernel), List.mem_of_getElem? (i := 999) (by decide +kernel)⟩
theorem lw_p8 : lw_okq (⟨"TannedMenModel", "takeMan", "()I"⟩, 42) := ⟨⟨by decide +kernel, by decide +kernel⟩, List.mem_of_getElem? (i := 826) (by decide +kernel), List.mem_of_getElem? (i := 1004) (by decide +kernel), List.mem_of_getElem? (i := 1005) (by decide +kernel)⟩
theorem lw_p9 : lw_okq (⟨"TannedMenModel", "takeSaying", "()I"⟩, 42) := ⟨⟨by decide +kernel, by decide +kernel⟩, List.mem_of_getElem? (i := 826) (by decide +kernel), List.mem_of_getElem? (i := 1008) (by decide +kernel), List.mem_of_getElem? (i := 1009) (by decide +kernel)⟩
theorem lw_p10 : lw_okq (⟨"TannedMenModel", "takeRead", "()V"⟩, 42) := ⟨⟨by decide +kernel, by decide +kernel⟩, List.mem_of_getElem? (i := 826) (by decide +kernel), List.mem_of_getElem? (i := 1012) (by decide +kernel), List.mem_of_getElem? (i := 1013) (by decide +kernel)⟩
theorem lw_p11 : lw_okq (⟨"TannedMenModel", "woundsAll", "()I"⟩, 42) := ⟨⟨by decide +kernel, by decide +kernel⟩, List.mem_of_getElem? (i := 826) (by decide +kernel), List.mem_of_getElem? (i := 1024) (by decide +kernel), List.mem_of_getElem? (i := 1025) (by decide +kernel)⟩
theorem lw_p12 : lw_okq (⟨"TannedMenModel", "bestMan", "()I"⟩, 42) := ⟨⟨by decide +kernel, by decide +kernel⟩, List.mem_of_getElem? (i := 826) (by decide +kernel), List.mem_of_getElem? (i := 1028) (by decide +kernel), List.mem_of_getElem? (i := 1029) (by decide +kernel)⟩
theorem lw_p13 : lw_okq (⟨"TannedMenModel", "hurtOf", "(II)I"⟩, 42) := ⟨⟨by decide +kernel, by decide +kernel⟩, List.mem_of_getElem? (i := 826) (by decide +kernel), List.mem_of_getElem? (i := 1033) (by decide +kernel), List.mem_of_getElem? (i := 1034) (by decide +kernel)⟩
theorem lw_p14 : lw_okq (⟨"TannedMenModel", "takesSkin", "(I)V"⟩, 42) := ⟨⟨by decide +kernel, by decide +kernel⟩, List.mem_of_getElem? (i := 826) (by decide +kernel), List.mem_of_getElem? (i := 1037) (by decide +kernel), List.mem_of_getElem? (i := 1038) (by decide +kernel)⟩
theorem lw_p15 : lw_okq (⟨"TannedMenModel", "hurts", "(I)I"⟩, 42) := ⟨⟨by decide +kernel, by decide +kernel⟩, List.mem_of_getElem? (i := 826) (by decide +kernel), List.mem_of_getElem? (i := 1041) (by decide +kernel), List.mem_of_getElem? (i := 1042) (by decide +kernel)⟩
def lw_privs_1 : List (MethodName × Nat) := [(⟨"TannedMen", "refusalOfMonths", "(I)I"⟩, 10), (⟨"TannedMenModel", "here", "()I"⟩, 42), (⟨"TannedMenModel", "takeClause", "()I"⟩, 42), (⟨"TannedMenModel", "fails", "(II)I"⟩, 42), (⟨"TannedMenModel", "isFull", "(I)Z"⟩, 42), (⟨"TannedMenModel", "takeBody", "(I)I"⟩, 42), (⟨"TannedMenModel", "takePits", "()I"⟩, 42), (⟨"TannedMenModel", "takeNumber", "(II)I"⟩, 42), (⟨"TannedMenModel", "takeMan", "()I"⟩, 42), (⟨"TannedMenModel", "takeSaying", "()I"⟩, 42), (⟨"TannedMenModel", "takeRead", "()V"⟩, 42), (⟨"TannedMenModel", "woundsAll", "()I"⟩, 42), (⟨"TannedMenModel", "bestMan", "()I"⟩, 42), (⟨"TannedMenModel", "hurtOf", "(II)I"⟩, 42), (⟨"TannedMenModel", "takesSkin", "(I)V"⟩, 42), (⟨"TannedMenModel", "hurts", "(I)I"⟩, 42)]
theorem lw_r1 : ∀ q ∈ lw_privs_1, lw_okq q := List.forall_mem_cons.mpr ⟨lw_p0, List.forall_mem_cons.mpr ⟨lw_p1, List.forall_mem_cons.mpr ⟨lw_p2, List.forall_mem_cons.mpr ⟨lw_p3, List.forall_mem_cons.mpr ⟨lw_p4, List.forall_mem_cons.mpr ⟨lw_p5, List.forall_mem_cons.mpr ⟨lw_p6, List.forall_mem_cons.mpr ⟨lw_p7, List.forall_mem_cons.mpr ⟨lw_p8, List.forall_mem_cons.mpr ⟨lw_p9, List.forall_mem_cons.mpr ⟨lw_p10, List.forall_mem_cons.mpr ⟨lw_p11, List.forall_mem_cons.mpr ⟨lw_p12, List.forall_mem_cons.mpr ⟨lw_p13, List.forall_mem_cons.mpr ⟨lw_p14, List.forall_mem_cons.mpr ⟨lw_p15, fun _ h => absurd h List.not_mem_nil⟩⟩⟩⟩⟩⟩⟩⟩⟩⟩⟩⟩⟩⟩⟩⟩
theorem lw_p16 : lw_okq (⟨"TannedMenModel", "chosen", "()I"⟩, 42) := ⟨⟨by decide +kernel, by decide +kernel⟩, List.mem_of_getElem? (i := 826) (by decide +kernel), List.mem_of_getElem? (i := 1045) (by decide +kernel), List.mem_of_getElem? (i := 1046) (by decide +kernel)⟩
theorem lw_p17 : lw_okq (⟨"TannedMenModel", "tender", "()I"⟩, 42) := ⟨⟨by decide +kernel, by decide +kernel⟩, List.mem_of_getElem? (i := 826) (by decide +kernel), List.mem_of_getElem? (i := 1049) (by decide +kernel), List.mem_of_getElem? (i := 1050) (by decide +kernel)⟩
theorem lw_p18 : lw_okq (⟨"TannedMenModel", "isMan", "(I)Z"⟩, 42) := ⟨⟨by decide +kernel, by decide +kernel⟩, List.mem_of_getElem? (i := 826) (by decide +kernel), List.mem_of_getElem? (i := 1058) (by decide +kernel), List.mem_of_getElem? (i := 1059) (by decide +kernel)⟩
theorem lw_p19 : lw_okq (⟨"TannedMenModel", "borneNow", "()I"⟩, 42) := ⟨⟨by decide +kernel, by decide +kernel⟩, List.mem_of_getElem? (i := 826) (by decide +kernel), List.mem_of_getElem? (i := 1063) (by decide +kernel), List.mem_of_getElem? (i := 1064) (by decide +kernel)⟩
theorem lw_p20 : lw_okq (⟨"TannedMenModel", "feltNow", "()I"⟩, 42) := ⟨⟨by decide +kernel, by decide +kernel⟩, List.mem_of_getElem? (i := 826) (by decide +kernel), List.mem_of_getElem? (i := 1067) (by decide +kernel), List.mem_of_getElem? (i := 1068) (by decide +kernel)⟩
theorem lw_p21 : lw_okq (⟨"TannedMenModel", "isSaying", "(I)Z"⟩, 42) := ⟨⟨by decide +kernel, by decide +kernel⟩, List.mem_of_getElem? (i := 826) (by decide +kernel), List.mem_of_getElem? (i := 1083) (by decide +kernel), List.mem_of_getElem? (i := 1084) (by decide +kernel)⟩
theorem lw_p22 : lw_okq (⟨"TannedMenModel", "monthsRefused", "(I)I"⟩, 42) := ⟨⟨by decide +kernel, by decide +kernel⟩, List.mem_of_getElem? (i := 826) (by decide +kernel), List.mem_of_getElem? (i := 1095) (by decide +kernel), List.mem_of_getElem? (i := 1096) (by decide +kernel)⟩
theorem lw_p23 : lw_okq (⟨"TannedMenModel", "remember", "()V"⟩, 42) := ⟨⟨by decide +kernel, by decide +kernel⟩, List.mem_of_getElem? (i := 826) (by decide +kernel), List.mem_of_getElem? (i := 1101) (by decide +kernel), List.mem_of_getElem? (i := 1102) (by decide +kernel)⟩
theorem lw_p24 : lw_okq (⟨"TannedMenModel", "passes", "()V"⟩, 42) := ⟨⟨by decide +kernel, by decide +kernel⟩, List.mem_of_getElem? (i := 826) (by decide +kernel), List.mem_of_getElem? (i := 1105) (by decide +kernel), List.mem_of_getElem? (i := 1106) (by decide +kernel)⟩
theorem lw_p25 : lw_okq (⟨"TannedMenModel", "tans", "(III)V"⟩, 42) := ⟨⟨by decide +kernel, by decide +kernel⟩, List.mem_of_getElem? (i := 826) (by decide +kernel), List.mem_of_getElem? (i := 1112) (by decide +kernel), List.mem_of_getElem? (i := 1113) (by decide +kernel)⟩
theorem lw_p26 : lw_okq (⟨"TannedMenModel", "free", "()I"⟩, 42) := ⟨⟨by decide +kernel, by decide +kernel⟩, List.mem_of_getElem? (i := 826) (by decide +kernel), List.mem_of_getElem? (i := 1123) (by decide +kernel), List.mem_of_getElem? (i := 1124) (by decide +kernel)⟩
theorem lw_p27 : lw_okq (⟨"TannedMenModel", "scrapes", "(III)V"⟩, 42) := ⟨⟨by decide +kernel, by decide +kernel⟩, List.mem_of_getElem? (i := 826) (by decide +kernel), List.mem_of_getElem? (i := 1139) (by decide +kernel), List.mem_of_getElem? (i := 1140) (by decide +kernel)⟩
theorem lw_p28 : lw_okq (⟨"TannedMenModel", "wounds", "(II)V"⟩, 42) := ⟨⟨by decide +kernel, by decide +kernel⟩, List.mem_of_getElem? (i := 826) (by decide +kernel), List.mem_of_getElem? (i := 1148) (by decide +kernel), List.mem_of_getElem? (i := 1149) (by decide +kernel)⟩
theorem lw_p29 : lw_okq (⟨"TannedMenModel", "chance", "()V"⟩, 42) := ⟨⟨by decide +kernel, by decide +kernel⟩, List.mem_of_getElem? (i := 826) (by decide +kernel), List.mem_of_getElem? (i := 1162) (by decide +kernel), List.mem_of_getElem? (i := 1163) (by decide +kernel)⟩
theorem lw_p30 : lw_okq (⟨"TannedMenModel", "draw", "(I)I"⟩, 42) := ⟨⟨by decide +kernel, by decide +kernel⟩, List.mem_of_getElem? (i := 826) (by decide +kernel), List.mem_of_getElem? (i := 1166) (by decide +kernel), List.mem_of_getElem? (i := 1167) (by decide +kernel)⟩
theorem lw_p31 : lw_okq (⟨"TannedMenModel", "areSayings", "(I)Z"⟩, 42) := ⟨⟨by decide +kernel, by decide +kernel⟩, List.mem_of_getElem? (i := 826) (by decide +kernel), List.mem_of_getElem? (i := 1191) (by decide +kernel), List.mem_of_getElem? (i := 1192) (by decide +kernel)⟩
def lw_privs_2 : List (MethodName × Nat) := [(⟨"TannedMenModel", "chosen", "()I"⟩, 42), (⟨"TannedMenModel", "tender", "()I"⟩, 42), (⟨"TannedMenModel", "isMan", "(I)Z"⟩, 42), (⟨"TannedMenModel", "borneNow", "()I"⟩, 42), (⟨"TannedMenModel", "feltNow", "()I"⟩, 42), (⟨"TannedMenModel", "isSaying", "(I)Z"⟩, 42), (⟨"TannedMenModel", "monthsRefused", "(I)I"⟩, 42), (⟨"TannedMenModel", "remember", "()V"⟩, 42), (⟨"TannedMenModel", "passes", "()V"⟩, 42), (⟨"TannedMenModel", "tans", "(III)V"⟩, 42), (⟨"TannedMenModel", "free", "()I"⟩, 42), (⟨"TannedMenModel", "scrapes", "(III)V"⟩, 42), (⟨"TannedMenModel", "wounds", "(II)V"⟩, 42), (⟨"TannedMenModel", "chance", "()V"⟩, 42), (⟨"TannedMenModel", "draw", "(I)I"⟩, 42), (⟨"TannedMenModel", "areSayings", "(I)Z"⟩, 42)]
theorem lw_r2 : ∀ q ∈ lw_privs_2, lw_okq q := List.forall_mem_cons.mpr ⟨lw_p16, List.forall_mem_cons.mpr ⟨lw_p17, List.forall_mem_cons.mpr ⟨lw_p18, List.forall_mem_cons.mpr ⟨lw_p19, List.forall_mem_cons.mpr ⟨lw_p20, List.forall_mem_cons.mpr ⟨lw_p21, List.forall_mem_cons.mpr ⟨lw_p22, List.forall_mem_cons.mpr ⟨lw_p23, List.forall_mem_cons.mpr ⟨lw_p24, List.forall_mem_cons.mpr ⟨lw_p25, List.forall_mem_cons.mpr ⟨lw_p26, List.forall_mem_cons.mpr ⟨lw_p27, List.forall_mem_cons.mpr ⟨lw_p28, List.forall_mem_cons.mpr ⟨lw_p29, List.forall_mem_cons.mpr ⟨lw_p30, List.forall_mem_cons.mpr ⟨lw_p31, fun _ h => absurd h List.not_mem_nil⟩⟩⟩⟩⟩⟩⟩⟩⟩⟩⟩⟩⟩⟩⟩⟩
theorem lw_p32 : lw_okq (⟨"TannedMenModel", "goThrough", "(II)Z"⟩, 42) := ⟨⟨by decide +kernel, by decide +kernel⟩, List.mem_of_getElem? (i := 826) (by decide +kernel), List.mem_of_getElem? (i := 1204) (by decide +kernel), List.mem_of_getElem? (i := 1205) (by decide +kernel)⟩
theorem lw_p33 : lw_okq (⟨"TannedMenModel", "laysStays", "(I)I"⟩, 42) := ⟨⟨by decide +kernel, by decide +kernel⟩, List.mem_of_getElem? (i := 826) (by decide +kernel), List.mem_of_getElem? (i := 1227) (by decide +kernel), List.mem_of_getElem? (i := 1228) (by decide +kernel)⟩
theorem lw_p34 : lw_okq (⟨"TannedMenModel", "takesFirst", "(I)V"⟩, 42) := ⟨⟨by decide +kernel, by decide +kernel⟩, List.mem_of_getElem? (i := 826) (by decide +kernel), List.mem_of_getElem? (i := 1231) (by decide +kernel), List.mem_of_getElem? (i := 1232) (by decide +kernel)⟩
def lw_privs_3 : List (MethodName × Nat) := [(⟨"TannedMenModel", "goThrough", "(II)Z"⟩, 42), (⟨"TannedMenModel", "laysStays", "(I)I"⟩, 42), (⟨"TannedMenModel", "takesFirst", "(I)V"⟩, 42)]
theorem lw_r3 : ∀ q ∈ lw_privs_3, lw_okq q := List.forall_mem_cons.mpr ⟨lw_p32, List.forall_mem_cons.mpr ⟨lw_p33, List.forall_mem_cons.mpr ⟨lw_p34, fun _ h => absurd h List.not_mem_nil⟩⟩⟩
def lw_privs : List (MethodName × Nat) := lw_privs_1 ++ (lw_privs_2 ++ (lw_privs_3))
def lw_tbl : List Cond := k2_sels lw_privs ++ tables_1
theorem lw_privs_ok : ∀ q ∈ lw_privs, lw_okq q := by
  show ∀ q ∈ lw_privs_1 ++ (lw_privs_2 ++ (lw_privs_3)), lw_okq q
  exact List.forall_mem_append.mpr ⟨lw_r1, List.forall_mem_append.mpr ⟨lw_r2, lw_r3⟩⟩
end
section
def RX0 : String := "TannedMen$Book"
def TX0 : u_T := fun k => match k with
  | 0 => ("TannedMen$Book", "man", "[I", true)
  | 1 => ("TannedMen$Book", "wounds", "[I", true)
  | _ => ("TannedMen$Book", "count", "I", false)
def tyX0 : Nat → FieldType := fun k => match k with
  | 0 => .array .int
  | 1 => .array .int
  | _ => .int
abbrev wsX00 : List Cond := u_ws RX0 TX0 3
theorem nmX0 : ∀ a, a < 3 → ∀ b, b < 3 → a ≠ b → (TX0 a).2.1 ≠ (TX0 b).2.1 := by decide +kernel
theorem tyX0_ok : ∀ k, k < 3 → parseFieldDescriptor (TX0 k).2.2.1 = some (tyX0 k) := by decide +kernel
abbrev cX0_init : ByteArray := prog_2_method_1_code
def yX0_init : MethodName := ⟨RX0, "<init>", "()V"⟩
abbrev cX0_add : ByteArray := prog_2_method_2_code
def yX0_add : MethodName := ⟨RX0, "add", "(II)I"⟩
abbrev cX0_firstWrong : ByteArray := prog_2_method_3_code
def yX0_firstWrong : MethodName := ⟨RX0, "firstWrong", "(LTannedMen$State;)I"⟩
def RX1 : String := "TannedMen$Draws"
def TX1 : u_T := fun k => match k with
  | _ => ("TannedMen$Draws", "root", "I", false)
def tyX1 : Nat → FieldType := fun k => match k with
  | _ => .int
abbrev wsX10 : List Cond := u_ws RX1 TX1 1
theorem nmX1 : ∀ a, a < 1 → ∀ b, b < 1 → a ≠ b → (TX1 a).2.1 ≠ (TX1 b).2.1 := by decide +kernel
theorem tyX1_ok : ∀ k, k < 1 → parseFieldDescriptor (TX1 k).2.2.1 = some (tyX1 k) := by decide +kernel
abbrev cX1_init : ByteArray := prog_3_method_1_code
def yX1_init : MethodName := ⟨RX1, "<init>", "()V"⟩
abbrev cX1_next : ByteArray := prog_3_method_2_code
def yX1_next : MethodName := ⟨RX1, "next", "(I)I"⟩
def RX2 : String := "TannedMen$Ears"
def TX2 : u_T := fun k => match k with
  | 0 => ("TannedMen$Ears", "man", "[I", true)
  | 1 => ("TannedMen$Ears", "saying", "[I", true)
  | 2 => ("TannedMen$Ears", "pain", "[I", true)
  | 3 => ("TannedMen$Ears", "count", "I", false)
  | 4 => ("TannedMen$Ears", "stayCount", "I", false)
  | 5 => ("TannedMen$Ears", "lastPain", "[I", true)
  | 6 => ("TannedMen$Ears", "lastPart", "[I", true)
  | _ => ("TannedMen$Ears", "greatestPart", "[I", true)
def tyX2 : Nat → FieldType := fun k => match k with
  | 0 => .array .int
  | 1 => .array .int
  | 2 => .array .int
  | 3 => .int
  | 4 => .int
  | 5 => .array .int
  | 6 => .array .int
  | _ => .array .int
abbrev wsX20 : List Cond := u_ws RX2 TX2 8
theorem nmX2 : ∀ a, a < 8 → ∀ b, b < 8 → a ≠ b → (TX2 a).2.1 ≠ (TX2 b).2.1 := by decide +kernel
theorem tyX2_ok : ∀ k, k < 8 → parseFieldDescriptor (TX2 k).2.2.1 = some (tyX2 k) := by decide +kernel
abbrev cX2_init : ByteArray := prog_4_method_1_code
def yX2_init : MethodName := ⟨RX2, "<init>", "()V"⟩
abbrev cX2_add : ByteArray := prog_4_method_2_code
def yX2_add : MethodName := ⟨RX2, "add", "(III)I"⟩
abbrev cX2_agree : ByteArray := prog_4_method_3_code
def yX2_agree : MethodName := ⟨RX2, "agree", "(LTannedMen$Plan;LTannedMen$Man;I)Z"⟩
abbrev cX2_clearParts : ByteArray := prog_4_method_4_code
def yX2_clearParts : MethodName := ⟨RX2, "clearParts", "()V"⟩
abbrev cX2_part : ByteArray := prog_4_method_5_code
def yX2_part : MethodName := ⟨RX2, "part", "(LTannedMen$Plan;LTannedMen$Man;)V"⟩
abbrev cX2_bestParting : ByteArray := prog_4_method_6_code
def yX2_bestParting : MethodName := ⟨RX2, "bestParting", "(I)I"⟩
def RX3 : String := "TannedMen$Man"
def TX3 : u_T := fun k => match k with
  | 0 => ("TannedMen$Man", "kind", "I", false)
  | 1 => ("TannedMen$Man", "inside", "I", false)
  | 2 => ("TannedMen$Man", "wounds", "I", false)
  | 3 => ("TannedMen$Man", "soft", "[I", true)
  | _ => ("TannedMen$Man", "thick", "[I", true)
def tyX3 : Nat → FieldType := fun k => match k with
  | 0 => .int
  | 1 => .int
  | 2 => .int
  | 3 => .array .int
  | _ => .array .int
abbrev wsX30 : List Cond := u_ws RX3 TX3 5
theorem nmX3 : ∀ a, a < 5 → ∀ b, b < 5 → a ≠ b → (TX3 a).2.1 ≠ (TX3 b).2.1 := by decide +kernel
theorem tyX3_ok : ∀ k, k < 5 → parseFieldDescriptor (TX3 k).2.2.1 = some (tyX3 k) := by decide +kernel
abbrev cX3_init : ByteArray := prog_5_method_1_code
def yX3_init : MethodName := ⟨RX3, "<init>", "()V"⟩
abbrev cX3_begin : ByteArray := prog_5_method_2_code
def yX3_begin : MethodName := ⟨RX3, "begin", "(LTannedMen$Plan;I)V"⟩
abbrev cX3_copySkin : ByteArray := prog_5_method_3_code
def yX3_copySkin : MethodName := ⟨RX3, "copySkin", "(LTannedMen$Man;)V"⟩
abbrev cX3_tan : ByteArray := prog_5_method_4_code
def yX3_tan : MethodName := ⟨RX3, "tan", "(II)V"⟩
abbrev cX3_thickenAll : ByteArray := prog_5_method_5_code
def yX3_thickenAll : MethodName := ⟨RX3, "thickenAll", "(II)V"⟩
abbrev cX3_thicken : ByteArray := prog_5_method_6_code
def yX3_thicken : MethodName := ⟨RX3, "thicken", "(II)V"⟩
abbrev cX3_thinnestPlace : ByteArray := prog_5_method_7_code
def yX3_thinnestPlace : MethodName := ⟨RX3, "thinnestPlace", "()I"⟩
abbrev cX3_isOver : ByteArray := prog_5_method_8_code
def yX3_isOver : MethodName := ⟨RX3, "isOver", "(LTannedMen$Man;)Z"⟩
abbrev cX3_saveTo : ByteArray := prog_5_method_9_code
def yX3_saveTo : MethodName := ⟨RX3, "saveTo", "([II)V"⟩
abbrev cX3_loadFrom : ByteArray := prog_5_method_10_code
def yX3_loadFrom : MethodName := ⟨RX3, "loadFrom", "([II)V"⟩
def RX4 : String := "TannedMen$Past"
def TX4 : u_T := fun k => match k with
  | 0 => ("TannedMen$Past", "rows", "[[I", true)
  | 1 => ("TannedMen$Past", "next", "I", false)
  | 2 => ("TannedMen$Past", "count", "I", false)
  | 3 => ("TannedMen$Past", "imageRows", "[[I", true)
  | 4 => ("TannedMen$Past", "imageRoots", "[I", true)
  | _ => ("TannedMen$Past", "images", "I", false)
def tyX4 : Nat → FieldType := fun k => match k with
  | 0 => .array (.array .int)
  | 1 => .int
  | 2 => .int
  | 3 => .array (.array .int)
  | 4 => .array .int
  | _ => .int
abbrev wsX40 : List Cond := u_ws RX4 TX4 6
theorem nmX4 : ∀ a, a < 6 → ∀ b, b < 6 → a ≠ b → (TX4 a).2.1 ≠ (TX4 b).2.1 := by decide +kernel
theorem tyX4_ok : ∀ k, k < 6 → parseFieldDescriptor (TX4 k).2.2.1 = some (tyX4 k) := by decide +kernel
abbrev cX4_init : ByteArray := prog_6_method_1_code
def yX4_init : MethodName := ⟨RX4, "<init>", "()V"⟩
abbrev cX4_push : ByteArray := prog_6_method_2_code
def yX4_push : MethodName := ⟨RX4, "push", "(LTannedMen$State;)V"⟩
abbrev cX4_pop : ByteArray := prog_6_method_3_code
def yX4_pop : MethodName := ⟨RX4, "pop", "(LTannedMen$State;)V"⟩
abbrev cX4_hasImage : ByteArray := prog_6_method_4_code
def yX4_hasImage : MethodName := ⟨RX4, "hasImage", "(I)Z"⟩
abbrev cX4_keepImage : ByteArray := prog_6_method_5_code
def yX4_keepImage : MethodName := ⟨RX4, "keepImage", "(ILTannedMen$State;LTannedMen$Draws;)V"⟩
abbrev cX4_loadImage : ByteArray := prog_6_method_6_code
def yX4_loadImage : MethodName := ⟨RX4, "loadImage", "(ILTannedMen$State;LTannedMen$Draws;)V"⟩
def RX5 : String := "TannedMen$PitQueue"
def TX5 : u_T := fun k => match k with
  | 0 => ("TannedMen$PitQueue", "need", "[I", true)
  | 1 => ("TannedMen$PitQueue", "months", "[I", true)
  | _ => ("TannedMen$PitQueue", "pits", "[I", true)
def tyX5 : Nat → FieldType := fun k => match k with
  | 0 => .array .int
  | 1 => .array .int
  | _ => .array .int
abbrev wsX50 : List Cond := u_ws RX5 TX5 3
theorem nmX5 : ∀ a, a < 3 → ∀ b, b < 3 → a ≠ b → (TX5 a).2.1 ≠ (TX5 b).2.1 := by decide +kernel
theorem tyX5_ok : ∀ k, k < 3 → parseFieldDescriptor (TX5 k).2.2.1 = some (tyX5 k) := by decide +kernel
abbrev cX5_init : ByteArray := prog_7_method_1_code
def yX5_init : MethodName := ⟨RX5, "<init>", "()V"⟩
abbrev cX5_fill : ByteArray := prog_7_method_2_code
def yX5_fill : MethodName := ⟨RX5, "fill", "(II)V"⟩
abbrev cX5_addMonths : ByteArray := prog_7_method_3_code
def yX5_addMonths : MethodName := ⟨RX5, "addMonths", "(I)V"⟩
abbrev cX5_fewestPits : ByteArray := prog_7_method_4_code
def yX5_fewestPits : MethodName := ⟨RX5, "fewestPits", "(II)I"⟩
abbrev cX5_mostWithin : ByteArray := prog_7_method_5_code
def yX5_mostWithin : MethodName := ⟨RX5, "mostWithin", "(II)I"⟩
def RX6 : String := "TannedMen$Plan"
def TX6 : u_T := fun k => match k with
  | 0 => ("TannedMen$Plan", "pits", "I", false)
  | 1 => ("TannedMen$Plan", "bark", "I", false)
  | 2 => ("TannedMen$Plan", "men", "I", false)
  | 3 => ("TannedMen$Plan", "sayings", "I", false)
  | 4 => ("TannedMen$Plan", "kind", "[I", true)
  | 5 => ("TannedMen$Plan", "soft", "[[I", true)
  | 6 => ("TannedMen$Plan", "place", "[I", true)
  | _ => ("TannedMen$Plan", "sharp", "[I", true)
def tyX6 : Nat → FieldType := fun k => match k with
  | 0 => .int
  | 1 => .int
  | 2 => .int
  | 3 => .int
  | 4 => .array .int
  | 5 => .array (.array .int)
  | 6 => .array .int
  | _ => .array .int
abbrev wsX60 : List Cond := u_ws RX6 TX6 8
theorem nmX6 : ∀ a, a < 8 → ∀ b, b < 8 → a ≠ b → (TX6 a).2.1 ≠ (TX6 b).2.1 := by decide +kernel
theorem tyX6_ok : ∀ k, k < 8 → parseFieldDescriptor (TX6 k).2.2.1 = some (tyX6 k) := by decide +kernel
abbrev cX6_init : ByteArray := prog_8_method_1_code
def yX6_init : MethodName := ⟨RX6, "<init>", "()V"⟩
abbrev cX6_clear : ByteArray := prog_8_method_2_code
def yX6_clear : MethodName := ⟨RX6, "clear", "()V"⟩
abbrev cX6_isNone : ByteArray := prog_8_method_3_code
def yX6_isNone : MethodName := ⟨RX6, "isNone", "()Z"⟩
abbrev cX6_hasMan : ByteArray := prog_8_method_4_code
def yX6_hasMan : MethodName := ⟨RX6, "hasMan", "(I)Z"⟩
abbrev cX6_hasSaying : ByteArray := prog_8_method_5_code
def yX6_hasSaying : MethodName := ⟨RX6, "hasSaying", "(I)Z"⟩
abbrev cX6_hasSet : ByteArray := prog_8_method_6_code
def yX6_hasSet : MethodName := ⟨RX6, "hasSet", "(I)Z"⟩
abbrev cX6_everySaying : ByteArray := prog_8_method_7_code
def yX6_everySaying : MethodName := ⟨RX6, "everySaying", "()I"⟩
abbrev cX6_pain : ByteArray := prog_8_method_8_code
def yX6_pain : MethodName := ⟨RX6, "pain", "(LTannedMen$Man;I)I"⟩
abbrev cX6_setBorne : ByteArray := prog_8_method_9_code
def yX6_setBorne : MethodName := ⟨RX6, "setBorne", "(LTannedMen$Man;)I"⟩
abbrev cX6_setFelt : ByteArray := prog_8_method_10_code
def yX6_setFelt : MethodName := ⟨RX6, "setFelt", "(LTannedMen$Man;)I"⟩
abbrev cX6_bearsAll : ByteArray := prog_8_method_11_code
def yX6_bearsAll : MethodName := ⟨RX6, "bearsAll", "(LTannedMen$Man;I)Z"⟩
abbrev cX6_feelsAll : ByteArray := prog_8_method_12_code
def yX6_feelsAll : MethodName := ⟨RX6, "feelsAll", "(LTannedMen$Man;I)Z"⟩
abbrev cX6_wholePain : ByteArray := prog_8_method_13_code
def yX6_wholePain : MethodName := ⟨RX6, "wholePain", "(LTannedMen$Man;)I"⟩
abbrev cX6_leastScraping : ByteArray := prog_8_method_14_code
def yX6_leastScraping : MethodName := ⟨RX6, "leastScraping", "(LTannedMen$Man;I)I"⟩
abbrev cX6_scrapingAt : ByteArray := prog_8_method_15_code
def yX6_scrapingAt : MethodName := ⟨RX6, "scrapingAt", "(LTannedMen$Man;II)I"⟩
def RX7 : String := "TannedMen$State"
def TX7 : u_T := fun k => match k with
  | 0 => ("TannedMen$State", "plan", "LTannedMen$Plan;", false)
  | 1 => ("TannedMen$State", "months", "I", false)
  | 2 => ("TannedMen$State", "bark", "I", false)
  | 3 => ("TannedMen$State", "glue", "I", false)
  | _ => ("TannedMen$State", "men", "[LTannedMen$Man;", true)
def tyX7 : Nat → FieldType := fun k => match k with
  | 0 => .object "TannedMen$Plan"
  | 1 => .int
  | 2 => .int
  | 3 => .int
  | _ => .array (.object "TannedMen$Man")
abbrev wsX70 : List Cond := u_ws RX7 TX7 5
theorem nmX7 : ∀ a, a < 5 → ∀ b, b < 5 → a ≠ b → (TX7 a).2.1 ≠ (TX7 b).2.1 := by decide +kernel
theorem tyX7_ok : ∀ k, k < 5 → parseFieldDescriptor (TX7 k).2.2.1 = some (tyX7 k) := by decide +kernel
abbrev cX7_init : ByteArray := prog_9_method_1_code
def yX7_init : MethodName := ⟨RX7, "<init>", "(LTannedMen$Plan;)V"⟩
abbrev cX7_begin : ByteArray := prog_9_method_2_code
def yX7_begin : MethodName := ⟨RX7, "begin", "(LTannedMen$Plan;)V"⟩
abbrev cX7_passMonth : ByteArray := prog_9_method_3_code
def yX7_passMonth : MethodName := ⟨RX7, "passMonth", "()V"⟩
abbrev cX7_freePits : ByteArray := prog_9_method_4_code
def yX7_freePits : MethodName := ⟨RX7, "freePits", "()I"⟩
abbrev cX7_setInside : ByteArray := prog_9_method_5_code
def yX7_setInside : MethodName := ⟨RX7, "setInside", "()I"⟩
abbrev cX7_allWounds : ByteArray := prog_9_method_6_code
def yX7_allWounds : MethodName := ⟨RX7, "allWounds", "()I"⟩
abbrev cX7_scrapeOff : ByteArray := prog_9_method_7_code
def yX7_scrapeOff : MethodName := ⟨RX7, "scrapeOff", "(III)V"⟩
abbrev cX7_wound : ByteArray := prog_9_method_8_code
def yX7_wound : MethodName := ⟨RX7, "wound", "(II)V"⟩
abbrev cX7_stir : ByteArray := prog_9_method_9_code
def yX7_stir : MethodName := ⟨RX7, "stir", "(LTannedMen$Draws;)V"⟩
abbrev cX7_scrapeIfSoft : ByteArray := prog_9_method_10_code
def yX7_scrapeIfSoft : MethodName := ⟨RX7, "scrapeIfSoft", "(II)V"⟩
abbrev cX7_best : ByteArray := prog_9_method_11_code
def yX7_best : MethodName := ⟨RX7, "best", "()I"⟩
abbrev cX7_chosen : ByteArray := prog_9_method_12_code
def yX7_chosen : MethodName := ⟨RX7, "chosen", "()I"⟩
abbrev cX7_votesFor : ByteArray := prog_9_method_13_code
def yX7_votesFor : MethodName := ⟨RX7, "votesFor", "(I)I"⟩
abbrev cX7_leastPainedBy : ByteArray := prog_9_method_14_code
def yX7_leastPainedBy : MethodName := ⟨RX7, "leastPainedBy", "(I)I"⟩
abbrev cX7_tender : ByteArray := prog_9_method_15_code
def yX7_tender : MethodName := ⟨RX7, "tender", "()I"⟩
abbrev cX7_saveTo : ByteArray := prog_9_method_16_code
def yX7_saveTo : MethodName := ⟨RX7, "saveTo", "([I)V"⟩
abbrev cX7_loadFrom : ByteArray := prog_9_method_17_code
def yX7_loadFrom : MethodName := ⟨RX7, "loadFrom", "([I)V"⟩
def RX8 : String := "TannedMen$TextReader"
def TX8 : u_T := fun k => match k with
  | 0 => ("TannedMen$TextReader", "letters", "[I", true)
  | 1 => ("TannedMen$TextReader", "length", "I", false)
  | 2 => ("TannedMen$TextReader", "at", "I", false)
  | 3 => ("TannedMen$TextReader", "faultKind", "I", false)
  | _ => ("TannedMen$TextReader", "faultAt", "I", false)
def tyX8 : Nat → FieldType := fun k => match k with
  | 0 => .array .int
  | 1 => .int
  | 2 => .int
  | 3 => .int
  | _ => .int
abbrev wsX80 : List Cond := u_ws RX8 TX8 5
theorem nmX8 : ∀ a, a < 5 → ∀ b, b < 5 → a ≠ b → (TX8 a).2.1 ≠ (TX8 b).2.1 := by decide +kernel
theorem tyX8_ok : ∀ k, k < 5 → parseFieldDescriptor (TX8 k).2.2.1 = some (tyX8 k) := by decide +kernel
abbrev cX8_init : ByteArray := prog_10_method_1_code
def yX8_init : MethodName := ⟨RX8, "<init>", "()V"⟩
abbrev cX8_add : ByteArray := prog_10_method_2_code
def yX8_add : MethodName := ⟨RX8, "add", "(I)I"⟩
abbrev cX8_readInto : ByteArray := prog_10_method_3_code
def yX8_readInto : MethodName := ⟨RX8, "readInto", "(LTannedMen$Plan;)V"⟩
abbrev cX8_mark : ByteArray := prog_10_method_4_code
def yX8_mark : MethodName := ⟨RX8, "mark", "(II)V"⟩
abbrev cX8_letter : ByteArray := prog_10_method_5_code
def yX8_letter : MethodName := ⟨RX8, "letter", "()I"⟩
abbrev cX8_skipBlanks : ByteArray := prog_10_method_6_code
def yX8_skipBlanks : MethodName := ⟨RX8, "skipBlanks", "()V"⟩
abbrev cX8_isFigure : ByteArray := prog_10_method_7_code
def yX8_isFigure : MethodName := ⟨RX8, "isFigure", "(I)Z"⟩
abbrev cX8_readClause : ByteArray := prog_10_method_8_code
def yX8_readClause : MethodName := ⟨RX8, "readClause", "(LTannedMen$Plan;)V"⟩
abbrev cX8_faultOfWord : ByteArray := prog_10_method_9_code
def yX8_faultOfWord : MethodName := ⟨RX8, "faultOfWord", "(ILTannedMen$Plan;)I"⟩
abbrev cX8_readPits : ByteArray := prog_10_method_10_code
def yX8_readPits : MethodName := ⟨RX8, "readPits", "(LTannedMen$Plan;)V"⟩
abbrev cX8_readMan : ByteArray := prog_10_method_11_code
def yX8_readMan : MethodName := ⟨RX8, "readMan", "(LTannedMen$Plan;)V"⟩
abbrev cX8_readSaying : ByteArray := prog_10_method_12_code
def yX8_readSaying : MethodName := ⟨RX8, "readSaying", "(LTannedMen$Plan;)V"⟩
abbrev cX8_readNumber : ByteArray := prog_10_method_13_code
def yX8_readNumber : MethodName := ⟨RX8, "readNumber", "(II)I"⟩
abbrev cX8_skipMark : ByteArray := prog_10_method_14_code
def yX8_skipMark : MethodName := ⟨RX8, "skipMark", "(C)V"⟩
def RX9 : String := "TannedMen$Trial"
def TX9 : u_T := fun k => match k with
  | 0 => ("TannedMen$Trial", "man", "LTannedMen$Man;", true)
  | 1 => ("TannedMen$Trial", "bark", "I", false)
  | 2 => ("TannedMen$Trial", "months", "I", false)
  | 3 => ("TannedMen$Trial", "many", "I", false)
  | 4 => ("TannedMen$Trial", "least", "I", false)
  | _ => ("TannedMen$Trial", "greatest", "I", false)
def tyX9 : Nat → FieldType := fun k => match k with
  | 0 => .object "TannedMen$Man"
  | 1 => .int
  | 2 => .int
  | 3 => .int
  | 4 => .int
  | _ => .int
abbrev wsX90 : List Cond := u_ws RX9 TX9 6
theorem nmX9 : ∀ a, a < 6 → ∀ b, b < 6 → a ≠ b → (TX9 a).2.1 ≠ (TX9 b).2.1 := by decide +kernel
theorem tyX9_ok : ∀ k, k < 6 → parseFieldDescriptor (TX9 k).2.2.1 = some (tyX9 k) := by decide +kernel
abbrev cX9_init : ByteArray := prog_11_method_1_code
def yX9_init : MethodName := ⟨RX9, "<init>", "()V"⟩
abbrev cX9_startNow : ByteArray := prog_11_method_2_code
def yX9_startNow : MethodName := ⟨RX9, "startNow", "(LTannedMen$State;I)V"⟩
abbrev cX9_startFirst : ByteArray := prog_11_method_3_code
def yX9_startFirst : MethodName := ⟨RX9, "startFirst", "(LTannedMen$Plan;I)V"⟩
abbrev cX9_clearNotes : ByteArray := prog_11_method_4_code
def yX9_clearNotes : MethodName := ⟨RX9, "clearNotes", "()V"⟩
abbrev cX9_note : ByteArray := prog_11_method_5_code
def yX9_note : MethodName := ⟨RX9, "note", "(I)V"⟩
abbrev cX9_noted : ByteArray := prog_11_method_6_code
def yX9_noted : MethodName := ⟨RX9, "noted", "(I)I"⟩
abbrev cX9_passMonth : ByteArray := prog_11_method_7_code
def yX9_passMonth : MethodName := ⟨RX9, "passMonth", "()V"⟩
abbrev cX9_firstBearing : ByteArray := prog_11_method_8_code
def yX9_firstBearing : MethodName := ⟨RX9, "firstBearing", "(LTannedMen$Plan;I)I"⟩
abbrev cX9_lastFeeling : ByteArray := prog_11_method_9_code
def yX9_lastFeeling : MethodName := ⟨RX9, "lastFeeling", "(LTannedMen$Plan;I)I"⟩
def RX10 : String := "TannedMen"
def TX10 : u_T := fun k => match k with
  | 0 => ("TannedMen", "reader", "LTannedMen$TextReader;", true)
  | 1 => ("TannedMen", "plan", "LTannedMen$Plan;", false)
  | 2 => ("TannedMen", "draft", "LTannedMen$Plan;", false)
  | 3 => ("TannedMen", "state", "LTannedMen$State;", true)
  | 4 => ("TannedMen", "past", "LTannedMen$Past;", true)
  | 5 => ("TannedMen", "draws", "LTannedMen$Draws;", true)
  | 6 => ("TannedMen", "ears", "LTannedMen$Ears;", true)
  | 7 => ("TannedMen", "book", "LTannedMen$Book;", true)
  | 8 => ("TannedMen", "trial", "LTannedMen$Trial;", true)
  | _ => ("TannedMen", "queue", "LTannedMen$PitQueue;", true)
def tyX10 : Nat → FieldType := fun k => match k with
  | 0 => .object "TannedMen$TextReader"
  | 1 => .object "TannedMen$Plan"
  | 2 => .object "TannedMen$Plan"
  | 3 => .object "TannedMen$State"
  | 4 => .object "TannedMen$Past"
  | 5 => .object "TannedMen$Draws"
  | 6 => .object "TannedMen$Ears"
  | 7 => .object "TannedMen$Book"
  | 8 => .object "TannedMen$Trial"
  | _ => .object "TannedMen$PitQueue"
abbrev wsX100 : List Cond := u_ws RX10 TX10 10
theorem nmX10 : ∀ a, a < 10 → ∀ b, b < 10 → a ≠ b → (TX10 a).2.1 ≠ (TX10 b).2.1 := by decide +kernel
theorem tyX10_ok : ∀ k, k < 10 → parseFieldDescriptor (TX10 k).2.2.1 = some (tyX10 k) := by decide +kernel
abbrev cX10_init : ByteArray := prog_1_method_1_code
def yX10_init : MethodName := ⟨RX10, "<init>", "()V"⟩
abbrev cX10_feed : ByteArray := prog_1_method_2_code
def yX10_feed : MethodName := ⟨RX10, "feed", "(I)I"⟩
abbrev cX10_yard : ByteArray := prog_1_method_3_code
def yX10_yard : MethodName := ⟨RX10, "yard", "()I"⟩
abbrev cX10_fault : ByteArray := prog_1_method_4_code
def yX10_fault : MethodName := ⟨RX10, "fault", "()I"⟩
abbrev cX10_told : ByteArray := prog_1_method_5_code
def yX10_told : MethodName := ⟨RX10, "told", "(I)I"⟩
abbrev cX10_man : ByteArray := prog_1_method_6_code
def yX10_man : MethodName := ⟨RX10, "man", "(II)I"⟩
abbrev cX10_skin : ByteArray := prog_1_method_7_code
def yX10_skin : MethodName := ⟨RX10, "skin", "(III)I"⟩
abbrev cX10_saying : ByteArray := prog_1_method_8_code
def yX10_saying : MethodName := ⟨RX10, "saying", "(II)I"⟩
abbrev cX10_hurt : ByteArray := prog_1_method_9_code
def yX10_hurt : MethodName := ⟨RX10, "hurt", "(II)I"⟩
abbrev cX10_month : ByteArray := prog_1_method_10_code
def yX10_month : MethodName := ⟨RX10, "month", "(I)I"⟩
abbrev cX10_in : ByteArray := prog_1_method_11_code
def yX10_in : MethodName := ⟨RX10, "in", "(I)I"⟩
abbrev cX10_out : ByteArray := prog_1_method_12_code
def yX10_out : MethodName := ⟨RX10, "out", "(I)I"⟩
abbrev cX10_scrape : ByteArray := prog_1_method_13_code
def yX10_scrape : MethodName := ⟨RX10, "scrape", "(III)I"⟩
abbrev cX10_say : ByteArray := prog_1_method_14_code
def yX10_say : MethodName := ⟨RX10, "say", "(II)I"⟩
abbrev cX10_bark : ByteArray := prog_1_method_15_code
def yX10_bark : MethodName := ⟨RX10, "bark", "(I)I"⟩
abbrev cX10_drift : ByteArray := prog_1_method_16_code
def yX10_drift : MethodName := ⟨RX10, "drift", "(I)I"⟩
abbrev cX10_undo : ByteArray := prog_1_method_17_code
def yX10_undo : MethodName := ⟨RX10, "undo", "()I"⟩
abbrev cX10_thick : ByteArray := prog_1_method_18_code
def yX10_thick : MethodName := ⟨RX10, "thick", "(III)I"⟩
abbrev cX10_when : ByteArray := prog_1_method_19_code
def yX10_when : MethodName := ⟨RX10, "when", "(III)I"⟩
abbrev cX10_edge : ByteArray := prog_1_method_20_code
def yX10_edge : MethodName := ⟨RX10, "edge", "(IIII)I"⟩
abbrev cX10_scraping : ByteArray := prog_1_method_21_code
def yX10_scraping : MethodName := ⟨RX10, "scraping", "(II)I"⟩
abbrev cX10_through : ByteArray := prog_1_method_22_code
def yX10_through : MethodName := ⟨RX10, "through", "(II)I"⟩
abbrev cX10_over : ByteArray := prog_1_method_23_code
def yX10_over : MethodName := ⟨RX10, "over", "(II)I"⟩
abbrev cX10_quiet : ByteArray := prog_1_method_24_code
def yX10_quiet : MethodName := ⟨RX10, "quiet", "(II)I"⟩
abbrev cX10_hear : ByteArray := prog_1_method_25_code
def yX10_hear : MethodName := ⟨RX10, "hear", "(III)I"⟩
abbrev cX10_stays : ByteArray := prog_1_method_26_code
def yX10_stays : MethodName := ⟨RX10, "stays", "(II)I"⟩
abbrev cX10_ask : ByteArray := prog_1_method_27_code
def yX10_ask : MethodName := ⟨RX10, "ask", "(I)I"⟩
abbrev cX10_write : ByteArray := prog_1_method_28_code
def yX10_write : MethodName := ⟨RX10, "write", "(II)I"⟩
abbrev cX10_tear : ByteArray := prog_1_method_29_code
def yX10_tear : MethodName := ⟨RX10, "tear", "()I"⟩
abbrev cX10_judge : ByteArray := prog_1_method_30_code
def yX10_judge : MethodName := ⟨RX10, "judge", "()I"⟩
abbrev cX10_seed : ByteArray := prog_1_method_31_code
def yX10_seed : MethodName := ⟨RX10, "seed", "(I)I"⟩
abbrev cX10_keep : ByteArray := prog_1_method_32_code
def yX10_keep : MethodName := ⟨RX10, "keep", "(I)I"⟩
abbrev cX10_goBack : ByteArray := prog_1_method_33_code
def yX10_goBack : MethodName := ⟨RX10, "goBack", "(I)I"⟩
abbrev cX10_isOutside : ByteArray := prog_1_method_34_code
def yX10_isOutside : MethodName := ⟨RX10, "isOutside", "(III)Z"⟩
abbrev cX10_refusalOfMonths : ByteArray := prog_1_method_35_code
def yX10_refusalOfMonths : MethodName := ⟨RX10, "refusalOfMonths", "(I)I"⟩
def RX11 : String := "TannedMenModel"
def TX11 : u_T := fun k => match k with
  | 0 => ("TannedMenModel", "pits", "I", false)
  | 1 => ("TannedMenModel", "barkTold", "I", false)
  | 2 => ("TannedMenModel", "men", "I", false)
  | 3 => ("TannedMenModel", "kind", "[I", true)
  | 4 => ("TannedMenModel", "softTold", "[I", true)
  | 5 => ("TannedMenModel", "sayings", "I", false)
  | 6 => ("TannedMenModel", "sayPlace", "[I", true)
  | 7 => ("TannedMenModel", "sharp", "[I", true)
  | 8 => ("TannedMenModel", "now", "[I", true)
  | 9 => ("TannedMenModel", "seed", "I", false)
  | 10 => ("TannedMenModel", "heard", "I", false)
  | 11 => ("TannedMenModel", "heardMan", "[I", true)
  | 12 => ("TannedMenModel", "heardSaying", "[I", true)
  | 13 => ("TannedMenModel", "heardHurt", "[I", true)
  | 14 => ("TannedMenModel", "written", "I", false)
  | 15 => ("TannedMenModel", "bookOf", "[I", true)
  | 16 => ("TannedMenModel", "bookWounds", "[I", true)
  | 17 => ("TannedMenModel", "text", "[I", true)
  | 18 => ("TannedMenModel", "texted", "I", false)
  | 19 => ("TannedMenModel", "faultPlace", "I", false)
  | 20 => ("TannedMenModel", "at0", "I", false)
  | 21 => ("TannedMenModel", "number", "I", false)
  | 22 => ("TannedMenModel", "numberAt", "I", false)
  | 23 => ("TannedMenModel", "readPits", "I", false)
  | 24 => ("TannedMenModel", "readBark", "I", false)
  | 25 => ("TannedMenModel", "readMen", "I", false)
  | 26 => ("TannedMenModel", "readKind", "[I", true)
  | 27 => ("TannedMenModel", "readSoft", "[I", true)
  | 28 => ("TannedMenModel", "readSayings", "I", false)
  | 29 => ("TannedMenModel", "readPlace", "[I", true)
  | 30 => ("TannedMenModel", "readSharp", "[I", true)
  | 31 => ("TannedMenModel", "soft", "[I", true)
  | 32 => ("TannedMenModel", "thick", "[I", true)
  | 33 => ("TannedMenModel", "votes", "[I", true)
  | 34 => ("TannedMenModel", "undos", "I", false)
  | 35 => ("TannedMenModel", "past", "[I", true)
  | 36 => ("TannedMenModel", "need", "[I", true)
  | 37 => ("TannedMenModel", "busy", "[I", true)
  | 38 => ("TannedMenModel", "stay", "[Z", true)
  | 39 => ("TannedMenModel", "hurtThen", "[I", true)
  | 40 => ("TannedMenModel", "images", "[I", true)
  | _ => ("TannedMenModel", "isKept", "[Z", true)
def tyX11 : Nat → FieldType := fun k => match k with
  | 0 => .int
  | 1 => .int
  | 2 => .int
  | 3 => .array .int
  | 4 => .array .int
  | 5 => .int
  | 6 => .array .int
  | 7 => .array .int
  | 8 => .array .int
  | 9 => .int
  | 10 => .int
  | 11 => .array .int
  | 12 => .array .int
  | 13 => .array .int
  | 14 => .int
  | 15 => .array .int
  | 16 => .array .int
  | 17 => .array .int
  | 18 => .int
  | 19 => .int
  | 20 => .int
  | 21 => .int
  | 22 => .int
  | 23 => .int
  | 24 => .int
  | 25 => .int
  | 26 => .array .int
  | 27 => .array .int
  | 28 => .int
  | 29 => .array .int
  | 30 => .array .int
  | 31 => .array .int
  | 32 => .array .int
  | 33 => .array .int
  | 34 => .int
  | 35 => .array .int
  | 36 => .array .int
  | 37 => .array .int
  | 38 => .array .boolean
  | 39 => .array .int
  | 40 => .array .int
  | _ => .array .boolean
abbrev wsX110 : List Cond := u_ws RX11 TX11 42
theorem nmX11 : ∀ a, a < 42 → ∀ b, b < 42 → a ≠ b → (TX11 a).2.1 ≠ (TX11 b).2.1 := by decide +kernel
theorem tyX11_ok : ∀ k, k < 42 → parseFieldDescriptor (TX11 k).2.2.1 = some (tyX11 k) := by decide +kernel
abbrev cX11_init : ByteArray := prog_13_method_1_code
def yX11_init : MethodName := ⟨RX11, "<init>", "()V"⟩
abbrev cX11_within : ByteArray := prog_13_method_3_code
def yX11_within : MethodName := ⟨RX11, "within", "(JJJ)Z"⟩
abbrev cX11_has : ByteArray := prog_13_method_4_code
def yX11_has : MethodName := ⟨RX11, "has", "(II)Z"⟩
abbrev cX11_ones : ByteArray := prog_13_method_5_code
def yX11_ones : MethodName := ⟨RX11, "ones", "(I)I"⟩
abbrev cX11_isMan : ByteArray := prog_13_method_6_code
def yX11_isMan : MethodName := ⟨RX11, "isMan", "(I)Z"⟩
abbrev cX11_isSaying : ByteArray := prog_13_method_7_code
def yX11_isSaying : MethodName := ⟨RX11, "isSaying", "(I)Z"⟩
abbrev cX11_areSayings : ByteArray := prog_13_method_8_code
def yX11_areSayings : MethodName := ⟨RX11, "areSayings", "(I)Z"⟩
abbrev cX11_isPlace : ByteArray := prog_13_method_9_code
def yX11_isPlace : MethodName := ⟨RX11, "isPlace", "(I)Z"⟩
abbrev cX11_feed : ByteArray := prog_13_method_10_code
def yX11_feed : MethodName := ⟨RX11, "feed", "(I)I"⟩
abbrev cX11_here : ByteArray := prog_13_method_11_code
def yX11_here : MethodName := ⟨RX11, "here", "()I"⟩
abbrev cX11_fails : ByteArray := prog_13_method_12_code
def yX11_fails : MethodName := ⟨RX11, "fails", "(II)I"⟩
abbrev cX11_takeNumber : ByteArray := prog_13_method_13_code
def yX11_takeNumber : MethodName := ⟨RX11, "takeNumber", "(II)I"⟩
abbrev cX11_takePits : ByteArray := prog_13_method_14_code
def yX11_takePits : MethodName := ⟨RX11, "takePits", "()I"⟩
abbrev cX11_takeMan : ByteArray := prog_13_method_15_code
def yX11_takeMan : MethodName := ⟨RX11, "takeMan", "()I"⟩
abbrev cX11_takeSaying : ByteArray := prog_13_method_16_code
def yX11_takeSaying : MethodName := ⟨RX11, "takeSaying", "()I"⟩
abbrev cX11_isFull : ByteArray := prog_13_method_17_code
def yX11_isFull : MethodName := ⟨RX11, "isFull", "(I)Z"⟩
abbrev cX11_takeBody : ByteArray := prog_13_method_18_code
def yX11_takeBody : MethodName := ⟨RX11, "takeBody", "(I)I"⟩
abbrev cX11_takeClause : ByteArray := prog_13_method_19_code
def yX11_takeClause : MethodName := ⟨RX11, "takeClause", "()I"⟩
abbrev cX11_takeRead : ByteArray := prog_13_method_20_code
def yX11_takeRead : MethodName := ⟨RX11, "takeRead", "()V"⟩
abbrev cX11_yard : ByteArray := prog_13_method_21_code
def yX11_yard : MethodName := ⟨RX11, "yard", "()I"⟩
abbrev cX11_fault : ByteArray := prog_13_method_22_code
def yX11_fault : MethodName := ⟨RX11, "fault", "()I"⟩
abbrev cX11_capped : ByteArray := prog_13_method_23_code
def yX11_capped : MethodName := ⟨RX11, "capped", "(I)I"⟩
abbrev cX11_tans : ByteArray := prog_13_method_24_code
def yX11_tans : MethodName := ⟨RX11, "tans", "(III)V"⟩
abbrev cX11_takesSkin : ByteArray := prog_13_method_25_code
def yX11_takesSkin : MethodName := ⟨RX11, "takesSkin", "(I)V"⟩
abbrev cX11_takesFirst : ByteArray := prog_13_method_26_code
def yX11_takesFirst : MethodName := ⟨RX11, "takesFirst", "(I)V"⟩
abbrev cX11_hurts : ByteArray := prog_13_method_27_code
def yX11_hurts : MethodName := ⟨RX11, "hurts", "(I)I"⟩
abbrev cX11_borneNow : ByteArray := prog_13_method_28_code
def yX11_borneNow : MethodName := ⟨RX11, "borneNow", "()I"⟩
abbrev cX11_feltNow : ByteArray := prog_13_method_29_code
def yX11_feltNow : MethodName := ⟨RX11, "feltNow", "()I"⟩
abbrev cX11_hurtOf : ByteArray := prog_13_method_30_code
def yX11_hurtOf : MethodName := ⟨RX11, "hurtOf", "(II)I"⟩
abbrev cX11_woundsAll : ByteArray := prog_13_method_31_code
def yX11_woundsAll : MethodName := ⟨RX11, "woundsAll", "()I"⟩
abbrev cX11_bestMan : ByteArray := prog_13_method_32_code
def yX11_bestMan : MethodName := ⟨RX11, "bestMan", "()I"⟩
abbrev cX11_chosen : ByteArray := prog_13_method_33_code
def yX11_chosen : MethodName := ⟨RX11, "chosen", "()I"⟩
abbrev cX11_tender : ByteArray := prog_13_method_34_code
def yX11_tender : MethodName := ⟨RX11, "tender", "()I"⟩
abbrev cX11_told : ByteArray := prog_13_method_35_code
def yX11_told : MethodName := ⟨RX11, "told", "(I)I"⟩
abbrev cX11_man : ByteArray := prog_13_method_36_code
def yX11_man : MethodName := ⟨RX11, "man", "(II)I"⟩
abbrev cX11_skin : ByteArray := prog_13_method_37_code
def yX11_skin : MethodName := ⟨RX11, "skin", "(III)I"⟩
abbrev cX11_saying : ByteArray := prog_13_method_38_code
def yX11_saying : MethodName := ⟨RX11, "saying", "(II)I"⟩
abbrev cX11_hurt : ByteArray := prog_13_method_39_code
def yX11_hurt : MethodName := ⟨RX11, "hurt", "(II)I"⟩
abbrev cX11_remember : ByteArray := prog_13_method_40_code
def yX11_remember : MethodName := ⟨RX11, "remember", "()V"⟩
abbrev cX11_passes : ByteArray := prog_13_method_41_code
def yX11_passes : MethodName := ⟨RX11, "passes", "()V"⟩
abbrev cX11_monthsRefused : ByteArray := prog_13_method_42_code
def yX11_monthsRefused : MethodName := ⟨RX11, "monthsRefused", "(I)I"⟩
abbrev cX11_month : ByteArray := prog_13_method_43_code
def yX11_month : MethodName := ⟨RX11, "month", "(I)I"⟩
abbrev cX11_free : ByteArray := prog_13_method_44_code
def yX11_free : MethodName := ⟨RX11, "free", "()I"⟩
abbrev cX11_in : ByteArray := prog_13_method_45_code
def yX11_in : MethodName := ⟨RX11, "in", "(I)I"⟩
abbrev cX11_out : ByteArray := prog_13_method_46_code
def yX11_out : MethodName := ⟨RX11, "out", "(I)I"⟩
abbrev cX11_scrapes : ByteArray := prog_13_method_47_code
def yX11_scrapes : MethodName := ⟨RX11, "scrapes", "(III)V"⟩
abbrev cX11_scrape : ByteArray := prog_13_method_48_code
def yX11_scrape : MethodName := ⟨RX11, "scrape", "(III)I"⟩
abbrev cX11_wounds : ByteArray := prog_13_method_49_code
def yX11_wounds : MethodName := ⟨RX11, "wounds", "(II)V"⟩
abbrev cX11_say : ByteArray := prog_13_method_50_code
def yX11_say : MethodName := ⟨RX11, "say", "(II)I"⟩
abbrev cX11_bark : ByteArray := prog_13_method_51_code
def yX11_bark : MethodName := ⟨RX11, "bark", "(I)I"⟩
abbrev cX11_draw : ByteArray := prog_13_method_52_code
def yX11_draw : MethodName := ⟨RX11, "draw", "(I)I"⟩
abbrev cX11_chance : ByteArray := prog_13_method_53_code
def yX11_chance : MethodName := ⟨RX11, "chance", "()V"⟩
abbrev cX11_drift : ByteArray := prog_13_method_54_code
def yX11_drift : MethodName := ⟨RX11, "drift", "(I)I"⟩
abbrev cX11_undo : ByteArray := prog_13_method_55_code
def yX11_undo : MethodName := ⟨RX11, "undo", "()I"⟩
abbrev cX11_thick : ByteArray := prog_13_method_56_code
def yX11_thick : MethodName := ⟨RX11, "thick", "(III)I"⟩
abbrev cX11_when : ByteArray := prog_13_method_57_code
def yX11_when : MethodName := ⟨RX11, "when", "(III)I"⟩
abbrev cX11_edge : ByteArray := prog_13_method_58_code
def yX11_edge : MethodName := ⟨RX11, "edge", "(IIII)I"⟩
abbrev cX11_scraping : ByteArray := prog_13_method_59_code
def yX11_scraping : MethodName := ⟨RX11, "scraping", "(II)I"⟩
abbrev cX11_goThrough : ByteArray := prog_13_method_60_code
def yX11_goThrough : MethodName := ⟨RX11, "goThrough", "(II)Z"⟩
abbrev cX11_through : ByteArray := prog_13_method_61_code
def yX11_through : MethodName := ⟨RX11, "through", "(II)I"⟩
abbrev cX11_over : ByteArray := prog_13_method_62_code
def yX11_over : MethodName := ⟨RX11, "over", "(II)I"⟩
abbrev cX11_quiet : ByteArray := prog_13_method_63_code
def yX11_quiet : MethodName := ⟨RX11, "quiet", "(II)I"⟩
abbrev cX11_hear : ByteArray := prog_13_method_64_code
def yX11_hear : MethodName := ⟨RX11, "hear", "(III)I"⟩
abbrev cX11_laysStays : ByteArray := prog_13_method_65_code
def yX11_laysStays : MethodName := ⟨RX11, "laysStays", "(I)I"⟩
abbrev cX11_stays : ByteArray := prog_13_method_66_code
def yX11_stays : MethodName := ⟨RX11, "stays", "(II)I"⟩
abbrev cX11_ask : ByteArray := prog_13_method_67_code
def yX11_ask : MethodName := ⟨RX11, "ask", "(I)I"⟩
abbrev cX11_write : ByteArray := prog_13_method_68_code
def yX11_write : MethodName := ⟨RX11, "write", "(II)I"⟩
abbrev cX11_tear : ByteArray := prog_13_method_69_code
def yX11_tear : MethodName := ⟨RX11, "tear", "()I"⟩
abbrev cX11_judge : ByteArray := prog_13_method_70_code
def yX11_judge : MethodName := ⟨RX11, "judge", "()I"⟩
abbrev cX11_seed : ByteArray := prog_13_method_71_code
def yX11_seed : MethodName := ⟨RX11, "seed", "(I)I"⟩
abbrev cX11_keep : ByteArray := prog_13_method_72_code
def yX11_keep : MethodName := ⟨RX11, "keep", "(I)I"⟩
abbrev cX11_goBack : ByteArray := prog_13_method_73_code
def yX11_goBack : MethodName := ⟨RX11, "goBack", "(I)I"⟩
def RJ6 : String := "java/lang/Integer"
def TJ6 : u_T := fun k => match k with
  | _ => ("", "", "", false)
def tyJ6 : Nat → FieldType := fun k => match k with
  | _ => .int
abbrev wsJ60 : List Cond := u_ws RJ6 TJ6 0
theorem nmJ6 : ∀ a, a < 0 → ∀ b, b < 0 → a ≠ b → (TJ6 a).2.1 ≠ (TJ6 b).2.1 := by decide +kernel
theorem tyJ6_ok : ∀ k, k < 0 → parseFieldDescriptor (TJ6 k).2.2.1 = some (tyJ6 k) := by decide +kernel
abbrev cJ6_compare_7cf53 : ByteArray := prog_14_method_40_code
def yJ6_compare_7cf53 : MethodName := ⟨RJ6, "compare", "(II)I"⟩
abbrev cJ6_bitCount_0f7a4 : ByteArray := prog_14_method_49_code
def yJ6_bitCount_0f7a4 : MethodName := ⟨RJ6, "bitCount", "(I)I"⟩
def RJ9 : String := "java/lang/Math"
def TJ9 : u_T := fun k => match k with
  | _ => ("", "", "", false)
def tyJ9 : Nat → FieldType := fun k => match k with
  | _ => .int
abbrev wsJ90 : List Cond := u_ws RJ9 TJ9 0
theorem nmJ9 : ∀ a, a < 0 → ∀ b, b < 0 → a ≠ b → (TJ9 a).2.1 ≠ (TJ9 b).2.1 := by decide +kernel
theorem tyJ9_ok : ∀ k, k < 0 → parseFieldDescriptor (TJ9 k).2.2.1 = some (tyJ9 k) := by decide +kernel
abbrev cJ9_floorMod_7cf53 : ByteArray := prog_15_method_50_code
def yJ9_floorMod_7cf53 : MethodName := ⟨RJ9, "floorMod", "(II)I"⟩
abbrev cJ9_max_7cf53 : ByteArray := prog_15_method_65_code
def yJ9_max_7cf53 : MethodName := ⟨RJ9, "max", "(II)I"⟩
abbrev cJ9_min_7cf53 : ByteArray := prog_15_method_69_code
def yJ9_min_7cf53 : MethodName := ⟨RJ9, "min", "(II)I"⟩
def RL : String := "TannedMenLaw"
abbrev cL_law : ByteArray := code
def yL_law : MethodName := ⟨RL, "law", "([I)Z"⟩
abbrev vwCl : List vw_C := [(RX0, TX0, 3), (RX1, TX1, 1), (RX2, TX2, 8), (RX3, TX3, 5), (RX4, TX4, 6), (RX5, TX5, 3), (RX6, TX6, 8), (RX7, TX7, 5), (RX8, TX8, 5), (RX9, TX9, 6), (RX10, TX10, 10), (RX11, TX11, 42)]
end
section
abbrev St : Type := Nat → Nat → Nat → Int32
abbrev Op : Type := Option (Int32 × St)
def wr (S : St) (a o i : Nat) (v : Int32) : St := fun a2 o2 => if a2 = a ∧ o2 = o then upd (S a o) i v else S a2 o2
def ck (i : Int32) (n : Nat) (F : Op) : Op := if i < 0 ∨ n ≤ i.toNatClampNeg then none else F
def dz (y : Int32) (F : Op) : Op := if y = 0 then none else F
def bi (v : Int32) (f : Int32 → Op) : Op := f v
def bl (v : Int64) (f : Int64 → Op) : Op := f v
def bs (v : St) (f : St → Op) : Op := f v
def cal (g : Op) (f : Int32 → St → Op) : Op := match g with
  | none => none
  | some (r, S) => f r S
def jn {α : Type} (r : α) (f : α → Op) : Op := f r
def lop {α : Type} (z : α) (b : α → α) : Nat → α
  | 0 => z
  | n + 1 => b (lop z b n)
def FU : Nat := 2000
def pid (v : Int32) : Nat := if v = 0 then 0 else 1
def uid (n : Nat) : Int32 := if n = 0 then 0 else 1
theorem pid_lt (v : Int32) : pid v < 2 := by unfold pid; split <;> decide
theorem pid_uid {n : Nat} (h : n < 2) : pid (uid n) = n := by
  rcases (show n = 0 ∨ n = 1 by omega) with rfl | rfl <;> decide
def en (cy : Nat → ClassId) (adr : Nat → Nat → Nat) (a o : Nat) (f : Nat → Int32) : va_E := match a with
  | 0 => .inr (10, [.ref (adr 1 0), .ref (adr 3 (pid (f 1))), .ref (adr 3 (pid (f 2))), .ref (adr 9 0), .ref (adr 14 0), .ref (adr 19 0), .ref (adr 20 0), .ref (adr 27 0), .ref (adr 30 0), .ref (adr 31 0)])
  | 1 => .inr (8, [.ref (adr 2 0), .int (f 1), .int (f 2), .int (f 3), .int (f 4)])
  | 2 => .inl (cy 0, 240, .inl f)
  | 3 => .inr (6, [.int (f 0), .int (f 1), .int (f 2), .int (f 3), .ref (adr 4 o), .ref (adr 5 o), .ref (adr 7 o), .ref (adr 8 o)])
  | 4 => .inl (cy 0, 6, .inl f)
  | 5 => .inl (cy 3, 6, .inr (.inr (.inr (.inr (fun i => some (adr 6 (6 * o + i)))))))
  | 6 => .inl (cy 0, 5, .inl f)
  | 7 => .inl (cy 0, 8, .inl f)
  | 8 => .inl (cy 0, 8, .inl f)
  | 9 => .inr (7, [.ref (adr 3 (pid (f 0))), .int (f 1), .int (f 2), .int (f 3), .ref (adr 10 0)])
  | 10 => .inl (cy 2, 6, .inr (.inr (.inr (.inr (fun i => some (adr 11 i))))))
  | 11 => .inr (3, [.int (f 0), .int (f 1), .int (f 2), .ref (adr 12 o), .ref (adr 13 o)])
  | 12 => .inl (cy 0, 5, .inl f)
  | 13 => .inl (cy 0, 5, .inl f)
  | 14 => .inr (4, [.ref (adr 15 0), .int (f 1), .int (f 2), .ref (adr 16 0), .ref (adr 18 0), .int (f 5)])
  | 15 => .inl (cy 3, 16, .inr (.inr (.inr (.inr (fun i => some (adr 17 i))))))
  | 16 => .inl (cy 3, 2, .inr (.inr (.inr (.inr (fun i => some (adr 17 (16 + i)))))))
  | 17 => .inl (cy 0, 75, .inl f)
  | 18 => .inl (cy 0, 2, .inl f)
  | 19 => .inr (1, [.int (f 0)])
  | 20 => .inr (2, [.ref (adr 21 0), .ref (adr 22 0), .ref (adr 23 0), .int (f 3), .int (f 4), .ref (adr 24 0), .ref (adr 25 0), .ref (adr 26 0)])
  | 21 => .inl (cy 0, 6, .inl f)
  | 22 => .inl (cy 0, 6, .inl f)
  | 23 => .inl (cy 0, 6, .inl f)
  | 24 => .inl (cy 0, 8, .inl f)
  | 25 => .inl (cy 0, 8, .inl f)
  | 26 => .inl (cy 0, 8, .inl f)
  | 27 => .inr (0, [.ref (adr 28 0), .ref (adr 29 0), .int (f 2)])
  | 28 => .inl (cy 0, 15, .inl f)
  | 29 => .inl (cy 0, 15, .inl f)
  | 30 => .inr (9, [.ref (adr 11 6), .int (f 1), .int (f 2), .int (f 3), .int (f 4), .int (f 5)])
  | 31 => .inr (5, [.ref (adr 32 0), .ref (adr 33 0), .ref (adr 34 0)])
  | 32 => .inl (cy 0, 6, .inl f)
  | 33 => .inl (cy 0, 64, .inl f)
  | 34 => .inl (cy 0, 64, .inl f)
  | 35 => .inr (11, [.int (f 0), .int (f 1), .int (f 2), .ref (adr 36 0), .ref (adr 37 0), .int (f 5), .ref (adr 38 0), .ref (adr 39 0), .ref (adr 40 0), .int (f 9), .int (f 10), .ref (adr 41 0), .ref (adr 42 0), .ref (adr 43 0), .int (f 14), .ref (adr 44 0), .ref (adr 45 0), .ref (adr 46 0), .int (f 18), .int (f 19), .int (f 20), .int (f 21), .int (f 22), .int (f 23), .int (f 24), .int (f 25), .ref (adr 47 0), .ref (adr 48 0), .int (f 28), .ref (adr 49 0), .ref (adr 50 0), .ref (adr 51 0), .ref (adr 52 0), .ref (adr 53 0), .int (f 34), .ref (adr 54 0), .ref (adr 55 0), .ref (adr 56 0), .ref (adr 57 0), .ref (adr 58 0), .ref (adr 59 0), .ref (adr 60 0)])
  | 36 => .inl (cy 0, 6, .inl f)
  | 37 => .inl (cy 0, 30, .inl f)
  | 38 => .inl (cy 0, 8, .inl f)
  | 39 => .inl (cy 0, 8, .inl f)
  | 40 => .inl (cy 0, 70, .inl f)
  | 41 => .inl (cy 0, 6, .inl f)
  | 42 => .inl (cy 0, 6, .inl f)
  | 43 => .inl (cy 0, 6, .inl f)
  | 44 => .inl (cy 0, 15, .inl f)
  | 45 => .inl (cy 0, 15, .inl f)
  | 46 => .inl (cy 0, 240, .inl f)
  | 47 => .inl (cy 0, 6, .inl f)
  | 48 => .inl (cy 0, 30, .inl f)
  | 49 => .inl (cy 0, 8, .inl f)
  | 50 => .inl (cy 0, 8, .inl f)
  | 51 => .inl (cy 0, 5, .inl f)
  | 52 => .inl (cy 0, 5, .inl f)
  | 53 => .inl (cy 0, 6, .inl f)
  | 54 => .inl (cy 0, 1120, .inl f)
  | 55 => .inl (cy 0, 6, .inl f)
  | 56 => .inl (cy 0, 3, .inl f)
  | 57 => .inl (cy 1, 61, .inl f)
  | 58 => .inl (cy 0, 488, .inl f)
  | 59 => .inl (cy 0, 142, .inl f)
  | _ => .inl (cy 1, 2, .inl f)
def cls : List (Nat × Nat) := [(0, 0), (1, 0), (2, 0), (3, 0), (3, 1), (4, 0), (4, 1), (5, 0), (5, 1), (6, 0), (6, 1), (6, 2), (6, 3), (6, 4), (6, 5), (6, 6), (6, 7), (6, 8), (6, 9), (6, 10), (6, 11), (7, 0), (7, 1), (8, 0), (8, 1), (9, 0), (10, 0), (11, 0), (11, 1), (11, 2), (11, 3), (11, 4), (11, 5), (11, 6), (12, 0), (12, 1), (12, 2), (12, 3), (12, 4), (12, 5), (12, 6), (13, 0), (13, 1), (13, 2), (13, 3), (13, 4), (13, 5), (13, 6), (14, 0), (15, 0), (16, 0), (17, 0), (17, 1), (17, 2), (17, 3), (17, 4), (17, 5), (17, 6), (17, 7), (17, 8), (17, 9), (17, 10), (17, 11), (17, 12), (17, 13), (17, 14), (17, 15), (17, 16), (17, 17), (18, 0), (19, 0), (20, 0), (21, 0), (22, 0), (23, 0), (24, 0), (25, 0), (26, 0), (27, 0), (28, 0), (29, 0), (30, 0), (31, 0), (32, 0), (33, 0), (34, 0), (35, 0), (36, 0), (37, 0), (38, 0), (39, 0), (40, 0), (41, 0), (42, 0), (43, 0), (44, 0), (45, 0), (46, 0), (47, 0), (48, 0), (49, 0), (50, 0), (51, 0), (52, 0), (53, 0), (54, 0), (55, 0), (56, 0), (57, 0), (58, 0), (59, 0), (60, 0)]
theorem cls_nd : cls.Nodup := by decide +kernel
theorem cl_0 {o : Nat} (h : o < 1) : (0, o) ∈ cls := by
  rcases (show o = 0 by omega) with rfl
  decide +kernel
theorem cl_1 {o : Nat} (h : o < 1) : (1, o) ∈ cls := by
  rcases (show o = 0 by omega) with rfl
  decide +kernel
theorem cl_2 {o : Nat} (h : o < 1) : (2, o) ∈ cls := by
  rcases (show o = 0 by omega) with rfl
  decide +kernel
theorem cl_3 {o : Nat} (h : o < 2) : (3, o) ∈ cls := (by decide +kernel : ∀ o : Nat, o < 2 → (3, o) ∈ cls) o h
theorem cl_4 {o : Nat} (h : o < 2) : (4, o) ∈ cls := (by decide +kernel : ∀ o : Nat, o < 2 → (4, o) ∈ cls) o h
theorem cl_5 {o : Nat} (h : o < 2) : (5, o) ∈ cls := (by decide +kernel : ∀ o : Nat, o < 2 → (5, o) ∈ cls) o h
theorem cl_6 {o : Nat} (h : o < 12) : (6, o) ∈ cls := (by decide +kernel : ∀ o : Nat, o < 12 → (6, o) ∈ cls) o h
theorem cl_7 {o : Nat} (h : o < 2) : (7, o) ∈ cls := (by decide +kernel : ∀ o : Nat, o < 2 → (7, o) ∈ cls) o h
theorem cl_8 {o : Nat} (h : o < 2) : (8, o) ∈ cls := (by decide +kernel : ∀ o : Nat, o < 2 → (8, o) ∈ cls) o h
theorem cl_9 {o : Nat} (h : o < 1) : (9, o) ∈ cls := by
  rcases (show o = 0 by omega) with rfl
  decide +kernel
theorem cl_10 {o : Nat} (h : o < 1) : (10, o) ∈ cls := by
  rcases (show o = 0 by omega) with rfl
  decide +kernel
theorem cl_11 {o : Nat} (h : o < 7) : (11, o) ∈ cls := (by decide +kernel : ∀ o : Nat, o < 7 → (11, o) ∈ cls) o h
theorem cl_12 {o : Nat} (h : o < 7) : (12, o) ∈ cls := (by decide +kernel : ∀ o : Nat, o < 7 → (12, o) ∈ cls) o h
theorem cl_13 {o : Nat} (h : o < 7) : (13, o) ∈ cls := (by decide +kernel : ∀ o : Nat, o < 7 → (13, o) ∈ cls) o h
theorem cl_14 {o : Nat} (h : o < 1) : (14, o) ∈ cls := by
  rcases (show o = 0 by omega) with rfl
  decide +kernel
theorem cl_15 {o : Nat} (h : o < 1) : (15, o) ∈ cls := by
  rcases (show o = 0 by omega) with rfl
  decide +kernel
theorem cl_16 {o : Nat} (h : o < 1) : (16, o) ∈ cls := by
  rcases (show o = 0 by omega) with rfl
  decide +kernel
theorem cl_17 {o : Nat} (h : o < 18) : (17, o) ∈ cls := (by decide +kernel : ∀ o : Nat, o < 18 → (17, o) ∈ cls) o h
theorem cl_18 {o : Nat} (h : o < 1) : (18, o) ∈ cls := by
  rcases (show o = 0 by omega) with rfl
  decide +kernel
theorem cl_19 {o : Nat} (h : o < 1) : (19, o) ∈ cls := by
  rcases (show o = 0 by omega) with rfl
  decide +kernel
theorem cl_20 {o : Nat} (h : o < 1) : (20, o) ∈ cls := by
  rcases (show o = 0 by omega) with rfl
  decide +kernel
theorem cl_21 {o : Nat} (h : o < 1) : (21, o) ∈ cls := by
  rcases (show o = 0 by omega) with rfl
  decide +kernel
theorem cl_22 {o : Nat} (h : o < 1) : (22, o) ∈ cls := by
  rcases (show o = 0 by omega) with rfl
  decide +kernel
theorem cl_23 {o : Nat} (h : o < 1) : (23, o) ∈ cls := by
  rcases (show o = 0 by omega) with rfl
  decide +kernel
theorem cl_24 {o : Nat} (h : o < 1) : (24, o) ∈ cls := by
  rcases (show o = 0 by omega) with rfl
  decide +kernel
theorem cl_25 {o : Nat} (h : o < 1) : (25, o) ∈ cls := by
  rcases (show o = 0 by omega) with rfl
  decide +kernel
theorem cl_26 {o : Nat} (h : o < 1) : (26, o) ∈ cls := by
  rcases (show o = 0 by omega) with rfl
  decide +kernel
theorem cl_27 {o : Nat} (h : o < 1) : (27, o) ∈ cls := by
  rcases (show o = 0 by omega) with rfl
  decide +kernel
theorem cl_28 {o : Nat} (h : o < 1) : (28, o) ∈ cls := by
  rcases (show o = 0 by omega) with rfl
  decide +kernel
theorem cl_29 {o : Nat} (h : o < 1) : (29, o) ∈ cls := by
  rcases (show o = 0 by omega) with rfl
  decide +kernel
theorem cl_30 {o : Nat} (h : o < 1) : (30, o) ∈ cls := by
  rcases (show o = 0 by omega) with rfl
  decide +kernel
theorem cl_31 {o : Nat} (h : o < 1) : (31, o) ∈ cls := by
  rcases (show o = 0 by omega) with rfl
  decide +kernel
theorem cl_32 {o : Nat} (h : o < 1) : (32, o) ∈ cls := by
  rcases (show o = 0 by omega) with rfl
  decide +kernel
theorem cl_33 {o : Nat} (h : o < 1) : (33, o) ∈ cls := by
  rcases (show o = 0 by omega) with rfl
  decide +kernel
theorem cl_34 {o : Nat} (h : o < 1) : (34, o) ∈ cls := by
  rcases (show o = 0 by omega) with rfl
  decide +kernel
theorem cl_35 {o : Nat} (h : o < 1) : (35, o) ∈ cls := by
  rcases (show o = 0 by omega) with rfl
  decide +kernel
theorem cl_36 {o : Nat} (h : o < 1) : (36, o) ∈ cls := by
  rcases (show o = 0 by omega) with rfl
  decide +kernel
theorem cl_37 {o : Nat} (h : o < 1) : (37, o) ∈ cls := by
  rcases (show o = 0 by omega) with rfl
  decide +kernel
theorem cl_38 {o : Nat} (h : o < 1) : (38, o) ∈ cls := by
  rcases (show o = 0 by omega) with rfl
  decide +kernel
theorem cl_39 {o : Nat} (h : o < 1) : (39, o) ∈ cls := by
  rcases (show o = 0 by omega) with rfl
  decide +kernel
theorem cl_40 {o : Nat} (h : o < 1) : (40, o) ∈ cls := by
  rcases (show o = 0 by omega) with rfl
  decide +kernel
theorem cl_41 {o : Nat} (h : o < 1) : (41, o) ∈ cls := by
  rcases (show o = 0 by omega) with rfl
  decide +kernel
theorem cl_42 {o : Nat} (h : o < 1) : (42, o) ∈ cls := by
  rcases (show o = 0 by omega) with rfl
  decide +kernel
theorem cl_43 {o : Nat} (h : o < 1) : (43, o) ∈ cls := by
  rcases (show o = 0 by omega) with rfl
  decide +kernel
theorem cl_44 {o : Nat} (h : o < 1) : (44, o) ∈ cls := by
  rcases (show o = 0 by omega) with rfl
  decide +kernel
theorem cl_45 {o : Nat} (h : o < 1) : (45, o) ∈ cls := by
  rcases (show o = 0 by omega) with rfl
  decide +kernel
theorem cl_46 {o : Nat} (h : o < 1) : (46, o) ∈ cls := by
  rcases (show o = 0 by omega) with rfl
  decide +kernel
theorem cl_47 {o : Nat} (h : o < 1) : (47, o) ∈ cls := by
  rcases (show o = 0 by omega) with rfl
  decide +kernel
theorem cl_48 {o : Nat} (h : o < 1) : (48, o) ∈ cls := by
  rcases (show o = 0 by omega) with rfl
  decide +kernel
theorem cl_49 {o : Nat} (h : o < 1) : (49, o) ∈ cls := by
  rcases (show o = 0 by omega) with rfl
  decide +kernel
theorem cl_50 {o : Nat} (h : o < 1) : (50, o) ∈ cls := by
  rcases (show o = 0 by omega) with rfl
  decide +kernel
theorem cl_51 {o : Nat} (h : o < 1) : (51, o) ∈ cls := by
  rcases (show o = 0 by omega) with rfl
  decide +kernel
theorem cl_52 {o : Nat} (h : o < 1) : (52, o) ∈ cls := by
  rcases (show o = 0 by omega) with rfl
  decide +kernel
theorem cl_53 {o : Nat} (h : o < 1) : (53, o) ∈ cls := by
  rcases (show o = 0 by omega) with rfl
  decide +kernel
theorem cl_54 {o : Nat} (h : o < 1) : (54, o) ∈ cls := by
  rcases (show o = 0 by omega) with rfl
  decide +kernel
theorem cl_55 {o : Nat} (h : o < 1) : (55, o) ∈ cls := by
  rcases (show o = 0 by omega) with rfl
  decide +kernel
theorem cl_56 {o : Nat} (h : o < 1) : (56, o) ∈ cls := by
  rcases (show o = 0 by omega) with rfl
  decide +kernel
theorem cl_57 {o : Nat} (h : o < 1) : (57, o) ∈ cls := by
  rcases (show o = 0 by omega) with rfl
  decide +kernel
theorem cl_58 {o : Nat} (h : o < 1) : (58, o) ∈ cls := by
  rcases (show o = 0 by omega) with rfl
  decide +kernel
theorem cl_59 {o : Nat} (h : o < 1) : (59, o) ∈ cls := by
  rcases (show o = 0 by omega) with rfl
  decide +kernel
theorem cl_60 {o : Nat} (h : o < 1) : (60, o) ∈ cls := by
  rcases (show o = 0 by omega) with rfl
  decide +kernel
def wld (cy : Nat → ClassId) (adr : Nat → Nat → Nat) (S : St) : va_W := cls.map (fun z => (adr z.1 z.2, en cy adr z.1 z.2 (S z.1 z.2)))
def Az (adr : Nat → Nat → Nat) : Nat → Prop := fun q => ∃ z : Nat × Nat, z ∈ cls ∧ q = adr z.1 z.2
def Ij (adr : Nat → Nat → Nat) : Prop := ∀ z : Nat × Nat, z ∈ cls → ∀ z2 : Nat × Nat, z2 ∈ cls → adr z.1 z.2 = adr z2.1 z2.2 → z = z2
def tyl (cy : Nat → ClassId) : List (ClassId × FieldType) := [(cy 0, .int), (cy 1, .boolean), (cy 2, .object "TannedMen$Man"), (cy 3, .array .int)]
theorem nd_inj {α : Type} : ∀ {l : List α} {i j : Nat} {a : α}, l.Nodup → l[i]? = some a → l[j]? = some a → i = j
  | [], i, j, a, _, h, _ => by simp at h
  | b :: l, i, j, a, hn, h1, h2 => by
    have hn2 := List.nodup_cons.mp hn
    cases i with
    | zero =>
      cases j with
      | zero => rfl
      | succ j =>
        rw [List.getElem?_cons_zero] at h1
        rw [List.getElem?_cons_succ] at h2
        cases h1
        exact absurd (List.mem_of_getElem? h2) hn2.1
    | succ i =>
      rw [List.getElem?_cons_succ] at h1
      cases j with
      | zero =>
        rw [List.getElem?_cons_zero] at h2
        cases h2
        exact absurd (List.mem_of_getElem? h1) hn2.1
      | succ j =>
        rw [List.getElem?_cons_succ] at h2
        rw [nd_inj hn2.2 h1 h2]
theorem wld_at {cy : Nat → ClassId} {adr : Nat → Nat → Nat} {S : St} {i : Nat} {q : Nat × va_E} (h : (wld cy adr S)[i]? = some q) : ∃ z : Nat × Nat, cls[i]? = some z ∧ q = (adr z.1 z.2, en cy adr z.1 z.2 (S z.1 z.2)) := by
  unfold wld at h
  rw [List.getElem?_map] at h
  cases hc : cls[i]? with
  | none => rw [hc] at h; cases h
  | some z => rw [hc] at h; exact ⟨z, rfl, (Option.some.inj h).symm⟩
theorem wld_D {cy : Nat → ClassId} {adr : Nat → Nat → Nat} {A : Nat → Prop} (hj : Ij adr) (hA : ∀ q, Az adr q → A q) (S : St) : va_D A (wld cy adr S) := by
  refine ⟨fun i j p q h1 h2 h3 => ?_, fun i q h => ?_⟩
  · obtain ⟨z, c1, rfl⟩ := wld_at h1
    obtain ⟨z2, c2, rfl⟩ := wld_at h2
    have e := hj z (List.mem_of_getElem? c1) z2 (List.mem_of_getElem? c2) h3
    subst e
    exact nd_inj cls_nd c1 c2
  · obtain ⟨z, c1, rfl⟩ := wld_at h
    exact hA _ ⟨z, List.mem_of_getElem? c1, rfl⟩
theorem wld_in {cy : Nat → ClassId} {adr : Nat → Nat → Nat} {S : St} {a o : Nat} (h : (a, o) ∈ cls) : ∃ i : Nat, cls[i]? = some (a, o) ∧ (wld cy adr S)[i]? = some (adr a o, en cy adr a o (S a o)) := by
  obtain ⟨i, hi⟩ := List.getElem?_of_mem h
  refine ⟨i, hi, ?_⟩
  unfold wld
  rw [List.getElem?_map, hi]
  rfl
theorem wr_at (S : St) (a o i : Nat) (v : Int32) : wr S a o i v a o = upd (S a o) i v := if_pos ⟨rfl, rfl⟩
theorem wr_ne {S : St} {a o i : Nat} {v : Int32} {z : Nat × Nat} (h : z ≠ (a, o)) : wr S a o i v z.1 z.2 = S z.1 z.2 := if_neg (fun q => h (Prod.ext q.1 q.2))
theorem wld_set {cy : Nat → ClassId} {adr : Nat → Nat → Nat} {S : St} {a o i j : Nat} {v : Int32} {e : va_E} (hi : cls[i]? = some (a, o)) (he : en cy adr a o (upd (S a o) j v) = e) : (wld cy adr S).set i (adr a o, e) = wld cy adr (wr S a o j v) := by
  apply List.ext_getElem?
  intro n
  rw [List.getElem?_set]
  unfold wld
  rw [List.length_map, List.getElem?_map, List.getElem?_map]
  by_cases h : i = n
  · subst h
    rw [if_pos rfl, if_pos (List.getElem?_eq_some_iff.mp hi).1, hi]
    show some (adr a o, e) = some (adr a o, en cy adr a o (wr S a o j v a o))
    rw [wr_at, he]
  · rw [if_neg h]
    cases hc : cls[n]? with
    | none => rfl
    | some z =>
      have hz : z ≠ (a, o) := fun q => h (nd_inj cls_nd hi (q ▸ hc))
      show some (adr z.1 z.2, en cy adr z.1 z.2 (S z.1 z.2)) = some (adr z.1 z.2, en cy adr z.1 z.2 (wr S a o j v z.1 z.2))
      rw [wr_ne hz]
/-- the words that last -/
def tz : List Cond := lw_tbl.filter goodWord
theorem tz_in {w : Cond} (i : Nat) (h : lw_tbl[i]? = some w) (hg : goodWord w = true) : w ∈ tz := List.mem_filter.mpr ⟨List.mem_of_getElem? h, hg⟩
theorem tz_good {w : Cond} (h : w ∈ tz) : (w.onTables && w.keeps) = true ∨ ∃ ty, w = .arrayClass ty := good_of_word (List.mem_filter.mp h).2
theorem tz_ws {ws : List Cond} (ps : List Nat) (hp : ws = ps.filterMap (fun i => lw_tbl[i]?)) (hg : ws.all goodWord = true) : ∀ w ∈ ws, w ∈ tz := by
  intro w hw
  have h1 := List.all_eq_true.mp hg w hw
  rw [hp] at hw
  obtain ⟨i, -, hi⟩ := List.mem_filterMap.mp hw
  exact tz_in i hi h1
def wz (y : MethodName) (b : ByteArray) (n : Nat) (ret : Option FieldType) : List Cond := .code y b n ret :: tz
theorem gdV {own C : String} {idx n : Nat} {y : MethodName} {b : ByteArray} {ret : Option FieldType} (h1 : Cond.methodLink own idx y ∈ tz) (h2 : Cond.instanceMethod y ∈ tz) (h3 : Cond.selects C y y ∈ tz) (h4 : Cond.initialized C ∈ tz) (h5 : Cond.code y b n ret ∈ tz) : GoodIn tz (wsV own idx C y (wz y b n ret)) := by
  intro w hw
  have key : w ∈ tz := by
    unfold wsV wz at hw
    simp only [List.mem_append, List.mem_cons, List.not_mem_nil, or_false] at hw
    rcases hw with (rfl | rfl | rfl | rfl) | rfl | h
    · exact h1
    · exact h2
    · exact h3
    · exact h4
    · exact h5
    · exact h
  exact ⟨key, tz_good key⟩
theorem gdS {own : String} {idx n : Nat} {y : MethodName} {b : ByteArray} {ret : Option FieldType} (h1 : Cond.methodLink own idx y ∈ tz) (h2 : Cond.static y ∈ tz) (h4 : Cond.initialized y.cls ∈ tz) (h5 : Cond.code y b n ret ∈ tz) : GoodIn tz (va_wsS own idx y (wz y b n ret)) := by
  intro w hw
  have key : w ∈ tz := by
    unfold va_wsS wz at hw
    simp only [List.mem_append, List.mem_cons, List.not_mem_nil, or_false] at hw
    rcases hw with (rfl | rfl | rfl) | rfl | h
    · exact h1
    · exact h2
    · exact h4
    · exact h5
    · exact h
  exact ⟨key, tz_good key⟩
theorem gdZ {n : Nat} {y : MethodName} {b : ByteArray} {ret : Option FieldType} (h5 : Cond.code y b n ret ∈ tz) : GoodIn tz (wz y b n ret) := by
  intro w hw
  have key : w ∈ tz := by
    unfold wz at hw
    rcases List.mem_cons.mp hw with rfl | h
    · exact h5
    · exact h
  exact ⟨key, tz_good key⟩
theorem st_mmax : Cond.static Lib.Math.max.name ∈ tz := tz_in 477 (by decide +kernel) (by decide +kernel)
theorem cd_mmax : Cond.code Lib.Math.max.name Lib.Math.max.code 2 (some .int) ∈ tz := tz_in 478 (by decide +kernel) (by decide +kernel)
theorem st_mmin : Cond.static Lib.Math.min.name ∈ tz := tz_in 553 (by decide +kernel) (by decide +kernel)
theorem cd_mmin : Cond.code Lib.Math.min.name Lib.Math.min.code 2 (some .int) ∈ tz := tz_in 554 (by decide +kernel) (by decide +kernel)
theorem in_math : Cond.initialized "java/lang/Math" ∈ tz := tz_in 48 (by decide +kernel) (by decide +kernel)
/-- what stays the same while a method runs -/
abbrev KX : Type := Program × Launch × Env × Room × State × MethodId × Array Value × List Frame × Method × Code × Nat × Nat × Nat × (Int32 → St → State → Prop) × (Nat → Prop)
abbrev WX : Type := va_G × (Nat → ClassId)
def Nw (U : State) : Prop := va_Nw (.methodLinkNest RX8 102 yX10_isOutside RX10) U
def Ge (w : WX) (adr : Nat → Nat → Nat) (k : KX) (pc : Nat) (lv : List (Nat × Value)) (st : List Value) (S : St) (F : Op) : Prop := match k with
  | (p, l, e, R, s, m, args, below, meth, c, nL, kc, ks, Qf, A) => ∀ (r : Int32) (S2 : St), F = some (r, S2) → ∀ (H : Heap) (locs : List Loc) (ls : Array Slot), va_P w.1 vwCl (wld w.2 adr S) H → va_S A s.heap H locs → lv_has ls nL lv → W p l e R s m args below meth c H locs kc ks (Qf r S2) (F0 m pc ls st)
def Cx (w : WX) (adr : Nat → Nat → Nat) (k : KX) (cc : ByteArray) (own : String) (n fr lo : Nat) : Prop := match k with
  | (p, l, e, R, s, m, args, below, meth, c, nL, kc, ks, Qf, A) => p.tables.exec = Jvm.exec ∧ c.code = cc ∧ c.maxLocals = nL ∧ nL = n ∧ s.vm.findClass own = some m.cls ∧ (∀ x ∈ tz, x.before args s = true) ∧ va_K w.1 vwCl (tyl w.2) s ∧ Ij adr ∧ (∀ q, Az adr q → A q) ∧ Nw s ∧ kc ≤ R.cells ∧ ks ≤ R.slots ∧ fr ≤ R.frames ∧ lo ≤ R.locals
def Bz (w : WX) (adr : Nat → Nat → Nat) (S : St) (U : State) : Prop := va_P w.1 vwCl (wld w.2 adr S) U.heap ∧ va_K w.1 vwCl (tyl w.2) U ∧ Nw U
def Qi (w : WX) (adr : Nat → Nat → Nat) (r : Int32) (S : St) : Array Value → State → Outcome → State → Prop := va_Qi (fun (r2 : Int32) (u : St) => r2 = r ∧ u = S) (Bz w adr) (Az adr)
def Qv (w : WX) (adr : Nat → Nat → Nat) (S : St) : Array Value → State → Outcome → State → Prop := va_Qv (fun (u : St) => u = S) (Bz w adr) (Az adr)
def Mi (l : Launch) (w : WX) (adr : Nat → Nat → Nat) (y : MethodName) (b : ByteArray) (n : Nat) (ret : Option FieldType) (fr lo : Nat) (av : List Value) (S : St) (r : Int32) (S2 : St) : Prop := Met l y (wz y b n ret) { frames := fr, cells := 0, slots := 0, locals := lo } (va_Pc av (Bz w adr S)) (Qi w adr r S2) 0 0 (Az adr)
def Mv (l : Launch) (w : WX) (adr : Nat → Nat → Nat) (y : MethodName) (b : ByteArray) (n : Nat) (ret : Option FieldType) (fr lo : Nat) (av : List Value) (S : St) (S2 : St) : Prop := Met l y (wz y b n ret) { frames := fr, cells := 0, slots := 0, locals := lo } (va_Pc av (Bz w adr S)) (Qv w adr S2) 0 0 (Az adr)
/-- how it ends: an int (a boolean), or nothing -/
def Ri (w : WX) (adr : Nat → Nat → Nat) (k : KX) (ty : FieldType) : Prop := match k with
  | (p, l, e, R, s, m, args, below, meth, c, nL, kc, ks, Qf, A) => meth.sig.returnType = some ty ∧ meth.locks = false ∧ kc = 0 ∧ ks = 0 ∧ A = Az adr ∧ Qf = fun r S2 => MQ below (Qi w adr r S2) args s 0 0 (Az adr)
def Rv (w : WX) (adr : Nat → Nat → Nat) (k : KX) : Prop := match k with
  | (p, l, e, R, s, m, args, below, meth, c, nL, kc, ks, Qf, A) => meth.sig.returnType = none ∧ meth.locks = false ∧ kc = 0 ∧ ks = 0 ∧ A = Az adr ∧ Qf = fun _ S2 => MQ below (Qv w adr S2) args s 0 0 (Az adr)
theorem Nw.warm {s U : State} (hW : s.WarmedH U.vm) (h : Nw s) : Nw U := va_Nw.warmM hW h
theorem Nw.alike {s U : State} (h : s.vm = U.vm) (q : Nw s) : Nw U := va_Nw.same rfl h q
theorem bz_blind {w : WX} {adr : Nat → Nat → Nat} {S : St} {av : List Value} : FrameBlind (va_Pc av (Bz w adr S)) := by
  intro a U g mk q
  obtain ⟨q0, qP, qK, qN⟩ := q
  exact ⟨q0, qP, va_K.moved (u := U) (U := U.calling g mk a) (Vm.Alike.refl U.vm) qK, Nw.alike rfl qN⟩
section GE
variable {w : WX} {adr : Nat → Nat → Nat} {k : KX} {cc : ByteArray} {own : String} {nL fr lo : Nat} {pc n : Nat} {lv : List (Nat × Value)} {st : List Value} {S : St} {F : Op}
theorem ge_iconst (C : Cx w adr k cc own nL fr lo) {q : Int} {v : Int32} (hd : decode cc pc = .ok (.iconst q, 1)) (hv : Int32.ofInt q = v) (hn : pc + 1 = n) (kk : Ge w adr k n lv (.int v :: st) S F) : Ge w adr k pc lv (st) S F := by
  obtain ⟨p, l, e, R, s, m, args, below, meth, c, nL, kc, ks, Qf, A⟩ := k
  obtain ⟨hx, hb, hml, hnl, hown, hts, hK, hj, hA, hN, hkc, hks, hfr, hlo⟩ := C
  subst hn
  intro r S2 hF H locs ls hP hS hl
  exact lv_iconst hx hb hd hv (kk r S2 hF H locs ls hP hS hl)
theorem ge_bipush (C : Cx w adr k cc own nL fr lo) {q : Int} {v : Int32} (hd : decode cc pc = .ok (.bipush q, 2)) (hv : (Int8.ofInt q).toInt32 = v) (hn : pc + 2 = n) (kk : Ge w adr k n lv (.int v :: st) S F) : Ge w adr k pc lv (st) S F := by
  obtain ⟨p, l, e, R, s, m, args, below, meth, c, nL, kc, ks, Qf, A⟩ := k
  obtain ⟨hx, hb, hml, hnl, hown, hts, hK, hj, hA, hN, hkc, hks, hfr, hlo⟩ := C
  subst hn
  intro r S2 hF H locs ls hP hS hl
  exact lv_bipush hx hb hd hv (kk r S2 hF H locs ls hP hS hl)
theorem ge_sipush (C : Cx w adr k cc own nL fr lo) {q : Int} {v : Int32} (hd : decode cc pc = .ok (.sipush q, 3)) (hv : (Int16.ofInt q).toInt32 = v) (hn : pc + 3 = n) (kk : Ge w adr k n lv (.int v :: st) S F) : Ge w adr k pc lv (st) S F := by
  obtain ⟨p, l, e, R, s, m, args, below, meth, c, nL, kc, ks, Qf, A⟩ := k
  obtain ⟨hx, hb, hml, hnl, hown, hts, hK, hj, hA, hN, hkc, hks, hfr, hlo⟩ := C
  subst hn
  intro r S2 hF H locs ls hP hS hl
  exact lv_sipush hx hb hd hv (kk r S2 hF H locs ls hP hS hl)
theorem ge_lconst (C : Cx w adr k cc own nL fr lo) {q : Fin 2} {v : Int64} (hd : decode cc pc = .ok (.lconst q, 1)) (hv : Int64.ofNat (q : Nat) = v) (hn : pc + 1 = n) (kk : Ge w adr k n lv (.long v :: st) S F) : Ge w adr k pc lv (st) S F := by
  obtain ⟨p, l, e, R, s, m, args, below, meth, c, nL, kc, ks, Qf, A⟩ := k
  obtain ⟨hx, hb, hml, hnl, hown, hts, hK, hj, hA, hN, hkc, hks, hfr, hlo⟩ := C
  subst hn
  intro r S2 hF H locs ls hP hS hl
  exact lv_lconst hx hb hd hv (kk r S2 hF H locs ls hP hS hl)
theorem ge_ldc (C : Cx w adr k cc own nL fr lo) {i : Nat} {v : Int32} (hc : Cond.constant own i v ∈ tz) (hd : decode cc pc = .ok (.ldc i, 2)) (hn : pc + 2 = n) (kk : Ge w adr k n lv (.int v :: st) S F) : Ge w adr k pc lv (st) S F := by
  obtain ⟨p, l, e, R, s, m, args, below, meth, c, nL, kc, ks, Qf, A⟩ := k
  obtain ⟨hx, hb, hml, hnl, hown, hts, hK, hj, hA, hN, hkc, hks, hfr, hlo⟩ := C
  subst hn
  intro r S2 hF H locs ls hP hS hl
  exact lv_ldc hx hb hown (hts _ hc) hd (kk r S2 hF H locs ls hP hS hl)
theorem ge_ldcw (C : Cx w adr k cc own nL fr lo) {i : Nat} {v : Int32} (hc : Cond.constant own i v ∈ tz) (hd : decode cc pc = .ok (.ldc_w i, 3)) (hn : pc + 3 = n) (kk : Ge w adr k n lv (.int v :: st) S F) : Ge w adr k pc lv (st) S F := by
  obtain ⟨p, l, e, R, s, m, args, below, meth, c, nL, kc, ks, Qf, A⟩ := k
  obtain ⟨hx, hb, hml, hnl, hown, hts, hK, hj, hA, hN, hkc, hks, hfr, hlo⟩ := C
  subst hn
  intro r S2 hF H locs ls hP hS hl
  exact lv_ldcw hx hb hown (hts _ hc) hd (kk r S2 hF H locs ls hP hS hl)
theorem ge_ldc2 (C : Cx w adr k cc own nL fr lo) {i : Nat} {v : Int64} (hc : Cond.constantLong own i v ∈ tz) (hd : decode cc pc = .ok (.ldc2_w i, 3)) (hn : pc + 3 = n) (kk : Ge w adr k n lv (.long v :: st) S F) : Ge w adr k pc lv (st) S F := by
  obtain ⟨p, l, e, R, s, m, args, below, meth, c, nL, kc, ks, Qf, A⟩ := k
  obtain ⟨hx, hb, hml, hnl, hown, hts, hK, hj, hA, hN, hkc, hks, hfr, hlo⟩ := C
  subst hn
  intro r S2 hF H locs ls hP hS hl
  exact lv_ldc2 hx hb hown (hts _ hc) hd (kk r S2 hF H locs ls hP hS hl)
theorem ge_iload_n (C : Cx w adr k cc own nL fr lo) {q : Fin 4} {i : Nat} {x : Int32} (j : Nat) (hl : lv[j]? = some (i, .int x)) (hd : decode cc pc = .ok (.iload_n q, 1)) (hi : (q : Nat) = i) (hn : pc + 1 = n) (kk : Ge w adr k n lv (.int x :: st) S F) : Ge w adr k pc lv (st) S F := by
  obtain ⟨p, l, e, R, s, m, args, below, meth, c, nL, kc, ks, Qf, A⟩ := k
  obtain ⟨hx, hb, hml, hnl, hown, hts, hK, hj, hA, hN, hkc, hks, hfr, hlo⟩ := C
  subst hn
  intro r S2 hF H locs ls hP hS hl2
  exact lv_iload_n hx hb hd hi (lv_at hl2 j hl) (kk r S2 hF H locs ls hP hS hl2)
theorem ge_iload (C : Cx w adr k cc own nL fr lo) {i : Nat} {x : Int32} (j : Nat) (hl : lv[j]? = some (i, .int x)) (hd : decode cc pc = .ok (.iload i, 2)) (hn : pc + 2 = n) (kk : Ge w adr k n lv (.int x :: st) S F) : Ge w adr k pc lv (st) S F := by
  obtain ⟨p, l, e, R, s, m, args, below, meth, c, nL, kc, ks, Qf, A⟩ := k
  obtain ⟨hx, hb, hml, hnl, hown, hts, hK, hj, hA, hN, hkc, hks, hfr, hlo⟩ := C
  subst hn
  intro r S2 hF H locs ls hP hS hl2
  exact lv_iload hx hb hd (lv_at hl2 j hl) (kk r S2 hF H locs ls hP hS hl2)
theorem ge_lload_n (C : Cx w adr k cc own nL fr lo) {q : Fin 4} {i : Nat} {x : Int64} (j : Nat) (hl : lv[j]? = some (i, .long x)) (hd : decode cc pc = .ok (.lload_n q, 1)) (hi : (q : Nat) = i) (hn : pc + 1 = n) (kk : Ge w adr k n lv (.long x :: st) S F) : Ge w adr k pc lv (st) S F := by
  obtain ⟨p, l, e, R, s, m, args, below, meth, c, nL, kc, ks, Qf, A⟩ := k
  obtain ⟨hx, hb, hml, hnl, hown, hts, hK, hj, hA, hN, hkc, hks, hfr, hlo⟩ := C
  subst hn
  intro r S2 hF H locs ls hP hS hl2
  exact lv_lload_n hx hb hd hi (lv_at hl2 j hl) (kk r S2 hF H locs ls hP hS hl2)
theorem ge_lload (C : Cx w adr k cc own nL fr lo) {i : Nat} {x : Int64} (j : Nat) (hl : lv[j]? = some (i, .long x)) (hd : decode cc pc = .ok (.lload i, 2)) (hn : pc + 2 = n) (kk : Ge w adr k n lv (.long x :: st) S F) : Ge w adr k pc lv (st) S F := by
  obtain ⟨p, l, e, R, s, m, args, below, meth, c, nL, kc, ks, Qf, A⟩ := k
  obtain ⟨hx, hb, hml, hnl, hown, hts, hK, hj, hA, hN, hkc, hks, hfr, hlo⟩ := C
  subst hn
  intro r S2 hF H locs ls hP hS hl2
  exact lv_lload hx hb hd (lv_at hl2 j hl) (kk r S2 hF H locs ls hP hS hl2)
theorem ge_aload_n (C : Cx w adr k cc own nL fr lo) {q : Fin 4} {i : Nat} {x : Nat} (j : Nat) (hl : lv[j]? = some (i, .ref x)) (hd : decode cc pc = .ok (.aload_n q, 1)) (hi : (q : Nat) = i) (hn : pc + 1 = n) (kk : Ge w adr k n lv (.ref x :: st) S F) : Ge w adr k pc lv (st) S F := by
  obtain ⟨p, l, e, R, s, m, args, below, meth, c, nL, kc, ks, Qf, A⟩ := k
  obtain ⟨hx, hb, hml, hnl, hown, hts, hK, hj, hA, hN, hkc, hks, hfr, hlo⟩ := C
  subst hn
  intro r S2 hF H locs ls hP hS hl2
  exact lv_aload_n hx hb hd hi (lv_at hl2 j hl) (kk r S2 hF H locs ls hP hS hl2)
theorem ge_aload (C : Cx w adr k cc own nL fr lo) {i : Nat} {x : Nat} (j : Nat) (hl : lv[j]? = some (i, .ref x)) (hd : decode cc pc = .ok (.aload i, 2)) (hn : pc + 2 = n) (kk : Ge w adr k n lv (.ref x :: st) S F) : Ge w adr k pc lv (st) S F := by
  obtain ⟨p, l, e, R, s, m, args, below, meth, c, nL, kc, ks, Qf, A⟩ := k
  obtain ⟨hx, hb, hml, hnl, hown, hts, hK, hj, hA, hN, hkc, hks, hfr, hlo⟩ := C
  subst hn
  intro r S2 hF H locs ls hP hS hl2
  exact lv_aload hx hb hd (lv_at hl2 j hl) (kk r S2 hF H locs ls hP hS hl2)
theorem ge_iadd (C : Cx w adr k cc own nL fr lo) {x y : Int32} (hd : decode cc pc = .ok (.iadd, 1)) (hn : pc + 1 = n) (kk : Ge w adr k n lv (.int (x + y) :: st) S F) : Ge w adr k pc lv (.int y :: .int x :: st) S F := by
  obtain ⟨p, l, e, R, s, m, args, below, meth, c, nL, kc, ks, Qf, A⟩ := k
  obtain ⟨hx, hb, hml, hnl, hown, hts, hK, hj, hA, hN, hkc, hks, hfr, hlo⟩ := C
  subst hn
  intro r S2 hF H locs ls hP hS hl
  exact lv_iadd hx hb hd (kk r S2 hF H locs ls hP hS hl)
theorem ge_isub (C : Cx w adr k cc own nL fr lo) {x y : Int32} (hd : decode cc pc = .ok (.isub, 1)) (hn : pc + 1 = n) (kk : Ge w adr k n lv (.int (x - y) :: st) S F) : Ge w adr k pc lv (.int y :: .int x :: st) S F := by
  obtain ⟨p, l, e, R, s, m, args, below, meth, c, nL, kc, ks, Qf, A⟩ := k
  obtain ⟨hx, hb, hml, hnl, hown, hts, hK, hj, hA, hN, hkc, hks, hfr, hlo⟩ := C
  subst hn
  intro r S2 hF H locs ls hP hS hl
  exact lv_isub hx hb hd (kk r S2 hF H locs ls hP hS hl)
theorem ge_imul (C : Cx w adr k cc own nL fr lo) {x y : Int32} (hd : decode cc pc = .ok (.imul, 1)) (hn : pc + 1 = n) (kk : Ge w adr k n lv (.int (x * y) :: st) S F) : Ge w adr k pc lv (.int y :: .int x :: st) S F := by
  obtain ⟨p, l, e, R, s, m, args, below, meth, c, nL, kc, ks, Qf, A⟩ := k
  obtain ⟨hx, hb, hml, hnl, hown, hts, hK, hj, hA, hN, hkc, hks, hfr, hlo⟩ := C
  subst hn
  intro r S2 hF H locs ls hP hS hl
  exact lv_imul hx hb hd (kk r S2 hF H locs ls hP hS hl)
theorem ge_iand (C : Cx w adr k cc own nL fr lo) {x y : Int32} (hd : decode cc pc = .ok (.iand, 1)) (hn : pc + 1 = n) (kk : Ge w adr k n lv (.int (x &&& y) :: st) S F) : Ge w adr k pc lv (.int y :: .int x :: st) S F := by
  obtain ⟨p, l, e, R, s, m, args, below, meth, c, nL, kc, ks, Qf, A⟩ := k
  obtain ⟨hx, hb, hml, hnl, hown, hts, hK, hj, hA, hN, hkc, hks, hfr, hlo⟩ := C
  subst hn
  intro r S2 hF H locs ls hP hS hl
  exact lv_iand hx hb hd (kk r S2 hF H locs ls hP hS hl)
theorem ge_ior (C : Cx w adr k cc own nL fr lo) {x y : Int32} (hd : decode cc pc = .ok (.ior, 1)) (hn : pc + 1 = n) (kk : Ge w adr k n lv (.int (x ||| y) :: st) S F) : Ge w adr k pc lv (.int y :: .int x :: st) S F := by
  obtain ⟨p, l, e, R, s, m, args, below, meth, c, nL, kc, ks, Qf, A⟩ := k
  obtain ⟨hx, hb, hml, hnl, hown, hts, hK, hj, hA, hN, hkc, hks, hfr, hlo⟩ := C
  subst hn
  intro r S2 hF H locs ls hP hS hl
  exact lv_ior hx hb hd (kk r S2 hF H locs ls hP hS hl)
theorem ge_ixor (C : Cx w adr k cc own nL fr lo) {x y : Int32} (hd : decode cc pc = .ok (.ixor, 1)) (hn : pc + 1 = n) (kk : Ge w adr k n lv (.int (x ^^^ y) :: st) S F) : Ge w adr k pc lv (.int y :: .int x :: st) S F := by
  obtain ⟨p, l, e, R, s, m, args, below, meth, c, nL, kc, ks, Qf, A⟩ := k
  obtain ⟨hx, hb, hml, hnl, hown, hts, hK, hj, hA, hN, hkc, hks, hfr, hlo⟩ := C
  subst hn
  intro r S2 hF H locs ls hP hS hl
  exact lv_ixor hx hb hd (kk r S2 hF H locs ls hP hS hl)
theorem ge_ishl (C : Cx w adr k cc own nL fr lo) {x y : Int32} (hd : decode cc pc = .ok (.ishl, 1)) (hn : pc + 1 = n) (kk : Ge w adr k n lv (.int (x <<< (y &&& 31)) :: st) S F) : Ge w adr k pc lv (.int y :: .int x :: st) S F := by
  obtain ⟨p, l, e, R, s, m, args, below, meth, c, nL, kc, ks, Qf, A⟩ := k
  obtain ⟨hx, hb, hml, hnl, hown, hts, hK, hj, hA, hN, hkc, hks, hfr, hlo⟩ := C
  subst hn
  intro r S2 hF H locs ls hP hS hl
  exact lv_ishl hx hb hd (kk r S2 hF H locs ls hP hS hl)
theorem ge_ishr (C : Cx w adr k cc own nL fr lo) {x y : Int32} (hd : decode cc pc = .ok (.ishr, 1)) (hn : pc + 1 = n) (kk : Ge w adr k n lv (.int (x >>> (y &&& 31)) :: st) S F) : Ge w adr k pc lv (.int y :: .int x :: st) S F := by
  obtain ⟨p, l, e, R, s, m, args, below, meth, c, nL, kc, ks, Qf, A⟩ := k
  obtain ⟨hx, hb, hml, hnl, hown, hts, hK, hj, hA, hN, hkc, hks, hfr, hlo⟩ := C
  subst hn
  intro r S2 hF H locs ls hP hS hl
  exact lv_ishr hx hb hd (kk r S2 hF H locs ls hP hS hl)
theorem ge_ladd (C : Cx w adr k cc own nL fr lo) {x y : Int64} (hd : decode cc pc = .ok (.ladd, 1)) (hn : pc + 1 = n) (kk : Ge w adr k n lv (.long (x + y) :: st) S F) : Ge w adr k pc lv (.long y :: .long x :: st) S F := by
  obtain ⟨p, l, e, R, s, m, args, below, meth, c, nL, kc, ks, Qf, A⟩ := k
  obtain ⟨hx, hb, hml, hnl, hown, hts, hK, hj, hA, hN, hkc, hks, hfr, hlo⟩ := C
  subst hn
  intro r S2 hF H locs ls hP hS hl
  exact lv_ladd hx hb hd (kk r S2 hF H locs ls hP hS hl)
theorem ge_lmul (C : Cx w adr k cc own nL fr lo) {x y : Int64} (hd : decode cc pc = .ok (.lmul, 1)) (hn : pc + 1 = n) (kk : Ge w adr k n lv (.long (x * y) :: st) S F) : Ge w adr k pc lv (.long y :: .long x :: st) S F := by
  obtain ⟨p, l, e, R, s, m, args, below, meth, c, nL, kc, ks, Qf, A⟩ := k
  obtain ⟨hx, hb, hml, hnl, hown, hts, hK, hj, hA, hN, hkc, hks, hfr, hlo⟩ := C
  subst hn
  intro r S2 hF H locs ls hP hS hl
  exact lv_lmul hx hb hd (kk r S2 hF H locs ls hP hS hl)
theorem ge_land (C : Cx w adr k cc own nL fr lo) {x y : Int64} (hd : decode cc pc = .ok (.land, 1)) (hn : pc + 1 = n) (kk : Ge w adr k n lv (.long (x &&& y) :: st) S F) : Ge w adr k pc lv (.long y :: .long x :: st) S F := by
  obtain ⟨p, l, e, R, s, m, args, below, meth, c, nL, kc, ks, Qf, A⟩ := k
  obtain ⟨hx, hb, hml, hnl, hown, hts, hK, hj, hA, hN, hkc, hks, hfr, hlo⟩ := C
  subst hn
  intro r S2 hF H locs ls hP hS hl
  exact lv_land hx hb hd (kk r S2 hF H locs ls hP hS hl)
theorem ge_ldiv (C : Cx w adr k cc own nL fr lo) {x y : Int64} (h0 : ¬ y = 0) (hd : decode cc pc = .ok (.ldiv, 1)) (hn : pc + 1 = n) (kk : Ge w adr k n lv (.long (x / y) :: st) S F) : Ge w adr k pc lv (.long y :: .long x :: st) S F := by
  obtain ⟨p, l, e, R, s, m, args, below, meth, c, nL, kc, ks, Qf, A⟩ := k
  obtain ⟨hx, hb, hml, hnl, hown, hts, hK, hj, hA, hN, hkc, hks, hfr, hlo⟩ := C
  subst hn
  intro r S2 hF H locs ls hP hS hl
  exact lv_ldiv hx hb hd h0 (kk r S2 hF H locs ls hP hS hl)
theorem ge_lrem (C : Cx w adr k cc own nL fr lo) {x y : Int64} (h0 : ¬ y = 0) (hd : decode cc pc = .ok (.lrem, 1)) (hn : pc + 1 = n) (kk : Ge w adr k n lv (.long (x - x / y * y) :: st) S F) : Ge w adr k pc lv (.long y :: .long x :: st) S F := by
  obtain ⟨p, l, e, R, s, m, args, below, meth, c, nL, kc, ks, Qf, A⟩ := k
  obtain ⟨hx, hb, hml, hnl, hown, hts, hK, hj, hA, hN, hkc, hks, hfr, hlo⟩ := C
  subst hn
  intro r S2 hF H locs ls hP hS hl
  exact lv_lrem hx hb hd h0 (kk r S2 hF H locs ls hP hS hl)
theorem ge_idiv0 (C : Cx w adr k cc own nL fr lo) {x y : Int32} (h0 : ¬ y = 0) (hd : decode cc pc = .ok (.idiv, 1)) (hn : pc + 1 = n) (kk : Ge w adr k n lv (.int (x / y) :: st) S F) : Ge w adr k pc lv (.int y :: .int x :: st) S F := by
  obtain ⟨p, l, e, R, s, m, args, below, meth, c, nL, kc, ks, Qf, A⟩ := k
  obtain ⟨hx, hb, hml, hnl, hown, hts, hK, hj, hA, hN, hkc, hks, hfr, hlo⟩ := C
  subst hn
  intro r S2 hF H locs ls hP hS hl
  exact lv_idiv hx hb hd h0 (kk r S2 hF H locs ls hP hS hl)
theorem ge_irem0 (C : Cx w adr k cc own nL fr lo) {x y : Int32} (h0 : ¬ y = 0) (hd : decode cc pc = .ok (.irem, 1)) (hn : pc + 1 = n) (kk : Ge w adr k n lv (.int (x - x / y * y) :: st) S F) : Ge w adr k pc lv (.int y :: .int x :: st) S F := by
  obtain ⟨p, l, e, R, s, m, args, below, meth, c, nL, kc, ks, Qf, A⟩ := k
  obtain ⟨hx, hb, hml, hnl, hown, hts, hK, hj, hA, hN, hkc, hks, hfr, hlo⟩ := C
  subst hn
  intro r S2 hF H locs ls hP hS hl
  exact lv_irem hx hb hd h0 (kk r S2 hF H locs ls hP hS hl)
theorem ge_iushr (C : Cx w adr k cc own nL fr lo) {x y : Int32} (hd : decode cc pc = .ok (.iushr, 1)) (hn : pc + 1 = n) (kk : Ge w adr k n lv (.int (x.toUInt32 >>> (y.toUInt32 &&& Int32.toUInt32 31)).toInt32 :: st) S F) : Ge w adr k pc lv (.int y :: .int x :: st) S F := by
  obtain ⟨p, l, e, R, s, m, args, below, meth, c, nL, kc, ks, Qf, A⟩ := k
  obtain ⟨hx, hb, hml, hnl, hown, hts, hK, hj, hA, hN, hkc, hks, hfr, hlo⟩ := C
  subst hn
  intro r S2 hF H locs ls hP hS hl
  exact lv_iushr hx hb hd rfl (kk r S2 hF H locs ls hP hS hl)
theorem ge_i2l (C : Cx w adr k cc own nL fr lo) {x : Int32} (hd : decode cc pc = .ok (.i2l, 1)) (hn : pc + 1 = n) (kk : Ge w adr k n lv (.long x.toInt64 :: st) S F) : Ge w adr k pc lv (.int x :: st) S F := by
  obtain ⟨p, l, e, R, s, m, args, below, meth, c, nL, kc, ks, Qf, A⟩ := k
  obtain ⟨hx, hb, hml, hnl, hown, hts, hK, hj, hA, hN, hkc, hks, hfr, hlo⟩ := C
  subst hn
  intro r S2 hF H locs ls hP hS hl
  exact lv_i2l hx hb hd rfl (kk r S2 hF H locs ls hP hS hl)
theorem ge_l2i (C : Cx w adr k cc own nL fr lo) {x : Int64} (hd : decode cc pc = .ok (.l2i, 1)) (hn : pc + 1 = n) (kk : Ge w adr k n lv (.int x.toInt32 :: st) S F) : Ge w adr k pc lv (.long x :: st) S F := by
  obtain ⟨p, l, e, R, s, m, args, below, meth, c, nL, kc, ks, Qf, A⟩ := k
  obtain ⟨hx, hb, hml, hnl, hown, hts, hK, hj, hA, hN, hkc, hks, hfr, hlo⟩ := C
  subst hn
  intro r S2 hF H locs ls hP hS hl
  exact lv_l2i hx hb hd rfl (kk r S2 hF H locs ls hP hS hl)
theorem ge_lcmp (C : Cx w adr k cc own nL fr lo) {x y : Int64} (hd : decode cc pc = .ok (.lcmp, 1)) (hn : pc + 1 = n) (kk : Ge w adr k n lv (.int (lg_cmp x y) :: st) S F) : Ge w adr k pc lv (.long y :: .long x :: st) S F := by
  obtain ⟨p, l, e, R, s, m, args, below, meth, c, nL, kc, ks, Qf, A⟩ := k
  obtain ⟨hx, hb, hml, hnl, hown, hts, hK, hj, hA, hN, hkc, hks, hfr, hlo⟩ := C
  subst hn
  intro r S2 hF H locs ls hP hS hl
  exact W.lcmp hx hb hd (kk r S2 hF H locs ls hP hS hl)
theorem ge_dup (C : Cx w adr k cc own nL fr lo) {v : Value} (hd : decode cc pc = .ok (.dup, 1)) (hv : v.category = 1) (hn : pc + 1 = n) (kk : Ge w adr k n lv (v :: v :: st) S F) : Ge w adr k pc lv (v :: st) S F := by
  obtain ⟨p, l, e, R, s, m, args, below, meth, c, nL, kc, ks, Qf, A⟩ := k
  obtain ⟨hx, hb, hml, hnl, hown, hts, hK, hj, hA, hN, hkc, hks, hfr, hlo⟩ := C
  subst hn
  intro r S2 hF H locs ls hP hS hl
  exact lv_dup hx hb hd hv (kk r S2 hF H locs ls hP hS hl)
theorem ge_dup2 (C : Cx w adr k cc own nL fr lo) {v u : Value} (hd : decode cc pc = .ok (.dup2, 1)) (hv : v.category = 1) (hu : u.category = 1) (hn : pc + 1 = n) (kk : Ge w adr k n lv (v :: u :: v :: u :: st) S F) : Ge w adr k pc lv (v :: u :: st) S F := by
  obtain ⟨p, l, e, R, s, m, args, below, meth, c, nL, kc, ks, Qf, A⟩ := k
  obtain ⟨hx, hb, hml, hnl, hown, hts, hK, hj, hA, hN, hkc, hks, hfr, hlo⟩ := C
  subst hn
  intro r S2 hF H locs ls hP hS hl
  exact lv_dup2_11 hx hb hd hv hu (kk r S2 hF H locs ls hP hS hl)
theorem ge_pop (C : Cx w adr k cc own nL fr lo) {v : Value} (hd : decode cc pc = .ok (.pop, 1)) (hv : v.category = 1) (hn : pc + 1 = n) (kk : Ge w adr k n lv (st) S F) : Ge w adr k pc lv (v :: st) S F := by
  obtain ⟨p, l, e, R, s, m, args, below, meth, c, nL, kc, ks, Qf, A⟩ := k
  obtain ⟨hx, hb, hml, hnl, hown, hts, hK, hj, hA, hN, hkc, hks, hfr, hlo⟩ := C
  subst hn
  intro r S2 hF H locs ls hP hS hl
  exact lv_pop hx hb hd hv (kk r S2 hF H locs ls hP hS hl)
theorem ge_mmax (C : Cx w adr k cc own nL fr lo) {x y : Int32} {i : Nat} (hl : Cond.methodLink own i Lib.Math.max.name ∈ tz) (h1 : 1 ≤ fr) (h2 : (st.map fun v => v.category).sum + 13 ≤ lo) (hd : decode cc pc = .ok (.invokestatic i, 3)) (hn : pc + 3 = n) (kk : Ge w adr k n lv (.int (if x < y then y else x) :: st) S F) : Ge w adr k pc lv (.int y :: .int x :: st) S F := by
  obtain ⟨p, l, e, R, s, m, args, below, meth, c, nL, kc, ks, Qf, A⟩ := k
  obtain ⟨hx, hb, hml, hnl, hown, hts, hK, hj, hA, hN, hkc, hks, hfr, hlo⟩ := C
  subst hn
  intro r S2 hF H locs ls hP hS hl2
  exact va_mmax hx hb (by rw [hml, hnl]; exact (hl2.1.trans hnl).symm) hown (hts _ hl) (hts _ st_mmax) (hts _ in_math) (hts _ cd_mmax) (Nat.le_trans h1 hfr) (Nat.le_trans h2 hlo) hkc hks hd (kk r S2 hF H locs ls hP hS hl2)
theorem ge_mmin (C : Cx w adr k cc own nL fr lo) {x y : Int32} {i : Nat} (hl : Cond.methodLink own i Lib.Math.min.name ∈ tz) (h1 : 1 ≤ fr) (h2 : (st.map fun v => v.category).sum + 13 ≤ lo) (hd : decode cc pc = .ok (.invokestatic i, 3)) (hn : pc + 3 = n) (kk : Ge w adr k n lv (.int (if y < x then y else x) :: st) S F) : Ge w adr k pc lv (.int y :: .int x :: st) S F := by
  obtain ⟨p, l, e, R, s, m, args, below, meth, c, nL, kc, ks, Qf, A⟩ := k
  obtain ⟨hx, hb, hml, hnl, hown, hts, hK, hj, hA, hN, hkc, hks, hfr, hlo⟩ := C
  subst hn
  intro r S2 hF H locs ls hP hS hl2
  exact va_mmin hx hb (by rw [hml, hnl]; exact (hl2.1.trans hnl).symm) hown (hts _ hl) (hts _ st_mmin) (hts _ in_math) (hts _ cd_mmin) (Nat.le_trans h1 hfr) (Nat.le_trans h2 hlo) hkc hks hd (kk r S2 hF H locs ls hP hS hl2)
theorem ge_goto (C : Cx w adr k cc own nL fr lo) {off : Int} (hd : decode cc pc = .ok (.goto off, 3)) (hn : (pc : Int) + off = (n : Int)) (kk : Ge w adr k n lv st S F) : Ge w adr k pc lv st S F := by
  obtain ⟨p, l, e, R, s, m, args, below, meth, c, nL, kc, ks, Qf, A⟩ := k
  obtain ⟨hx, hb, hml, hnl, hown, hts, hK, hj, hA, hN, hkc, hks, hfr, hlo⟩ := C
  intro r S2 hF H locs ls hP hS hl
  exact lv_goto hx hb hd hn (kk r S2 hF H locs ls hP hS hl)
theorem ge_icmp_eq (C : Cx w adr k cc own nL fr lo) {t : Nat} {off : Int} {A1 A2 : Op} {x y : Int32} (hd : decode cc pc = .ok (.if_icmp .eq off, 3)) (ht : (pc : Int) + off = (t : Int)) (hn : pc + 3 = n) (kt : x = y → Ge w adr k t lv st S A1) (kf : ¬ x = y → Ge w adr k n lv st S A2) : Ge w adr k pc lv (.int y :: .int x :: st) S (if x = y then A1 else A2) := by
  obtain ⟨p, l, e, R, s, m, args, below, meth, c, nL, kc, ks, Qf, A⟩ := k
  obtain ⟨hx, hb, hml, hnl, hown, hts, hK, hj, hA, hN, hkc, hks, hfr, hlo⟩ := C
  subst hn
  intro r S2 hF H locs ls hP hS hl
  refine lv_icmp_eq hx hb hd ht (fun h => kt h r S2 (by rw [if_pos h] at hF; exact hF) H locs ls hP hS hl) (fun h => kf h r S2 (by rw [if_neg h] at hF; exact hF) H locs ls hP hS hl)
theorem ge_icmp_ne (C : Cx w adr k cc own nL fr lo) {t : Nat} {off : Int} {A1 A2 : Op} {x y : Int32} (hd : decode cc pc = .ok (.if_icmp .ne off, 3)) (ht : (pc : Int) + off = (t : Int)) (hn : pc + 3 = n) (kt : ¬ x = y → Ge w adr k t lv st S A1) (kf : x = y → Ge w adr k n lv st S A2) : Ge w adr k pc lv (.int y :: .int x :: st) S (if x = y then A2 else A1) := by
  obtain ⟨p, l, e, R, s, m, args, below, meth, c, nL, kc, ks, Qf, A⟩ := k
  obtain ⟨hx, hb, hml, hnl, hown, hts, hK, hj, hA, hN, hkc, hks, hfr, hlo⟩ := C
  subst hn
  intro r S2 hF H locs ls hP hS hl
  refine lv_icmp_ne hx hb hd ht (fun h => kt h r S2 (by rw [if_neg h] at hF; exact hF) H locs ls hP hS hl) (fun h => kf h r S2 (by rw [if_pos h] at hF; exact hF) H locs ls hP hS hl)
theorem ge_icmp_lt (C : Cx w adr k cc own nL fr lo) {t : Nat} {off : Int} {A1 A2 : Op} {x y : Int32} (hd : decode cc pc = .ok (.if_icmp .lt off, 3)) (ht : (pc : Int) + off = (t : Int)) (hn : pc + 3 = n) (kt : x < y → Ge w adr k t lv st S A1) (kf : ¬ x < y → Ge w adr k n lv st S A2) : Ge w adr k pc lv (.int y :: .int x :: st) S (if x < y then A1 else A2) := by
  obtain ⟨p, l, e, R, s, m, args, below, meth, c, nL, kc, ks, Qf, A⟩ := k
  obtain ⟨hx, hb, hml, hnl, hown, hts, hK, hj, hA, hN, hkc, hks, hfr, hlo⟩ := C
  subst hn
  intro r S2 hF H locs ls hP hS hl
  refine lv_icmp_lt hx hb hd ht (fun h => kt h r S2 (by rw [if_pos h] at hF; exact hF) H locs ls hP hS hl) (fun h => kf h r S2 (by rw [if_neg h] at hF; exact hF) H locs ls hP hS hl)
theorem ge_icmp_ge (C : Cx w adr k cc own nL fr lo) {t : Nat} {off : Int} {A1 A2 : Op} {x y : Int32} (hd : decode cc pc = .ok (.if_icmp .ge off, 3)) (ht : (pc : Int) + off = (t : Int)) (hn : pc + 3 = n) (kt : y ≤ x → Ge w adr k t lv st S A1) (kf : ¬ y ≤ x → Ge w adr k n lv st S A2) : Ge w adr k pc lv (.int y :: .int x :: st) S (if y ≤ x then A1 else A2) := by
  obtain ⟨p, l, e, R, s, m, args, below, meth, c, nL, kc, ks, Qf, A⟩ := k
  obtain ⟨hx, hb, hml, hnl, hown, hts, hK, hj, hA, hN, hkc, hks, hfr, hlo⟩ := C
  subst hn
  intro r S2 hF H locs ls hP hS hl
  refine lv_icmp_ge hx hb hd ht (fun h => kt h r S2 (by rw [if_pos h] at hF; exact hF) H locs ls hP hS hl) (fun h => kf h r S2 (by rw [if_neg h] at hF; exact hF) H locs ls hP hS hl)
theorem ge_icmp_gt (C : Cx w adr k cc own nL fr lo) {t : Nat} {off : Int} {A1 A2 : Op} {x y : Int32} (hd : decode cc pc = .ok (.if_icmp .gt off, 3)) (ht : (pc : Int) + off = (t : Int)) (hn : pc + 3 = n) (kt : y < x → Ge w adr k t lv st S A1) (kf : ¬ y < x → Ge w adr k n lv st S A2) : Ge w adr k pc lv (.int y :: .int x :: st) S (if y < x then A1 else A2) := by
  obtain ⟨p, l, e, R, s, m, args, below, meth, c, nL, kc, ks, Qf, A⟩ := k
  obtain ⟨hx, hb, hml, hnl, hown, hts, hK, hj, hA, hN, hkc, hks, hfr, hlo⟩ := C
  subst hn
  intro r S2 hF H locs ls hP hS hl
  refine lv_icmp_gt hx hb hd ht (fun h => kt h r S2 (by rw [if_pos h] at hF; exact hF) H locs ls hP hS hl) (fun h => kf h r S2 (by rw [if_neg h] at hF; exact hF) H locs ls hP hS hl)
theorem ge_icmp_le (C : Cx w adr k cc own nL fr lo) {t : Nat} {off : Int} {A1 A2 : Op} {x y : Int32} (hd : decode cc pc = .ok (.if_icmp .le off, 3)) (ht : (pc : Int) + off = (t : Int)) (hn : pc + 3 = n) (kt : x ≤ y → Ge w adr k t lv st S A1) (kf : ¬ x ≤ y → Ge w adr k n lv st S A2) : Ge w adr k pc lv (.int y :: .int x :: st) S (if x ≤ y then A1 else A2) := by
  obtain ⟨p, l, e, R, s, m, args, below, meth, c, nL, kc, ks, Qf, A⟩ := k
  obtain ⟨hx, hb, hml, hnl, hown, hts, hK, hj, hA, hN, hkc, hks, hfr, hlo⟩ := C
  subst hn
  intro r S2 hF H locs ls hP hS hl
  refine lv_icmp_le hx hb hd ht (fun h => kt h r S2 (by rw [if_pos h] at hF; exact hF) H locs ls hP hS hl) (fun h => kf h r S2 (by rw [if_neg h] at hF; exact hF) H locs ls hP hS hl)
theorem ge_if_eq (C : Cx w adr k cc own nL fr lo) {t : Nat} {off : Int} {A1 A2 : Op} {x : Int32} (hd : decode cc pc = .ok (.ifCond .eq off, 3)) (ht : (pc : Int) + off = (t : Int)) (hn : pc + 3 = n) (kt : x = 0 → Ge w adr k t lv st S A1) (kf : ¬ x = 0 → Ge w adr k n lv st S A2) : Ge w adr k pc lv (.int x :: st) S (if x = 0 then A1 else A2) := by
  obtain ⟨p, l, e, R, s, m, args, below, meth, c, nL, kc, ks, Qf, A⟩ := k
  obtain ⟨hx, hb, hml, hnl, hown, hts, hK, hj, hA, hN, hkc, hks, hfr, hlo⟩ := C
  subst hn
  intro r S2 hF H locs ls hP hS hl
  refine lv_if_eq hx hb hd ht (fun h => kt h r S2 (by rw [if_pos h] at hF; exact hF) H locs ls hP hS hl) (fun h => kf h r S2 (by rw [if_neg h] at hF; exact hF) H locs ls hP hS hl)
theorem ge_if_ne (C : Cx w adr k cc own nL fr lo) {t : Nat} {off : Int} {A1 A2 : Op} {x : Int32} (hd : decode cc pc = .ok (.ifCond .ne off, 3)) (ht : (pc : Int) + off = (t : Int)) (hn : pc + 3 = n) (kt : ¬ x = 0 → Ge w adr k t lv st S A1) (kf : x = 0 → Ge w adr k n lv st S A2) : Ge w adr k pc lv (.int x :: st) S (if x = 0 then A2 else A1) := by
  obtain ⟨p, l, e, R, s, m, args, below, meth, c, nL, kc, ks, Qf, A⟩ := k
  obtain ⟨hx, hb, hml, hnl, hown, hts, hK, hj, hA, hN, hkc, hks, hfr, hlo⟩ := C
  subst hn
  intro r S2 hF H locs ls hP hS hl
  refine lv_if_ne hx hb hd ht (fun h => kt h r S2 (by rw [if_neg h] at hF; exact hF) H locs ls hP hS hl) (fun h => kf h r S2 (by rw [if_pos h] at hF; exact hF) H locs ls hP hS hl)
theorem ge_if_lt (C : Cx w adr k cc own nL fr lo) {t : Nat} {off : Int} {A1 A2 : Op} {x : Int32} (hd : decode cc pc = .ok (.ifCond .lt off, 3)) (ht : (pc : Int) + off = (t : Int)) (hn : pc + 3 = n) (kt : x < 0 → Ge w adr k t lv st S A1) (kf : ¬ x < 0 → Ge w adr k n lv st S A2) : Ge w adr k pc lv (.int x :: st) S (if x < 0 then A1 else A2) := by
  obtain ⟨p, l, e, R, s, m, args, below, meth, c, nL, kc, ks, Qf, A⟩ := k
  obtain ⟨hx, hb, hml, hnl, hown, hts, hK, hj, hA, hN, hkc, hks, hfr, hlo⟩ := C
  subst hn
  intro r S2 hF H locs ls hP hS hl
  refine lv_if_lt hx hb hd ht (fun h => kt h r S2 (by rw [if_pos h] at hF; exact hF) H locs ls hP hS hl) (fun h => kf h r S2 (by rw [if_neg h] at hF; exact hF) H locs ls hP hS hl)
theorem ge_if_ge (C : Cx w adr k cc own nL fr lo) {t : Nat} {off : Int} {A1 A2 : Op} {x : Int32} (hd : decode cc pc = .ok (.ifCond .ge off, 3)) (ht : (pc : Int) + off = (t : Int)) (hn : pc + 3 = n) (kt : 0 ≤ x → Ge w adr k t lv st S A1) (kf : ¬ 0 ≤ x → Ge w adr k n lv st S A2) : Ge w adr k pc lv (.int x :: st) S (if 0 ≤ x then A1 else A2) := by
  obtain ⟨p, l, e, R, s, m, args, below, meth, c, nL, kc, ks, Qf, A⟩ := k
  obtain ⟨hx, hb, hml, hnl, hown, hts, hK, hj, hA, hN, hkc, hks, hfr, hlo⟩ := C
  subst hn
  intro r S2 hF H locs ls hP hS hl
  refine lv_if_ge hx hb hd ht (fun h => kt h r S2 (by rw [if_pos h] at hF; exact hF) H locs ls hP hS hl) (fun h => kf h r S2 (by rw [if_neg h] at hF; exact hF) H locs ls hP hS hl)
theorem ge_if_gt (C : Cx w adr k cc own nL fr lo) {t : Nat} {off : Int} {A1 A2 : Op} {x : Int32} (hd : decode cc pc = .ok (.ifCond .gt off, 3)) (ht : (pc : Int) + off = (t : Int)) (hn : pc + 3 = n) (kt : 0 < x → Ge w adr k t lv st S A1) (kf : ¬ 0 < x → Ge w adr k n lv st S A2) : Ge w adr k pc lv (.int x :: st) S (if 0 < x then A1 else A2) := by
  obtain ⟨p, l, e, R, s, m, args, below, meth, c, nL, kc, ks, Qf, A⟩ := k
  obtain ⟨hx, hb, hml, hnl, hown, hts, hK, hj, hA, hN, hkc, hks, hfr, hlo⟩ := C
  subst hn
  intro r S2 hF H locs ls hP hS hl
  refine lv_if_gt hx hb hd ht (fun h => kt h r S2 (by rw [if_pos h] at hF; exact hF) H locs ls hP hS hl) (fun h => kf h r S2 (by rw [if_neg h] at hF; exact hF) H locs ls hP hS hl)
theorem ge_if_le (C : Cx w adr k cc own nL fr lo) {t : Nat} {off : Int} {A1 A2 : Op} {x : Int32} (hd : decode cc pc = .ok (.ifCond .le off, 3)) (ht : (pc : Int) + off = (t : Int)) (hn : pc + 3 = n) (kt : x ≤ 0 → Ge w adr k t lv st S A1) (kf : ¬ x ≤ 0 → Ge w adr k n lv st S A2) : Ge w adr k pc lv (.int x :: st) S (if x ≤ 0 then A1 else A2) := by
  obtain ⟨p, l, e, R, s, m, args, below, meth, c, nL, kc, ks, Qf, A⟩ := k
  obtain ⟨hx, hb, hml, hnl, hown, hts, hK, hj, hA, hN, hkc, hks, hfr, hlo⟩ := C
  subst hn
  intro r S2 hF H locs ls hP hS hl
  refine lv_if_le hx hb hd ht (fun h => kt h r S2 (by rw [if_pos h] at hF; exact hF) H locs ls hP hS hl) (fun h => kf h r S2 (by rw [if_neg h] at hF; exact hF) H locs ls hP hS hl)
theorem ge_istore_n (C : Cx w adr k cc own nL fr lo) {q0 : Fin 4} {i : Nat} {x : Int32} {lv2 : List (Nat × Value)} (hd : decode cc pc = .ok (.istore_n q0, 1)) (hn : pc + 1 = n) (hi : (q0 : Nat) = i) (hb0 : i < nL) (hl0 : (i, Value.int x) :: lv.filter (fun q => !(q.1 == i) && !(q.1 + 1 == i && q.2.category == 2)) = lv2) (kk : Ge w adr k n lv2 st S F) : Ge w adr k pc lv (.int x :: st) S F := by
  obtain ⟨p, l, e, R, s, m, args, below, meth, c, nL, kc, ks, Qf, A⟩ := k
  obtain ⟨hx, hb, hml, hnl, hown, hts, hK, hj, hA, hN, hkc, hks, hfr, hlo⟩ := C
  subst hn
  subst hnl
  intro r S2 hF H locs ls hP hS hl
  exact lv_istore_n hx hb hd hi hl hb0 hl0 (fun ls2 hl2 => kk r S2 hF H locs ls2 hP hS hl2)
theorem ge_istore (C : Cx w adr k cc own nL fr lo) {i : Nat} {x : Int32} {lv2 : List (Nat × Value)} (hd : decode cc pc = .ok (.istore i, 2)) (hn : pc + 2 = n) (hb0 : i < nL) (hl0 : (i, Value.int x) :: lv.filter (fun q => !(q.1 == i) && !(q.1 + 1 == i && q.2.category == 2)) = lv2) (kk : Ge w adr k n lv2 st S F) : Ge w adr k pc lv (.int x :: st) S F := by
  obtain ⟨p, l, e, R, s, m, args, below, meth, c, nL, kc, ks, Qf, A⟩ := k
  obtain ⟨hx, hb, hml, hnl, hown, hts, hK, hj, hA, hN, hkc, hks, hfr, hlo⟩ := C
  subst hn
  subst hnl
  intro r S2 hF H locs ls hP hS hl
  exact lv_istore hx hb hd hl hb0 hl0 (fun ls2 hl2 => kk r S2 hF H locs ls2 hP hS hl2)
theorem ge_astore_n (C : Cx w adr k cc own nL fr lo) {q0 : Fin 4} {i : Nat} {x : Nat} {lv2 : List (Nat × Value)} (hd : decode cc pc = .ok (.astore_n q0, 1)) (hn : pc + 1 = n) (hi : (q0 : Nat) = i) (hb0 : i < nL) (hl0 : (i, Value.ref x) :: lv.filter (fun q => !(q.1 == i) && !(q.1 + 1 == i && q.2.category == 2)) = lv2) (kk : Ge w adr k n lv2 st S F) : Ge w adr k pc lv (.ref x :: st) S F := by
  obtain ⟨p, l, e, R, s, m, args, below, meth, c, nL, kc, ks, Qf, A⟩ := k
  obtain ⟨hx, hb, hml, hnl, hown, hts, hK, hj, hA, hN, hkc, hks, hfr, hlo⟩ := C
  subst hn
  subst hnl
  intro r S2 hF H locs ls hP hS hl
  exact lv_astore_n hx hb hd hi hl hb0 hl0 (fun ls2 hl2 => kk r S2 hF H locs ls2 hP hS hl2)
theorem ge_astore (C : Cx w adr k cc own nL fr lo) {i : Nat} {x : Nat} {lv2 : List (Nat × Value)} (hd : decode cc pc = .ok (.astore i, 2)) (hn : pc + 2 = n) (hb0 : i < nL) (hl0 : (i, Value.ref x) :: lv.filter (fun q => !(q.1 == i) && !(q.1 + 1 == i && q.2.category == 2)) = lv2) (kk : Ge w adr k n lv2 st S F) : Ge w adr k pc lv (.ref x :: st) S F := by
  obtain ⟨p, l, e, R, s, m, args, below, meth, c, nL, kc, ks, Qf, A⟩ := k
  obtain ⟨hx, hb, hml, hnl, hown, hts, hK, hj, hA, hN, hkc, hks, hfr, hlo⟩ := C
  subst hn
  subst hnl
  intro r S2 hF H locs ls hP hS hl
  exact lv_astore hx hb hd hl hb0 hl0 (fun ls2 hl2 => kk r S2 hF H locs ls2 hP hS hl2)
theorem ge_lstore_n (C : Cx w adr k cc own nL fr lo) {q0 : Fin 4} {i : Nat} {x : Int64} {lv2 : List (Nat × Value)} (hd : decode cc pc = .ok (.lstore_n q0, 1)) (hn : pc + 1 = n) (hi : (q0 : Nat) = i) (hb0 : i + 1 < nL) (hl0 : (i, Value.long x) :: lv.filter (fun q => !(q.1 == i) && (!(q.1 == i + 1) && !(q.1 + 1 == i && q.2.category == 2))) = lv2) (kk : Ge w adr k n lv2 st S F) : Ge w adr k pc lv (.long x :: st) S F := by
  obtain ⟨p, l, e, R, s, m, args, below, meth, c, nL, kc, ks, Qf, A⟩ := k
  obtain ⟨hx, hb, hml, hnl, hown, hts, hK, hj, hA, hN, hkc, hks, hfr, hlo⟩ := C
  subst hn
  subst hnl
  intro r S2 hF H locs ls hP hS hl
  exact lv_lstore_n hx hb hd hi hl hb0 hl0 (fun ls2 hl2 => kk r S2 hF H locs ls2 hP hS hl2)
theorem ge_lstore (C : Cx w adr k cc own nL fr lo) {i : Nat} {x : Int64} {lv2 : List (Nat × Value)} (hd : decode cc pc = .ok (.lstore i, 2)) (hn : pc + 2 = n) (hb0 : i + 1 < nL) (hl0 : (i, Value.long x) :: lv.filter (fun q => !(q.1 == i) && (!(q.1 == i + 1) && !(q.1 + 1 == i && q.2.category == 2))) = lv2) (kk : Ge w adr k n lv2 st S F) : Ge w adr k pc lv (.long x :: st) S F := by
  obtain ⟨p, l, e, R, s, m, args, below, meth, c, nL, kc, ks, Qf, A⟩ := k
  obtain ⟨hx, hb, hml, hnl, hown, hts, hK, hj, hA, hN, hkc, hks, hfr, hlo⟩ := C
  subst hn
  subst hnl
  intro r S2 hF H locs ls hP hS hl
  exact lv_lstore hx hb hd hl hb0 hl0 (fun ls2 hl2 => kk r S2 hF H locs ls2 hP hS hl2)
theorem ge_iinc (C : Cx w adr k cc own nL fr lo) {i : Nat} {q : Int} {x v : Int32} {lv2 : List (Nat × Value)} (j : Nat) (hk : lv[j]? = some (i, .int x)) (hd : decode cc pc = .ok (.iinc i q, 3)) (hn : pc + 3 = n) (hv : x + Int32.ofInt q = v) (hb0 : i < nL) (hl0 : (i, Value.int v) :: lv.filter (fun q => !(q.1 == i) && !(q.1 + 1 == i && q.2.category == 2)) = lv2) (kk : Ge w adr k n lv2 st S F) : Ge w adr k pc lv st S F := by
  obtain ⟨p, l, e, R, s, m, args, below, meth, c, nL, kc, ks, Qf, A⟩ := k
  obtain ⟨hx, hb, hml, hnl, hown, hts, hK, hj, hA, hN, hkc, hks, hfr, hlo⟩ := C
  subst hn
  subst hnl
  intro r S2 hF H locs ls hP hS hl
  exact lv_iinc hx hb hd hl hk hv hb0 hl0 (fun ls2 hl2 => kk r S2 hF H locs ls2 hP hS hl2)
theorem ge_sub {lv2 : List (Nat × Value)} (ps : List Nat) (h : lv_pick lv ps = lv2) (kk : Ge w adr k pc lv2 st S F) : Ge w adr k pc lv st S F := by
  obtain ⟨p, l, e, R, s, m, args, below, meth, c, nL, kc, ks, Qf, A⟩ := k
  intro r S2 hF H locs ls hP hS hl
  exact kk r S2 hF H locs ls hP hS (lv_sub hl ps h)
theorem ge_none : Ge w adr k pc lv st S none := by
  obtain ⟨p, l, e, R, s, m, args, below, meth, c, nL, kc, ks, Qf, A⟩ := k
  intro r S2 hF
  cases hF
theorem ge_bi {v : Int32} {f : Int32 → Op} {i : Nat} (h : ∀ x : Int32, Ge w adr k pc lv (.int x :: st) S (f x)) : Ge w adr k pc lv (.int v :: st) S (bi v f) := h v
theorem ge_bl {v : Int64} {f : Int64 → Op} (h : ∀ x : Int64, Ge w adr k pc lv (.long x :: st) S (f x)) : Ge w adr k pc lv (.long v :: st) S (bl v f) := h v
theorem ge_if {c : Prop} [Decidable c] {A B : Op} (ht : c → Ge w adr k pc lv st S A) (hf : ¬ c → Ge w adr k pc lv st S B) : Ge w adr k pc lv st S (if c then A else B) := by
  by_cases h : c
  · rw [if_pos h]; exact ht h
  · rw [if_neg h]; exact hf h
theorem ge_jn {α : Type} {rest : α} {f : α → Op} (P : α → Prop) (h1 : P rest) (h2 : ∀ j : α, P j → Ge w adr k pc lv st S (f j)) : Ge w adr k pc lv st S (jn rest f) := h2 rest h1
theorem ge_idiv (C : Cx w adr k cc own nL fr lo) {x y : Int32} (hd : decode cc pc = .ok (.idiv, 1)) (hn : pc + 1 = n) (kk : ¬ y = 0 → Ge w adr k n lv (.int (x / y) :: st) S F) : Ge w adr k pc lv (.int y :: .int x :: st) S (dz y F) := by
  unfold dz
  exact ge_if (fun _ => ge_none) (fun h => ge_idiv0 C h hd hn (kk h))
theorem ge_irem (C : Cx w adr k cc own nL fr lo) {x y : Int32} (hd : decode cc pc = .ok (.irem, 1)) (hn : pc + 1 = n) (kk : ¬ y = 0 → Ge w adr k n lv (.int (x - x / y * y) :: st) S F) : Ge w adr k pc lv (.int y :: .int x :: st) S (dz y F) := by
  unfold dz
  exact ge_if (fun _ => ge_none) (fun h => ge_irem0 C h hd hn (kk h))
theorem ge_tsIn (C : Cx w adr k cc own nL fr lo) {dflt a b : Int} {offs : Array Int} {len t : Nat} {x : Int32} {off : Int} (hd : decode cc pc = .ok (.tableswitch dflt a b offs, len)) (h1 : ¬ x.toInt < a) (h2 : ¬ b < x.toInt) (ho : offs[(x.toInt - a).toNat]? = some off) (ht : (pc : Int) + off = (t : Int)) (kk : Ge w adr k t lv st S F) : Ge w adr k pc lv (.int x :: st) S F := by
  obtain ⟨p, l, e, R, s, m, args, below, meth, c, nL, kc, ks, Qf, A⟩ := k
  obtain ⟨hx, hb, hml, hnl, hown, hts, hK, hj, hA, hN, hkc, hks, hfr, hlo⟩ := C
  intro r S2 hF H locs ls hP hS hl
  exact lv_tableIn hx hb hd h1 h2 ho ht (kk r S2 hF H locs ls hP hS hl)
theorem ge_tsOut (C : Cx w adr k cc own nL fr lo) {dflt a b : Int} {offs : Array Int} {len t : Nat} {x : Int32} (hd : decode cc pc = .ok (.tableswitch dflt a b offs, len)) (h : x.toInt < a ∨ b < x.toInt) (ht : (pc : Int) + dflt = (t : Int)) (kk : Ge w adr k t lv st S F) : Ge w adr k pc lv (.int x :: st) S F := by
  obtain ⟨p, l, e, R, s, m, args, below, meth, c, nL, kc, ks, Qf, A⟩ := k
  obtain ⟨hx, hb, hml, hnl, hown, hts, hK, hj, hA, hN, hkc, hks, hfr, hlo⟩ := C
  intro r S2 hF H locs ls hP hS hl
  exact lv_tableOut hx hb hd h ht (kk r S2 hF H locs ls hP hS hl)
theorem ge_get (C : Cx w adr k cc own nL fr lo) {a o ci j i N : Nat} {fs : List Value} {v : Value} {Cn : String} {T : u_T} (hq : (a, o) ∈ cls) (he : en w.2 adr a o (S a o) = .inr (ci, fs)) (hc : vwCl[ci]? = some (Cn, T, N)) (hj0 : j < N) (hin : ∀ x ∈ u_ws Cn T N, x ∈ tz) (hlk : Cond.fieldLink own i (T j).1 (T j).2.1 (T j).2.2.1 ∈ tz) (hv : fs[j]? = some v) (hd : decode cc pc = .ok (.getfield i, 3)) (hn : pc + 3 = n) (kk : Ge w adr k n lv (v :: st) S F) : Ge w adr k pc lv (.ref (adr a o) :: st) S F := by
  obtain ⟨p, l, e, R, s, m, args, below, meth, c, nL, kc, ks, Qf, A⟩ := k
  obtain ⟨hx, hb, hml, hnl, hown, hts, hK, hj, hA, hN, hkc, hks, hfr, hlo⟩ := C
  subst hn
  intro r S2 hF H locs ls hP hS hl
  obtain ⟨q0, hq0, hq1⟩ := wld_in (cy := w.2) (adr := adr) (S := S) hq
  rw [he] at hq1
  exact va_get hx hb hts hin hown hK hP q0 hq1 hc j hj0 (hts _ hlk) (fun _ h9 => h9) hv hd (kk r S2 hF H locs ls hP hS hl)
theorem ge_putg (C : Cx w adr k cc own nL fr lo) {a o ci j i N : Nat} {fs : List Value} {x : Int32} {v : Value} {ty : FieldType} {Cn : String} {T : u_T} {ty0 : Nat → FieldType} {f : St → Op} (hq : (a, o) ∈ cls) (he : en w.2 adr a o (S a o) = .inr (ci, fs)) (he2 : en w.2 adr a o (upd (S a o) j x) = .inr (ci, fs.set j v)) (hc : vwCl[ci]? = some (Cn, T, N)) (hj0 : j < N) (hin : ∀ x ∈ u_ws Cn T N, x ∈ tz) (hty : ∀ k, k < N → parseFieldDescriptor (T k).2.2.1 = some (ty0 k)) (hnm : ∀ a, a < N → ∀ b, b < N → a ≠ b → (T a).2.1 ≠ (T b).2.1) (hlk : Cond.fieldLink own i (T j).1 (T j).2.1 (T j).2.2.1 ∈ tz) (hfin : (T j).2.2.2 = false) (hd0 : parseFieldDescriptor (T j).2.2.1 = some ty) (hn0 : narrow ty v = v) (hf0 : fits ty v = true) (hlen : j < fs.length) (hd : decode cc pc = .ok (.putfield i, 3)) (hn : pc + 3 = n) (kk : ∀ S1 : St, Ge w adr k n lv st S1 (f S1)) : Ge w adr k pc lv (v :: .ref (adr a o) :: st) S (bs (wr S a o j x) f) := by
  obtain ⟨p, l, e, R, s, m, args, below, meth, c, nL, kc, ks, Qf, A⟩ := k
  obtain ⟨hx, hb, hml, hnl, hown, hts, hK, hj, hA, hN, hkc, hks, hfr, hlo⟩ := C
  subst hn
  intro r S2 hF H locs ls hP hS hl
  obtain ⟨q0, hq0, hq1⟩ := wld_in (cy := w.2) (adr := adr) (S := S) hq
  rw [he] at hq1
  refine va_put hx hb hts hin ty0 hty hnm hown hK hP (wld_D hj hA S) hS q0 hq1 hc j hj0 (hts _ hlk) (fun _ h9 => h9) hfin hd0 hn0 hf0 hlen hd (fun H1 locs1 hP1 _ hS1 => ?_)
  rw [wld_set hq0 he2] at hP1
  exact kk _ r S2 hF H1 locs1 ls hP1 hS1 hl
theorem vp_ck {i : Int32} {N : Nat} (h : ¬ (i < 0 ∨ N ≤ i.toNatClampNeg)) : vp_in i N := h
theorem ge_iald (C : Cx w adr k cc own nL fr lo) {a o N : Nat} {i : Int32} (hq : (a, o) ∈ cls) (he : en w.2 adr a o (S a o) = .inl (w.2 0, N, .inl (S a o))) (hd : decode cc pc = .ok (.iaload, 1)) (hn : pc + 1 = n) (kk : ¬ (i < 0 ∨ N ≤ i.toNatClampNeg) → Ge w adr k n lv (.int (S a o i.toNatClampNeg) :: st) S F) : Ge w adr k pc lv (.int i :: .ref (adr a o) :: st) S (ck i N F) := by
  unfold ck
  refine ge_if (fun _ => ge_none) (fun h => ?_)
  have kk := kk h
  obtain ⟨p, l, e, R, s, m, args, below, meth, c, nL, kc, ks, Qf, A⟩ := k
  obtain ⟨hx, hb, hml, hnl, hown, hts, hK, hj, hA, hN, hkc, hks, hfr, hlo⟩ := C
  subst hn
  intro r S2 hF H locs ls hP hS hl
  obtain ⟨q0, hq0, hq1⟩ := wld_in (cy := w.2) (adr := adr) (S := S) hq
  rw [he] at hq1
  exact va_iald hx hb hK hP q0 0 hq1 rfl (vp_ck h) hd (kk r S2 hF H locs ls hP hS hl)
theorem ge_zald (C : Cx w adr k cc own nL fr lo) {a o N : Nat} {i : Int32} (hq : (a, o) ∈ cls) (he : en w.2 adr a o (S a o) = .inl (w.2 1, N, .inl (S a o))) (hd : decode cc pc = .ok (.baload, 1)) (hn : pc + 1 = n) (kk : ¬ (i < 0 ∨ N ≤ i.toNatClampNeg) → Ge w adr k n lv (.int (S a o i.toNatClampNeg) :: st) S F) : Ge w adr k pc lv (.int i :: .ref (adr a o) :: st) S (ck i N F) := by
  unfold ck
  refine ge_if (fun _ => ge_none) (fun h => ?_)
  have kk := kk h
  obtain ⟨p, l, e, R, s, m, args, below, meth, c, nL, kc, ks, Qf, A⟩ := k
  obtain ⟨hx, hb, hml, hnl, hown, hts, hK, hj, hA, hN, hkc, hks, hfr, hlo⟩ := C
  subst hn
  intro r S2 hF H locs ls hP hS hl
  obtain ⟨q0, hq0, hq1⟩ := wld_in (cy := w.2) (adr := adr) (S := S) hq
  rw [he] at hq1
  exact va_zald hx hb hK hP q0 1 hq1 rfl (vp_ck h) hd (kk r S2 hF H locs ls hP hS hl)
theorem ge_iast (C : Cx w adr k cc own nL fr lo) {a o N : Nat} {i x : Int32} {f : St → Op} (hq : (a, o) ∈ cls) (he : ∀ g : Nat → Int32, en w.2 adr a o g = .inl (w.2 0, N, .inl g)) (hd : decode cc pc = .ok (.iastore, 1)) (hn : pc + 1 = n) (kk : ∀ S1 : St, Ge w adr k n lv st S1 (f S1)) : Ge w adr k pc lv (.int x :: .int i :: .ref (adr a o) :: st) S (ck i N (bs (wr S a o i.toNatClampNeg x) f)) := by
  unfold ck
  refine ge_if (fun _ => ge_none) (fun h => ?_)
  obtain ⟨p, l, e, R, s, m, args, below, meth, c, nL, kc, ks, Qf, A⟩ := k
  obtain ⟨hx, hb, hml, hnl, hown, hts, hK, hj, hA, hN, hkc, hks, hfr, hlo⟩ := C
  subst hn
  intro r S2 hF H locs ls hP hS hl
  obtain ⟨q0, hq0, hq1⟩ := wld_in (cy := w.2) (adr := adr) (S := S) hq
  rw [he] at hq1
  refine va_iast hx hb hK hP (wld_D hj hA S) hS q0 0 hq1 rfl (vp_ck h) hd (fun H1 locs1 hP1 _ hS1 => ?_)
  rw [wld_set hq0 (he _)] at hP1
  exact kk _ r S2 hF H1 locs1 ls hP1 hS1 hl
theorem ge_zast (C : Cx w adr k cc own nL fr lo) {a o N : Nat} {i x : Int32} {f : St → Op} (hq : (a, o) ∈ cls) (he : ∀ g : Nat → Int32, en w.2 adr a o g = .inl (w.2 1, N, .inl g)) (hd : decode cc pc = .ok (.bastore, 1)) (hn : pc + 1 = n) (kk : ∀ S1 : St, Ge w adr k n lv st S1 (f S1)) : Ge w adr k pc lv (.int x :: .int i :: .ref (adr a o) :: st) S (ck i N (bs (wr S a o i.toNatClampNeg (vp_nar .boolean x)) f)) := by
  unfold ck
  refine ge_if (fun _ => ge_none) (fun h => ?_)
  obtain ⟨p, l, e, R, s, m, args, below, meth, c, nL, kc, ks, Qf, A⟩ := k
  obtain ⟨hx, hb, hml, hnl, hown, hts, hK, hj, hA, hN, hkc, hks, hfr, hlo⟩ := C
  subst hn
  intro r S2 hF H locs ls hP hS hl
  obtain ⟨q0, hq0, hq1⟩ := wld_in (cy := w.2) (adr := adr) (S := S) hq
  rw [he] at hq1
  refine va_zast hx hb hK hP (wld_D hj hA S) hS q0 1 hq1 rfl (vp_ck h) hd (fun H1 locs1 hP1 _ hS1 => ?_)
  rw [wld_set hq0 (he _)] at hP1
  exact kk _ r S2 hF H1 locs1 ls hP1 hS1 hl
theorem ge_aald (C : Cx w adr k cc own nL fr lo) {a o N t0 : Nat} {i : Int32} {g : Nat → Nat} {cA : ClassId} {ty : FieldType} (hq : (a, o) ∈ cls) (he : en w.2 adr a o (S a o) = .inl (cA, N, .inr (.inr (.inr (.inr (fun j => some (g j))))))) (ht : (tyl w.2)[t0]? = some (cA, ty)) (hty : ty.isReference = true) (hd : decode cc pc = .ok (.aaload, 1)) (hn : pc + 1 = n) (kk : ¬ (i < 0 ∨ N ≤ i.toNatClampNeg) → Ge w adr k n lv (.ref (g i.toNatClampNeg) :: st) S F) : Ge w adr k pc lv (.int i :: .ref (adr a o) :: st) S (ck i N F) := by
  unfold ck
  refine ge_if (fun _ => ge_none) (fun h => ?_)
  have kk := kk h
  obtain ⟨p, l, e, R, s, m, args, below, meth, c, nL, kc, ks, Qf, A⟩ := k
  obtain ⟨hx, hb, hml, hnl, hown, hts, hK, hj, hA, hN, hkc, hks, hfr, hlo⟩ := C
  subst hn
  intro r S2 hF H locs ls hP hS hl
  obtain ⟨q0, hq0, hq1⟩ := wld_in (cy := w.2) (adr := adr) (S := S) hq
  rw [he] at hq1
  have hlt : i.toNatClampNeg < N := Nat.not_le.mp fun q => h (Or.inr q)
  exact W.aald (v := .ref (g i.toNatClampNeg)) (ty := ty) hx hb (hP q0 _ hq1) ((hK.2 t0 _ ht).1 N (fun j => va_rf (some (g j)))) hty (fun q => by cases q) (by show ¬ (i < 0 ∨ (arrV _ _ _).slots.size ≤ _); rw [arrV_size]; exact h) (by show (arrV _ _ _).slots[_]? = _; rw [arrV_read _ _ hlt]; rfl) rfl rfl hd (kk r S2 hF H locs ls hP hS hl)
theorem ge_iret (C : Cx w adr k cc own nL fr lo) (Rr : Ri w adr k .int) {v : Int32} (hd : decode cc pc = .ok (.ireturn, 1)) : Ge w adr k pc lv [.int v] S (some (v, S)) := by
  obtain ⟨p, l, e, R, s, m, args, below, meth, c, nL, kc, ks, Qf, A⟩ := k
  obtain ⟨hx, hb, hml, hnl, hown, hts, hK, hj, hA, hN, hkc, hks, hfr, hlo⟩ := C
  obtain ⟨hr, hlocks, rfl, rfl, rfl, rfl⟩ := Rr
  intro r S2 hF H locs ls hP hS hl
  cases hF
  exact W.iret (v := v) hx hb hr (fun t ht hW => ⟨⟨v, S, rfl, ⟨rfl, rfl⟩, by rw [ht]; exact hP, va_K.moved hW.alike hK, hN.warm hW⟩, hS.F ht⟩) hS.2.2 hd
theorem ge_zret (C : Cx w adr k cc own nL fr lo) (Rr : Ri w adr k .boolean) {v : Int32} (hv : narrow .boolean (.int v) = .int v) (hd : decode cc pc = .ok (.ireturn, 1)) : Ge w adr k pc lv [.int v] S (some (v, S)) := by
  obtain ⟨p, l, e, R, s, m, args, below, meth, c, nL, kc, ks, Qf, A⟩ := k
  obtain ⟨hx, hb, hml, hnl, hown, hts, hK, hj, hA, hN, hkc, hks, hfr, hlo⟩ := C
  obtain ⟨hr, hlocks, rfl, rfl, rfl, rfl⟩ := Rr
  intro r S2 hF H locs ls hP hS hl
  cases hF
  exact W.zret (v := v) hx hb hr hv (fun t ht hW => ⟨⟨v, S, rfl, ⟨rfl, rfl⟩, by rw [ht]; exact hP, va_K.moved hW.alike hK, hN.warm hW⟩, hS.F ht⟩) hS.2.2 hd
theorem ge_vret (C : Cx w adr k cc own nL fr lo) (Rr : Rv w adr k) (hd : decode cc pc = .ok (.return_, 1)) : Ge w adr k pc lv [] S (some (0, S)) := by
  obtain ⟨p, l, e, R, s, m, args, below, meth, c, nL, kc, ks, Qf, A⟩ := k
  obtain ⟨hx, hb, hml, hnl, hown, hts, hK, hj, hA, hN, hkc, hks, hfr, hlo⟩ := C
  obtain ⟨hr, hlocks, rfl, rfl, rfl, rfl⟩ := Rr
  intro r S2 hF H locs ls hP hS hl
  cases hF
  exact W.vret hx hb hr (fun t ht hW => ⟨⟨S, rfl, rfl, by rw [ht]; exact hP, va_K.moved hW.alike hK, hN.warm hW⟩, hS.F ht⟩) hS.2.2 hd
theorem cal_some {g : Op} {f : Int32 → St → Op} {r : Int32} {S2 : St} (h : cal g f = some (r, S2)) : ∃ (r1 : Int32) (S1 : St), g = some (r1, S1) ∧ f r1 S1 = some (r, S2) := by
  cases g with
  | none => cases h
  | some q => exact ⟨q.1, q.2, rfl, h⟩
theorem rest8 {m : MethodId} {ls : Array Slot} {a : List Value} (h : (st.map fun v => v.category).sum ≤ 8) : 2 * (F0 m pc ls a).monitorRoom + (st.map fun v => v.category).sum ≤ 8 := lv_room h
theorem bz_of {U : State} {s : State} {H : Heap} (hU : U.heap = H) (hW : s.WarmedH U.vm) (hP : va_P w.1 vwCl (wld w.2 adr S) H) (hK : va_K w.1 vwCl (tyl w.2) s) (hN : Nw s) : Bz w adr S U := ⟨by rw [hU]; exact hP, va_K.moved hW.alike hK, hN.warm hW⟩
/-- calls of methods that answer an int -/
theorem ge_callVi (C : Cx w adr k cc own nL fr lo) {a o ci N i nA mL f2 l2 : Nat} {fs : List Value} {T : u_T} {Cn : String} {y : MethodName} {b : ByteArray} {ret : Option FieldType} {g : Op} {f : Int32 → St → Op} {As st0 : List Value} (hM : ∀ (l : Launch) (r : Int32) (S1 : St), g = some (r, S1) → Mi l w adr y b mL ret f2 l2 (.ref (adr a o) :: As) S r S1) (hG : GoodIn tz (wsV own i Cn y (wz y b mL ret))) (hq : (a, o) ∈ cls) (he : en w.2 adr a o (S a o) = .inr (ci, fs)) (hc : vwCl[ci]? = some (Cn, T, N)) (hcn : y.cls = Cn ∧ y.cls ≠ "java/lang/invoke/MethodHandle" ∧ y.cls ≠ "java/lang/invoke/VarHandle" ∧ (parseMethodDescriptor y.desc).map (fun d => d.parameters.length) = some nA) (hR : f2 + 1 ≤ fr ∧ 8 + (mL + 11) + l2 ≤ lo) (hna : As.length = nA) (hst : st0 = As.reverse ++ .ref (adr a o) :: st) (hr8 : (st.map fun v => v.category).sum ≤ 8) (hd : decode cc pc = .ok (.invokevirtual i, 3)) (hn : pc + 3 = n) (kk : ∀ (r : Int32) (S1 : St), Ge w adr k n lv (.int r :: st) S1 (f r S1)) : Ge w adr k pc lv st0 S (cal g f) := by
  obtain ⟨p, l, e, R, s, m, args, below, meth, c, nL, kc, ks, Qf, A⟩ := k
  obtain ⟨hx, hb, hml, hnl, hown, hts, hK, hj, hA, hN, hkc, hks, hfr, hlo⟩ := C
  subst hn
  subst hnl
  intro r S2 hF H locs ls hP hS hl
  obtain ⟨r1, S1, hg, hf⟩ := cal_some hF
  obtain ⟨q0, hq0, hq1⟩ := wld_in (cy := w.2) (adr := adr) (S := S) hq
  rw [he] at hq1
  refine va_calli (A1 := Az adr) (va_runV (As := As) (rest := st) ⟨hx, hb, hml, hown, hts⟩ (hM l r1 S1 hg) (cwV nA hts hG rfl rfl rfl hcn ⟨Nat.le_trans hR.1 hfr, Nat.le_trans hR.2 hlo⟩) ⟨bz_blind, va_recv hK hP hc hq1, fun U hU hW => ⟨rfl, bz_of hU hW hP hK hN⟩⟩ rfl hna hl.1 hst (rest8 hr8) hd ⟨hkc, hks⟩) hS (fun q _ h => hA q h) (fun q h => hA q h) (fun r2 u t H1 locs1 ht hvm hw hB hz1 hk1 hS1 => ?_)
  obtain ⟨rfl, rfl⟩ := hw
  exact kk r2 u r S2 hf H1 locs1 ls (by have := hB.1; rw [ht] at this; exact this) hS1 hl
theorem ge_callVv (C : Cx w adr k cc own nL fr lo) {a o ci N i nA mL f2 l2 : Nat} {fs : List Value} {T : u_T} {Cn : String} {y : MethodName} {b : ByteArray} {ret : Option FieldType} {g : Op} {f : Int32 → St → Op} {As st0 : List Value} (hM : ∀ (l : Launch) (r : Int32) (S1 : St), g = some (r, S1) → Mv l w adr y b mL ret f2 l2 (.ref (adr a o) :: As) S S1) (hG : GoodIn tz (wsV own i Cn y (wz y b mL ret))) (hq : (a, o) ∈ cls) (he : en w.2 adr a o (S a o) = .inr (ci, fs)) (hc : vwCl[ci]? = some (Cn, T, N)) (hcn : y.cls = Cn ∧ y.cls ≠ "java/lang/invoke/MethodHandle" ∧ y.cls ≠ "java/lang/invoke/VarHandle" ∧ (parseMethodDescriptor y.desc).map (fun d => d.parameters.length) = some nA) (hR : f2 + 1 ≤ fr ∧ 8 + (mL + 11) + l2 ≤ lo) (hna : As.length = nA) (hst : st0 = As.reverse ++ .ref (adr a o) :: st) (hr8 : (st.map fun v => v.category).sum ≤ 8) (hd : decode cc pc = .ok (.invokevirtual i, 3)) (hn : pc + 3 = n) (kk : ∀ (r : Int32) (S1 : St), Ge w adr k n lv st S1 (f r S1)) : Ge w adr k pc lv st0 S (cal g f) := by
  obtain ⟨p, l, e, R, s, m, args, below, meth, c, nL, kc, ks, Qf, A⟩ := k
  obtain ⟨hx, hb, hml, hnl, hown, hts, hK, hj, hA, hN, hkc, hks, hfr, hlo⟩ := C
  subst hn
  subst hnl
  intro r S2 hF H locs ls hP hS hl
  obtain ⟨r1, S1, hg, hf⟩ := cal_some hF
  obtain ⟨q0, hq0, hq1⟩ := wld_in (cy := w.2) (adr := adr) (S := S) hq
  rw [he] at hq1
  refine va_callv (A1 := Az adr) (va_runV (As := As) (rest := st) ⟨hx, hb, hml, hown, hts⟩ (hM l r1 S1 hg) (cwV nA hts hG rfl rfl rfl hcn ⟨Nat.le_trans hR.1 hfr, Nat.le_trans hR.2 hlo⟩) ⟨bz_blind, va_recv hK hP hc hq1, fun U hU hW => ⟨rfl, bz_of hU hW hP hK hN⟩⟩ rfl hna hl.1 hst (rest8 hr8) hd ⟨hkc, hks⟩) hS (fun q _ h => hA q h) (fun q h => hA q h) (fun u t H1 locs1 ht hvm hw hB hz1 hk1 hS1 => ?_)
  obtain rfl := hw
  exact kk r1 u r S2 hf H1 locs1 ls (by have := hB.1; rw [ht] at this; exact this) hS1 hl
theorem ge_callSi (C : Cx w adr k cc own nL fr lo) {i nA mL f2 l2 : Nat} {y : MethodName} {b : ByteArray} {ret : Option FieldType} {g : Op} {f : Int32 → St → Op} {As st0 : List Value} (hM : ∀ (l : Launch) (r : Int32) (S1 : St), g = some (r, S1) → Mi l w adr y b mL ret f2 l2 As S r S1) (hG : GoodIn tz (va_wsS own i y (wz y b mL ret))) (hcn : y.cls ≠ "java/lang/invoke/MethodHandle" ∧ y.cls ≠ "java/lang/invoke/VarHandle" ∧ (parseMethodDescriptor y.desc).map (fun d => d.parameters.length) = some nA) (hR : f2 + 1 ≤ fr ∧ 8 + (mL + 11) + l2 ≤ lo) (hna : As.length = nA) (hst : st0 = As.reverse ++ st) (hr8 : (st.map fun v => v.category).sum ≤ 8) (hd : decode cc pc = .ok (.invokestatic i, 3)) (hn : pc + 3 = n) (kk : ∀ (r : Int32) (S1 : St), Ge w adr k n lv (.int r :: st) S1 (f r S1)) : Ge w adr k pc lv st0 S (cal g f) := by
  obtain ⟨p, l, e, R, s, m, args, below, meth, c, nL, kc, ks, Qf, A⟩ := k
  obtain ⟨hx, hb, hml, hnl, hown, hts, hK, hj, hA, hN, hkc, hks, hfr, hlo⟩ := C
  subst hn
  subst hnl
  intro r S2 hF H locs ls hP hS hl
  obtain ⟨r1, S1, hg, hf⟩ := cal_some hF
  refine va_calli (A1 := Az adr) (va_runS (As := As) (rest := st) ⟨hx, hb, hml, hown, hts⟩ (hM l r1 S1 hg) (va_cwS nA hts hG rfl rfl rfl hcn ⟨Nat.le_trans hR.1 hfr, Nat.le_trans hR.2 hlo⟩) ⟨bz_blind, fun U hU hW => ⟨rfl, bz_of hU hW hP hK hN⟩⟩ rfl hna hl.1 hst (rest8 hr8) hd ⟨hkc, hks⟩) hS (fun q _ h => hA q h) (fun q h => hA q h) (fun r2 u t H1 locs1 ht hvm hw hB hz1 hk1 hS1 => ?_)
  obtain ⟨rfl, rfl⟩ := hw
  exact kk r2 u r S2 hf H1 locs1 ls (by have := hB.1; rw [ht] at this; exact this) hS1 hl
/-- the one call of a nest mate's private method -/
theorem ge_callNi (C : Cx w adr k cc RX8 nL fr lo) {mL f2 l2 : Nat} {b : ByteArray} {ret : Option FieldType} {g : Op} {f : Int32 → St → Op} {As st0 : List Value} (hM : ∀ (l : Launch) (r : Int32) (S1 : St), g = some (r, S1) → Mi l w adr yX10_isOutside b mL ret f2 l2 As S r S1) (hG : Cond.code yX10_isOutside b mL ret ∈ tz) (hst1 : Cond.static yX10_isOutside ∈ tz) (hini : Cond.initialized yX10_isOutside.cls ∈ tz) (hR : f2 + 1 ≤ fr ∧ 8 + (mL + 11) + l2 ≤ lo) (hna : As.length = 3) (hst : st0 = As.reverse ++ st) (hr8 : (st.map fun v => v.category).sum ≤ 8) (hd : decode cc pc = .ok (.invokestatic 102, 3)) (hn : pc + 3 = n) (kk : ∀ (r : Int32) (S1 : St), Ge w adr k n lv (.int r :: st) S1 (f r S1)) : Ge w adr k pc lv st0 S (cal g f) := by
  obtain ⟨p, l, e, R, s, m, args, below, meth, c, nL, kc, ks, Qf, A⟩ := k
  obtain ⟨hx, hb, hml, hnl, hown, hts, hK, hj, hA, hN, hkc, hks, hfr, hlo⟩ := C
  subst hn
  subst hnl
  intro r S2 hF H locs ls hP hS hl
  obtain ⟨r1, S1, hg, hf⟩ := cal_some hF
  refine va_calli (A1 := Az adr) (va_runSN (As := As) (rest := st) (host := RX10) ⟨hx, hb, hml, hown, hts⟩ (hM l r1 S1 hg) ⟨va_cnB 3 hts (gdZ hG) rfl rfl rfl hN (hts _ hini) ⟨by decide +kernel, by decide +kernel, by decide +kernel⟩ ⟨Nat.le_trans hR.1 hfr, Nat.le_trans hR.2 hlo⟩, hts _ hst1, trivial⟩ ⟨bz_blind, fun U hU hW => ⟨rfl, bz_of hU hW hP hK hN⟩⟩ rfl hna hl.1 hst (rest8 hr8) hd ⟨hkc, hks⟩) hS (fun q _ h => hA q h) (fun q h => hA q h) (fun r2 u t H1 locs1 ht hvm hw hB hz1 hk1 hS1 => ?_)
  obtain ⟨rfl, rfl⟩ := hw
  exact kk r2 u r S2 hf H1 locs1 ls (by have := hB.1; rw [ht] at this; exact this) hS1 hl
end GE
theorem ge_lop {α : Type} {z : α} {b : α → α} (P : α → Prop) (h0 : P z) (hs : ∀ ag : α, P ag → P (b ag)) : ∀ n : Nat, P (lop z b n)
  | 0 => h0
  | n + 1 => hs _ (ge_lop P h0 hs n)
/-- a method's contract out of the walk of its body -/
theorem mi_of {w : WX} {adr : Nat → Nat → Nat} {y : MethodName} {b : ByteArray} {mL : Nat} {ty : FieldType} {fr lo : Nat} {av : List Value} {lv : List (Nat × Value)} {S : St} {F : Op} (hj : Ij adr) (hy : plainName y.cls = true) (hlv : lv_args 0 av = lv) (hlen : (lg_sl av).length ≤ mL) (body : ∀ k : KX, Cx w adr k b y.cls mL fr lo → Ri w adr k ty → Ge w adr k 0 lv [] S F) : ∀ (l : Launch) (r : Int32) (S2 : St), F = some (r, S2) → Mi l w adr y b mL (some ty) fr lo av S r S2 := by
  intro l r S2 hF
  refine Met.ofW (cc := b) (maxL := mL) (ret := some ty) hy rfl ?_
  intro p e s m args below meth c s1 B hml hv
  obtain ⟨rfl, hP, hK, hN⟩ := hv
  have hts0 := atoms_spec (ws := wz y b mL (some ty)) B.pre
  have hts : ∀ x ∈ tz, x.before av.toArray s = true := fun x hx => hts0 x (List.mem_cons_of_mem _ hx)
  have hown : s.vm.findClass y.cls = some m.cls := findClass_of_methodNamed B.named
  have hl := lv_entry av (n := mL) hlen
  rw [lg_entry_eq]
  rw [hlv] at hl
  generalize (lg_sl av ++ List.replicate (mL - (lg_sl av).length) Slot.unset).toArray = ls at hl ⊢
  exact body (p, l, e, _, s, m, av.toArray, below, meth, c, mL, 0, 0, _, Az adr) ⟨B.exec, B.bytes, hml, rfl, hown, hts, hK, hj, fun _ h => h, hN, Nat.zero_le _, Nat.zero_le _, Nat.le_refl fr, Nat.le_refl lo⟩ ⟨B.returns, B.notSynchronized, rfl, rfl, rfl, rfl⟩ r S2 hF s.heap [] ls hP va_S.rf hl
theorem mv_of {w : WX} {adr : Nat → Nat → Nat} {y : MethodName} {b : ByteArray} {mL : Nat} {fr lo : Nat} {av : List Value} {lv : List (Nat × Value)} {S : St} {F : Op} (hj : Ij adr) (hy : plainName y.cls = true) (hlv : lv_args 0 av = lv) (hlen : (lg_sl av).length ≤ mL) (body : ∀ k : KX, Cx w adr k b y.cls mL fr lo → Rv w adr k → Ge w adr k 0 lv [] S F) : ∀ (l : Launch) (r : Int32) (S2 : St), F = some (r, S2) → Mv l w adr y b mL none fr lo av S S2 := by
  intro l r S2 hF
  refine Met.ofW (cc := b) (maxL := mL) (ret := none) hy rfl ?_
  intro p e s m args below meth c s1 B hml hv
  obtain ⟨rfl, hP, hK, hN⟩ := hv
  have hts0 := atoms_spec (ws := wz y b mL none) B.pre
  have hts : ∀ x ∈ tz, x.before av.toArray s = true := fun x hx => hts0 x (List.mem_cons_of_mem _ hx)
  have hown : s.vm.findClass y.cls = some m.cls := findClass_of_methodNamed B.named
  have hl := lv_entry av (n := mL) hlen
  rw [lg_entry_eq]
  rw [hlv] at hl
  generalize (lg_sl av ++ List.replicate (mL - (lg_sl av).length) Slot.unset).toArray = ls at hl ⊢
  exact body (p, l, e, _, s, m, av.toArray, below, meth, c, mL, 0, 0, _, Az adr) ⟨B.exec, B.bytes, hml, rfl, hown, hts, hK, hj, fun _ h => h, hN, Nat.zero_le _, Nat.zero_le _, Nat.le_refl fr, Nat.le_refl lo⟩ ⟨B.returns, B.notSynchronized, rfl, rfl, rfl, rfl⟩ r S2 hF s.heap [] ls hP va_S.rf hl
theorem ts_out {x : Int32} {n : Nat} (hn : n < 2 ^ 31) (h : ∀ i : Nat, i < n → ¬ x = nI i) : x.toInt < 0 ∨ ((n : Int) - 1) < x.toInt := by
  by_cases h0 : x < 0
  · exact Or.inl (by simpa using Int32.lt_iff_toInt_lt.mp h0)
  · obtain ⟨j, hj, rfl⟩ := nI_of h0
    right
    rw [nI_toInt hj]
    have : ¬ j < n := fun q => h j q rfl
    omega
theorem bd_c {i : Int32} {N M : Nat} (h : ¬ (i < 0 ∨ N ≤ i.toNatClampNeg)) (hM : N ≤ M) : i.toNatClampNeg < M := Nat.lt_of_lt_of_le (Nat.not_le.mp fun q => h (Or.inr q)) hM
theorem bd_pls {o : Nat} {i : Int32} (ho : o < 2) (h : ¬ (i < 0 ∨ 6 ≤ i.toNatClampNeg)) : 6 * o + i.toNatClampNeg < 12 := by
  have := bd_c (M := 6) h (Nat.le_refl 6)
  omega
theorem bd_pai {i : Int32} (h : ¬ (i < 0 ∨ 2 ≤ i.toNatClampNeg)) : 16 + i.toNatClampNeg < 18 := by
  have := bd_c (M := 2) h (Nat.le_refl 2)
  omega
end
