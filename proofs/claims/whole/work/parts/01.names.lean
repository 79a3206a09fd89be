def RK : String := "GuestKeeper"
def RP : String := "GuestKeeper$Page"
def RG : String := "GuestKeeper$Guest"
def RR : String := "GuestKeeper$Processor"
def RM : String := "GuestKeeperModel"
def RL : String := "GuestKeeperLaw"
def TK : u_T := fun k => match k with
  | 0 => ("GuestKeeper", "pages", "[LGuestKeeper$Page;", true)
  | 1 => ("GuestKeeper", "guests", "[LGuestKeeper$Guest;", true)
  | 2 => ("GuestKeeper", "hostRegisters", "[I", true)
  | 3 => ("GuestKeeper", "guestsMade", "I", false)
  | 4 => ("GuestKeeper", "hostFaults", "I", false)
  | 5 => ("GuestKeeper", "latestInfo", "I", false)
  | 6 => ("GuestKeeper", "loadedGuest", "LGuestKeeper$Guest;", false)
  | _ => ("GuestKeeper", "loadedProcessor", "LGuestKeeper$Processor;", false)
def tyK : Nat → FieldType := fun k => match k with
  | 0 => .array (.object "GuestKeeper$Page")
  | 1 => .array (.object "GuestKeeper$Guest")
  | 2 => .array .int
  | 3 => .int
  | 4 => .int
  | 5 => .int
  | 6 => .object "GuestKeeper$Guest"
  | _ => .object "GuestKeeper$Processor"
theorem nK : ∀ a, a < 8 → ∀ b, b < 8 → a ≠ b → (TK a).2.1 ≠ (TK b).2.1 := by decide +kernel
theorem tyK_ok : ∀ k, k < 8 → parseFieldDescriptor (TK k).2.2.1 = some (tyK k) := by decide +kernel
def TP : u_T := fun k => match k with
  | 0 => ("GuestKeeper$Page", "words", "[I", true)
  | 1 => ("GuestKeeper$Page", "ownerNumber", "I", false)
  | 2 => ("GuestKeeper$Page", "lentTo", "I", false)
  | 3 => ("GuestKeeper$Page", "keptFor", "I", false)
  | 4 => ("GuestKeeper$Page", "shared", "Z", false)
  | _ => ("GuestKeeper$Page", "mapped", "Z", false)
def tyP : Nat → FieldType := fun k => match k with
  | 0 => .array .int
  | 1 => .int
  | 2 => .int
  | 3 => .int
  | 4 => .boolean
  | _ => .boolean
theorem nP : ∀ a, a < 6 → ∀ b, b < 6 → a ≠ b → (TP a).2.1 ≠ (TP b).2.1 := by decide +kernel
theorem tyP_ok : ∀ k, k < 6 → parseFieldDescriptor (TP k).2.2.1 = some (tyP k) := by decide +kernel
def TG : u_T := fun k => match k with
  | 0 => ("GuestKeeper$Guest", "number", "I", true)
  | 1 => ("GuestKeeper$Guest", "places", "[LGuestKeeper$Page;", true)
  | 2 => ("GuestKeeper$Guest", "processors", "[LGuestKeeper$Processor;", true)
  | 3 => ("GuestKeeper$Guest", "alive", "Z", false)
  | 4 => ("GuestKeeper$Guest", "everLoaded", "Z", false)
  | _ => ("GuestKeeper$Guest", "pagesFed", "I", false)
def tyG : Nat → FieldType := fun k => match k with
  | 0 => .int
  | 1 => .array (.object "GuestKeeper$Page")
  | 2 => .array (.object "GuestKeeper$Processor")
  | 3 => .boolean
  | 4 => .boolean
  | _ => .int
theorem nG : ∀ a, a < 6 → ∀ b, b < 6 → a ≠ b → (TG a).2.1 ≠ (TG b).2.1 := by decide +kernel
theorem tyG_ok : ∀ k, k < 6 → parseFieldDescriptor (TG k).2.2.1 = some (tyG k) := by decide +kernel
def TR : u_T := fun k => match k with
  | 0 => ("GuestKeeper$Processor", "registers", "[I", true)
  | 1 => ("GuestKeeper$Processor", "pc", "I", false)
  | 2 => ("GuestKeeper$Processor", "exitInfo", "I", false)
  | _ => ("GuestKeeper$Processor", "askingRegister", "I", false)
def tyR : Nat → FieldType := fun k => match k with
  | 0 => .array .int
  | 1 => .int
  | 2 => .int
  | _ => .int
theorem nR : ∀ a, a < 4 → ∀ b, b < 4 → a ≠ b → (TR a).2.1 ≠ (TR b).2.1 := by decide +kernel
theorem tyR_ok : ∀ k, k < 4 → parseFieldDescriptor (TR k).2.2.1 = some (tyR k) := by decide +kernel
def TM : u_T := fun k => match k with
  | 0 => ("GuestKeeperModel", "words", "[I", true)
  | 1 => ("GuestKeeperModel", "whose", "[I", true)
  | 2 => ("GuestKeeperModel", "keptFor", "[I", true)
  | 3 => ("GuestKeeperModel", "lentTo", "[I", true)
  | 4 => ("GuestKeeperModel", "place", "[I", true)
  | 5 => ("GuestKeeperModel", "shared", "[Z", true)
  | 6 => ("GuestKeeperModel", "mapped", "[Z", true)
  | 7 => ("GuestKeeperModel", "made", "I", false)
  | 8 => ("GuestKeeperModel", "alive", "[Z", true)
  | 9 => ("GuestKeeperModel", "ran", "[Z", true)
  | 10 => ("GuestKeeperModel", "registers", "[I", true)
  | 11 => ("GuestKeeperModel", "counter", "[I", true)
  | 12 => ("GuestKeeperModel", "waits", "[I", true)
  | 13 => ("GuestKeeperModel", "loaded", "I", false)
  | 14 => ("GuestKeeperModel", "info", "I", false)
  | 15 => ("GuestKeeperModel", "own", "[I", true)
  | _ => ("GuestKeeperModel", "faults", "I", false)
def tyM : Nat → FieldType := fun k => match k with
  | 0 => .array .int
  | 1 => .array .int
  | 2 => .array .int
  | 3 => .array .int
  | 4 => .array .int
  | 5 => .array .boolean
  | 6 => .array .boolean
  | 7 => .int
  | 8 => .array .boolean
  | 9 => .array .boolean
  | 10 => .array .int
  | 11 => .array .int
  | 12 => .array .int
  | 13 => .int
  | 14 => .int
  | 15 => .array .int
  | _ => .int
theorem nM : ∀ a, a < 17 → ∀ b, b < 17 → a ≠ b → (TM a).2.1 ≠ (TM b).2.1 := by decide +kernel
theorem tyM_ok : ∀ k, k < 17 → parseFieldDescriptor (TM k).2.2.1 = some (tyM k) := by decide +kernel
abbrev vwCl : List vw_C := [(RK, TK, 8), (RP, TP, 6), (RG, TG, 6), (RR, TR, 4), (RM, TM, 17)]
abbrev cK_init : ByteArray := prog_1_method_1_code
def yK_init : MethodName := ⟨RK, "<init>", "()V"⟩
abbrev cP_init : ByteArray := prog_3_method_1_code
def yP_init : MethodName := ⟨RP, "<init>", "()V"⟩
abbrev cK_read : ByteArray := prog_1_method_2_code
def yK_read : MethodName := ⟨RK, "read", "(II)J"⟩
abbrev cK_isPage : ByteArray := prog_1_method_22_code
def yK_isPage : MethodName := ⟨RK, "isPage", "(I)Z"⟩
abbrev cK_isWord : ByteArray := prog_1_method_23_code
def yK_isWord : MethodName := ⟨RK, "isWord", "(I)Z"⟩
abbrev cK_hostReaches : ByteArray := prog_1_method_27_code
def yK_hostReaches : MethodName := ⟨RK, "hostReaches", "(LGuestKeeper$Page;)Z"⟩
abbrev cP_isOpenToHost : ByteArray := prog_3_method_3_code
def yP_isOpenToHost : MethodName := ⟨RP, "isOpenToHost", "()Z"⟩
abbrev cK_write : ByteArray := prog_1_method_3_code
def yK_write : MethodName := ⟨RK, "write", "(III)Z"⟩
abbrev cK_faults : ByteArray := prog_1_method_4_code
def yK_faults : MethodName := ⟨RK, "faults", "()I"⟩
abbrev cK_create : ByteArray := prog_1_method_5_code
def yK_create : MethodName := ⟨RK, "create", "(I)I"⟩
abbrev cK_isFreePage : ByteArray := prog_1_method_25_code
def yK_isFreePage : MethodName := ⟨RK, "isFreePage", "(I)Z"⟩
abbrev cG_init : ByteArray := prog_2_method_1_code
def yG_init : MethodName := ⟨RG, "<init>", "(I)V"⟩
abbrev cR_init : ByteArray := prog_4_method_1_code
def yR_init : MethodName := ⟨RR, "<init>", "()V"⟩
abbrev cP_becomeKeepers : ByteArray := prog_3_method_6_code
def yP_becomeKeepers : MethodName := ⟨RP, "becomeKeepers", "(I)V"⟩
abbrev cP_wipe : ByteArray := prog_3_method_2_code
def yP_wipe : MethodName := ⟨RP, "wipe", "()V"⟩
abbrev cP_changeOwner : ByteArray := prog_3_method_4_code
def yP_changeOwner : MethodName := ⟨RP, "changeOwner", "(I)V"⟩
abbrev cP_changeSharing : ByteArray := prog_3_method_5_code
def yP_changeSharing : MethodName := ⟨RP, "changeSharing", "(Z)V"⟩
abbrev cK_feed : ByteArray := prog_1_method_6_code
def yK_feed : MethodName := ⟨RK, "feed", "(II)I"⟩
abbrev cK_livingGuest : ByteArray := prog_1_method_26_code
def yK_livingGuest : MethodName := ⟨RK, "livingGuest", "(I)LGuestKeeper$Guest;"⟩
abbrev cG_poolSize : ByteArray := prog_2_method_4_code
def yG_poolSize : MethodName := ⟨RG, "poolSize", "()I"⟩
abbrev cG_countTables : ByteArray := prog_2_method_5_code
def yG_countTables : MethodName := ⟨RG, "countTables", "()I"⟩
abbrev cG_countTablesOf : ByteArray := prog_2_method_8_code
def yG_countTablesOf : MethodName := ⟨RG, "countTablesOf", "(I)I"⟩
abbrev cG_needsTable : ByteArray := prog_2_method_9_code
def yG_needsTable : MethodName := ⟨RG, "needsTable", "(II)Z"⟩
abbrev cK_donate : ByteArray := prog_1_method_7_code
def yK_donate : MethodName := ⟨RK, "donate", "(III)I"⟩
abbrev cK_placingRefusal : ByteArray := prog_1_method_28_code
def yK_placingRefusal : MethodName := ⟨RK, "placingRefusal", "(LGuestKeeper$Guest;II)I"⟩
abbrev cG_newTablesFor : ByteArray := prog_2_method_6_code
def yG_newTablesFor : MethodName := ⟨RG, "newTablesFor", "(I)I"⟩
abbrev cK_lend : ByteArray := prog_1_method_8_code
def yK_lend : MethodName := ⟨RK, "lend", "(III)I"⟩
abbrev cK_takeBack : ByteArray := prog_1_method_9_code
def yK_takeBack : MethodName := ⟨RK, "takeBack", "(I)Z"⟩
abbrev cG_removePage : ByteArray := prog_2_method_3_code
def yG_removePage : MethodName := ⟨RG, "removePage", "(LGuestKeeper$Page;)V"⟩
abbrev cK_destroy : ByteArray := prog_1_method_10_code
def yK_destroy : MethodName := ⟨RK, "destroy", "(I)Z"⟩
abbrev cP_loseGuest : ByteArray := prog_3_method_7_code
def yP_loseGuest : MethodName := ⟨RP, "loseGuest", "(I)V"⟩
abbrev cK_reclaim : ByteArray := prog_1_method_11_code
def yK_reclaim : MethodName := ⟨RK, "reclaim", "(I)Z"⟩
abbrev cK_load : ByteArray := prog_1_method_12_code
def yK_load : MethodName := ⟨RK, "load", "(II)Z"⟩
abbrev cK_put : ByteArray := prog_1_method_13_code
def yK_put : MethodName := ⟨RK, "put", "()Z"⟩
abbrev cK_run : ByteArray := prog_1_method_14_code
def yK_run : MethodName := ⟨RK, "run", "(II)I"⟩
abbrev cR_receiveAnswer : ByteArray := prog_4_method_2_code
def yR_receiveAnswer : MethodName := ⟨RR, "receiveAnswer", "(I)V"⟩
abbrev cR_makeSteps : ByteArray := prog_4_method_3_code
def yR_makeSteps : MethodName := ⟨RR, "makeSteps", "(ILGuestKeeper$Guest;)I"⟩
abbrev cR_makeStep : ByteArray := prog_4_method_4_code
def yR_makeStep : MethodName := ⟨RR, "makeStep", "(LGuestKeeper$Guest;)I"⟩
abbrev cG_pageAtAddress : ByteArray := prog_2_method_2_code
def yG_pageAtAddress : MethodName := ⟨RG, "pageAtAddress", "(I)LGuestKeeper$Page;"⟩
abbrev cR_faultAt : ByteArray := prog_4_method_7_code
def yR_faultAt : MethodName := ⟨RR, "faultAt", "(I)I"⟩
abbrev cR_perform : ByteArray := prog_4_method_5_code
def yR_perform : MethodName := ⟨RR, "perform", "(ILGuestKeeper$Guest;)I"⟩
abbrev cR_moveWord : ByteArray := prog_4_method_6_code
def yR_moveWord : MethodName := ⟨RR, "moveWord", "(ZIILGuestKeeper$Guest;)I"⟩
abbrev cG_changeSharingAt : ByteArray := prog_2_method_7_code
def yG_changeSharingAt : MethodName := ⟨RG, "changeSharingAt", "(IZ)Z"⟩
abbrev cK_info : ByteArray := prog_1_method_15_code
def yK_info : MethodName := ⟨RK, "info", "()I"⟩
abbrev cK_set : ByteArray := prog_1_method_16_code
def yK_set : MethodName := ⟨RK, "set", "(II)Z"⟩
abbrev cK_isRegister : ByteArray := prog_1_method_24_code
def yK_isRegister : MethodName := ⟨RK, "isRegister", "(I)Z"⟩
abbrev cK_register : ByteArray := prog_1_method_17_code
def yK_register : MethodName := ⟨RK, "register", "(I)I"⟩
abbrev cK_owner : ByteArray := prog_1_method_18_code
def yK_owner : MethodName := ⟨RK, "owner", "(I)I"⟩
abbrev cK_state : ByteArray := prog_1_method_19_code
def yK_state : MethodName := ⟨RK, "state", "(I)I"⟩
abbrev cK_pool : ByteArray := prog_1_method_20_code
def yK_pool : MethodName := ⟨RK, "pool", "(I)I"⟩
abbrev cK_tables : ByteArray := prog_1_method_21_code
def yK_tables : MethodName := ⟨RK, "tables", "(I)I"⟩
abbrev cM_init : ByteArray := prog_6_method_1_code
def yM_init : MethodName := ⟨RM, "<init>", "()V"⟩
abbrev cM_read : ByteArray := prog_6_method_13_code
def yM_read : MethodName := ⟨RM, "read", "(II)J"⟩
abbrev cM_touch : ByteArray := prog_6_method_12_code
def yM_touch : MethodName := ⟨RM, "touch", "(II)Z"⟩
abbrev cM_isPage : ByteArray := prog_6_method_2_code
def yM_isPage : MethodName := ⟨RM, "isPage", "(I)Z"⟩
abbrev cM_hostMay : ByteArray := prog_6_method_5_code
def yM_hostMay : MethodName := ⟨RM, "hostMay", "(I)Z"⟩
abbrev cM_write : ByteArray := prog_6_method_14_code
def yM_write : MethodName := ⟨RM, "write", "(III)Z"⟩
abbrev cM_faults : ByteArray := prog_6_method_15_code
def yM_faults : MethodName := ⟨RM, "faults", "()I"⟩
abbrev cM_create : ByteArray := prog_6_method_17_code
def yM_create : MethodName := ⟨RM, "create", "(I)I"⟩
abbrev cM_isFree : ByteArray := prog_6_method_3_code
def yM_isFree : MethodName := ⟨RM, "isFree", "(I)Z"⟩
abbrev cM_keep : ByteArray := prog_6_method_16_code
def yM_keep : MethodName := ⟨RM, "keep", "(II)V"⟩
abbrev cM_wipe : ByteArray := prog_6_method_6_code
def yM_wipe : MethodName := ⟨RM, "wipe", "(I)V"⟩
abbrev cM_look : ByteArray := prog_6_method_7_code
def yM_look : MethodName := ⟨RM, "look", "(I)V"⟩
abbrev cM_feed : ByteArray := prog_6_method_18_code
def yM_feed : MethodName := ⟨RM, "feed", "(II)I"⟩
abbrev cM_isGuest : ByteArray := prog_6_method_4_code
def yM_isGuest : MethodName := ⟨RM, "isGuest", "(I)Z"⟩
abbrev cM_rest : ByteArray := prog_6_method_11_code
def yM_rest : MethodName := ⟨RM, "rest", "(I)I"⟩
abbrev cM_count : ByteArray := prog_6_method_10_code
def yM_count : MethodName := ⟨RM, "count", "(II)I"⟩
abbrev cM_holder : ByteArray := prog_6_method_8_code
def yM_holder : MethodName := ⟨RM, "holder", "(I)I"⟩
abbrev cM_donate : ByteArray := prog_6_method_20_code
def yM_donate : MethodName := ⟨RM, "donate", "(III)I"⟩
abbrev cM_refusal : ByteArray := prog_6_method_19_code
def yM_refusal : MethodName := ⟨RM, "refusal", "(III)I"⟩
abbrev cM_held : ByteArray := prog_6_method_9_code
def yM_held : MethodName := ⟨RM, "held", "(II)I"⟩
abbrev cM_lend : ByteArray := prog_6_method_21_code
def yM_lend : MethodName := ⟨RM, "lend", "(III)I"⟩
abbrev cM_takeBack : ByteArray := prog_6_method_22_code
def yM_takeBack : MethodName := ⟨RM, "takeBack", "(I)Z"⟩
abbrev cM_destroy : ByteArray := prog_6_method_23_code
def yM_destroy : MethodName := ⟨RM, "destroy", "(I)Z"⟩
abbrev cM_reclaim : ByteArray := prog_6_method_24_code
def yM_reclaim : MethodName := ⟨RM, "reclaim", "(I)Z"⟩
abbrev cM_load : ByteArray := prog_6_method_25_code
def yM_load : MethodName := ⟨RM, "load", "(II)Z"⟩
abbrev cM_put : ByteArray := prog_6_method_26_code
def yM_put : MethodName := ⟨RM, "put", "()Z"⟩
abbrev cM_run : ByteArray := prog_6_method_27_code
def yM_run : MethodName := ⟨RM, "run", "(II)I"⟩
abbrev cM_step : ByteArray := prog_6_method_29_code
def yM_step : MethodName := ⟨RM, "step", "(I)I"⟩
abbrev cM_word : ByteArray := prog_6_method_28_code
def yM_word : MethodName := ⟨RM, "word", "(II)I"⟩
abbrev cM_turn : ByteArray := prog_6_method_30_code
def yM_turn : MethodName := ⟨RM, "turn", "(IIZ)Z"⟩
abbrev cM_info : ByteArray := prog_6_method_31_code
def yM_info : MethodName := ⟨RM, "info", "()I"⟩
abbrev cM_set : ByteArray := prog_6_method_32_code
def yM_set : MethodName := ⟨RM, "set", "(II)Z"⟩
abbrev cM_register : ByteArray := prog_6_method_33_code
def yM_register : MethodName := ⟨RM, "register", "(I)I"⟩
abbrev cM_owner : ByteArray := prog_6_method_34_code
def yM_owner : MethodName := ⟨RM, "owner", "(I)I"⟩
abbrev cM_state : ByteArray := prog_6_method_35_code
def yM_state : MethodName := ⟨RM, "state", "(I)I"⟩
abbrev cM_pool : ByteArray := prog_6_method_36_code
def yM_pool : MethodName := ⟨RM, "pool", "(I)I"⟩
abbrev cM_tables : ByteArray := prog_6_method_37_code
def yM_tables : MethodName := ⟨RM, "tables", "(I)I"⟩
def gWd_0 : List Cond := [.initialized RL, .initialized RK, .initialized RP, .initialized RM, .initialized RG, .initialized RR, .classLink RL 7 RK, .instantiable RK 8, .methodLink RL 9 yK_init, .instanceMethod yK_init, .code yK_init cK_init 2 none, .methodLink RK 1 objectInit, .instanceMethod objectInit, .code objectInit ⟨#[0xb1]⟩ 1 none, .classLink RK 9 RP, .instantiable RP 6, .instanceMethod yP_init, .code yP_init cP_init 1 none, .methodLink RP 3 objectInit, .fieldLink RP 9 "GuestKeeper$Page" "words" "[I", .fieldLink RK 39 "GuestKeeper$Page" "words" "[I", .fieldLink RR 39 "GuestKeeper$Page" "words" "[I", .fieldLink RP 15 "GuestKeeper$Page" "ownerNumber" "I", .fieldLink RG 47 "GuestKeeper$Page" "ownerNumber" "I", .fieldLink RK 103 "GuestKeeper$Page" "ownerNumber" "I", .fieldLink RP 19 "GuestKeeper$Page" "lentTo" "I", .fieldLink RK 86 "GuestKeeper$Page" "lentTo" "I", .fieldLink RP 22 "GuestKeeper$Page" "keptFor" "I", .fieldLink RP 25 "GuestKeeper$Page" "shared" "Z", .fieldLink RG 50 "GuestKeeper$Page" "shared" "Z", .fieldLink RK 132 "GuestKeeper$Page" "shared" "Z", .fieldLink RP 37 "GuestKeeper$Page" "mapped" "Z", .fieldLink RK 135 "GuestKeeper$Page" "mapped" "Z", .laysFinal RP "GuestKeeper$Page" "words" "[I", .lays RP "GuestKeeper$Page" "ownerNumber" "I", .lays RP "GuestKeeper$Page" "lentTo" "I", .lays RP "GuestKeeper$Page" "keptFor" "I", .lays RP "GuestKeeper$Page" "shared" "Z", .lays RP "GuestKeeper$Page" "mapped" "Z", .arrayClass .int, .classLink RK 16 RG, .fieldLink RK 11 "GuestKeeper" "pages" "[LGuestKeeper$Page;", .fieldLink RK 18 "GuestKeeper" "guests" "[LGuestKeeper$Guest;", .fieldLink RK 22 "GuestKeeper" "hostRegisters" "[I", .fieldLink RK 49 "GuestKeeper" "guestsMade" "I", .fieldLink RK 42 "GuestKeeper" "hostFaults" "I", .fieldLink RK 126 "GuestKeeper" "latestInfo" "I", .fieldLink RK 93 "GuestKeeper" "loadedGuest" "LGuestKeeper$Guest;"]
def gWd_1 : List Cond := [.fieldLink RK 106 "GuestKeeper" "loadedProcessor" "LGuestKeeper$Processor;", .laysFinal RK "GuestKeeper" "pages" "[LGuestKeeper$Page;", .laysFinal RK "GuestKeeper" "guests" "[LGuestKeeper$Guest;", .laysFinal RK "GuestKeeper" "hostRegisters" "[I", .lays RK "GuestKeeper" "guestsMade" "I", .lays RK "GuestKeeper" "hostFaults" "I", .lays RK "GuestKeeper" "latestInfo" "I", .lays RK "GuestKeeper" "loadedGuest" "LGuestKeeper$Guest;", .lays RK "GuestKeeper" "loadedProcessor" "LGuestKeeper$Processor;", .methodLink RL 13 yK_read, .instanceMethod yK_read, .selects RK yK_read yK_read, .code yK_read cK_read 3 (some .long), .methodLink RK 26 yK_isPage, .static yK_isPage, .code yK_isPage cK_isPage 1 (some .boolean), .methodLink RK 30 yK_isWord, .static yK_isWord, .code yK_isWord cK_isWord 1 (some .boolean), .methodLink RK 33 yK_hostReaches, .instanceMethod yK_hostReaches, .code yK_hostReaches cK_hostReaches 2 (some .boolean), .methodLink RK 141 yP_isOpenToHost, .instanceMethod yP_isOpenToHost, .selects RP yP_isOpenToHost yP_isOpenToHost, .code yP_isOpenToHost cP_isOpenToHost 1 (some .boolean), .constantLong RK 37 (1099511627776), .methodLink RL 18 yK_write, .instanceMethod yK_write, .selects RK yK_write yK_write, .code yK_write cK_write 4 (some .boolean), .methodLink RL 23 yK_faults, .instanceMethod yK_faults, .selects RK yK_faults yK_faults, .code yK_faults cK_faults 1 (some .int), .methodLink RL 28 yK_create, .instanceMethod yK_create, .selects RK yK_create yK_create, .code yK_create cK_create 2 (some .int), .methodLink RK 46 yK_isFreePage, .instanceMethod yK_isFreePage, .code yK_isFreePage cK_isFreePage 2 (some .boolean), .instantiable RG 6, .methodLink RK 52 yG_init, .instanceMethod yG_init, .code yG_init cG_init 3 none, .methodLink RG 3 objectInit, .classLink RG 9 RP]
def gWd_2 : List Cond := [.classLink RG 17 RR, .instantiable RR 4, .instanceMethod yR_init, .code yR_init cR_init 1 none, .methodLink RR 3 objectInit, .fieldLink RR 9 "GuestKeeper$Processor" "registers" "[I", .fieldLink RR 26 "GuestKeeper$Processor" "pc" "I", .fieldLink RR 19 "GuestKeeper$Processor" "exitInfo" "I", .fieldLink RK 123 "GuestKeeper$Processor" "exitInfo" "I", .fieldLink RR 15 "GuestKeeper$Processor" "askingRegister" "I", .laysFinal RR "GuestKeeper$Processor" "registers" "[I", .lays RR "GuestKeeper$Processor" "pc" "I", .lays RR "GuestKeeper$Processor" "exitInfo" "I", .lays RR "GuestKeeper$Processor" "askingRegister" "I", .fieldLink RG 27 "GuestKeeper$Guest" "number" "I", .fieldLink RG 11 "GuestKeeper$Guest" "places" "[LGuestKeeper$Page;", .fieldLink RK 83 "GuestKeeper$Guest" "places" "[LGuestKeeper$Page;", .fieldLink RG 19 "GuestKeeper$Guest" "processors" "[LGuestKeeper$Processor;", .fieldLink RK 110 "GuestKeeper$Guest" "processors" "[LGuestKeeper$Processor;", .fieldLink RG 23 "GuestKeeper$Guest" "alive" "Z", .fieldLink RK 97 "GuestKeeper$Guest" "alive" "Z", .fieldLink RK 73 "GuestKeeper$Guest" "everLoaded" "Z", .fieldLink RG 32 "GuestKeeper$Guest" "pagesFed" "I", .fieldLink RK 62 "GuestKeeper$Guest" "pagesFed" "I", .laysFinal RG "GuestKeeper$Guest" "number" "I", .laysFinal RG "GuestKeeper$Guest" "places" "[LGuestKeeper$Page;", .laysFinal RG "GuestKeeper$Guest" "processors" "[LGuestKeeper$Processor;", .lays RG "GuestKeeper$Guest" "alive" "Z", .lays RG "GuestKeeper$Guest" "everLoaded" "Z", .lays RG "GuestKeeper$Guest" "pagesFed" "I", .methodLink RK 55 yP_becomeKeepers, .instanceMethod yP_becomeKeepers, .selects RP yP_becomeKeepers yP_becomeKeepers, .code yP_becomeKeepers cP_becomeKeepers 2 none, .methodLink RP 40 yP_wipe, .instanceMethod yP_wipe, .selects RP yP_wipe yP_wipe, .code yP_wipe cP_wipe 2 none, .methodLink RP 43 yP_changeOwner, .instanceMethod yP_changeOwner, .selects RP yP_changeOwner yP_changeOwner, .code yP_changeOwner cP_changeOwner 2 none, .methodLink RP 29 yP_changeSharing, .instanceMethod yP_changeSharing, .selects RP yP_changeSharing yP_changeSharing, .code yP_changeSharing cP_changeSharing 2 none, .methodLink RP 33 yP_isOpenToHost, .methodLink RL 33 yK_feed]
def gWd_3 : List Cond := [.instanceMethod yK_feed, .selects RK yK_feed yK_feed, .code yK_feed cK_feed 4 (some .int), .methodLink RK 58 yK_livingGuest, .instanceMethod yK_livingGuest, .code yK_livingGuest cK_livingGuest 3 (some (.object "GuestKeeper$Guest")), .methodLink RK 65 yG_poolSize, .instanceMethod yG_poolSize, .selects RG yG_poolSize yG_poolSize, .code yG_poolSize cG_poolSize 1 (some .int), .methodLink RG 35 yG_countTables, .instanceMethod yG_countTables, .selects RG yG_countTables yG_countTables, .code yG_countTables cG_countTables 1 (some .int), .methodLink RG 39 yG_countTablesOf, .instanceMethod yG_countTablesOf, .code yG_countTablesOf cG_countTablesOf 4 (some .int), .methodLink RG 43 yG_needsTable, .instanceMethod yG_needsTable, .code yG_needsTable cG_needsTable 4 (some .boolean), .methodLink RL 38 yK_donate, .instanceMethod yK_donate, .selects RK yK_donate yK_donate, .code yK_donate cK_donate 7 (some .int), .methodLink RK 69 yK_placingRefusal, .instanceMethod yK_placingRefusal, .code yK_placingRefusal cK_placingRefusal 4 (some .int), .methodLink RK 145 yG_newTablesFor, .instanceMethod yG_newTablesFor, .selects RG yG_newTablesFor yG_newTablesFor, .code yG_newTablesFor cG_newTablesFor 4 (some .int), .methodLink RK 77 yP_wipe, .methodLink RK 80 yP_changeOwner, .methodLink RL 43 yK_lend, .instanceMethod yK_lend, .selects RK yK_lend yK_lend, .code yK_lend cK_lend 6 (some .int), .methodLink RL 47 yK_takeBack, .instanceMethod yK_takeBack, .selects RK yK_takeBack yK_takeBack, .code yK_takeBack cK_takeBack 4 (some .boolean), .methodLink RK 89 yG_removePage, .instanceMethod yG_removePage, .selects RG yG_removePage yG_removePage, .code yG_removePage cG_removePage 3 none, .methodLink RL 52 yK_destroy, .instanceMethod yK_destroy, .selects RK yK_destroy yK_destroy]
def gWd_4 : List Cond := [.code yK_destroy cK_destroy 4 (some .boolean), .methodLink RK 100 yP_loseGuest, .instanceMethod yP_loseGuest, .selects RP yP_loseGuest yP_loseGuest, .code yP_loseGuest cP_loseGuest 2 none, .methodLink RL 56 yK_reclaim, .instanceMethod yK_reclaim, .selects RK yK_reclaim yK_reclaim, .code yK_reclaim cK_reclaim 2 (some .boolean), .methodLink RL 60 yK_load, .instanceMethod yK_load, .selects RK yK_load yK_load, .code yK_load cK_load 4 (some .boolean), .methodLink RL 65 yK_put, .instanceMethod yK_put, .selects RK yK_put yK_put, .code yK_put cK_put 1 (some .boolean), .methodLink RL 70 yK_run, .instanceMethod yK_run, .selects RK yK_run yK_run, .code yK_run cK_run 4 (some .int), .methodLink RK 114 yR_receiveAnswer, .instanceMethod yR_receiveAnswer, .selects RR yR_receiveAnswer yR_receiveAnswer, .code yR_receiveAnswer cR_receiveAnswer 2 none, .methodLink RK 119 yR_makeSteps, .instanceMethod yR_makeSteps, .selects RR yR_makeSteps yR_makeSteps, .code yR_makeSteps cR_makeSteps 5 (some .int), .methodLink RR 22 yR_makeStep, .instanceMethod yR_makeStep, .code yR_makeStep cR_makeStep 3 (some .int), .methodLink RR 29 yG_pageAtAddress, .instanceMethod yG_pageAtAddress, .selects RG yG_pageAtAddress yG_pageAtAddress, .code yG_pageAtAddress cG_pageAtAddress 2 (some (.object "GuestKeeper$Page")), .methodLink RR 35 yR_faultAt, .instanceMethod yR_faultAt, .code yR_faultAt cR_faultAt 2 (some .int), .methodLink RR 44 yR_perform, .instanceMethod yR_perform, .code yR_perform cR_perform 9 (some .int), .methodLink RR 48 yR_moveWord, .instanceMethod yR_moveWord, .code yR_moveWord cR_moveWord 6 (some .int), .methodLink RR 52 yG_changeSharingAt, .instanceMethod yG_changeSharingAt, .selects RG yG_changeSharingAt yG_changeSharingAt]
def gWd_5 : List Cond := [.code yG_changeSharingAt cG_changeSharingAt 4 (some .boolean), .methodLink RG 53 yP_changeSharing, .methodLink RL 74 yK_info, .instanceMethod yK_info, .selects RK yK_info yK_info, .code yK_info cK_info 1 (some .int), .methodLink RL 78 yK_set, .instanceMethod yK_set, .selects RK yK_set yK_set, .code yK_set cK_set 3 (some .boolean), .methodLink RK 129 yK_isRegister, .static yK_isRegister, .code yK_isRegister cK_isRegister 1 (some .boolean), .methodLink RL 82 yK_register, .instanceMethod yK_register, .selects RK yK_register yK_register, .code yK_register cK_register 2 (some .int), .methodLink RL 86 yK_owner, .instanceMethod yK_owner, .selects RK yK_owner yK_owner, .code yK_owner cK_owner 2 (some .int), .methodLink RL 90 yK_state, .instanceMethod yK_state, .selects RK yK_state yK_state, .code yK_state cK_state 4 (some .int), .methodLink RL 94 yK_pool, .instanceMethod yK_pool, .selects RK yK_pool yK_pool, .code yK_pool cK_pool 3 (some .int), .methodLink RL 98 yK_tables, .instanceMethod yK_tables, .selects RK yK_tables yK_tables, .code yK_tables cK_tables 3 (some .int), .methodLink RK 138 yG_countTables, .classLink RL 10 RM, .instantiable RM 17, .methodLink RL 12 yM_init, .instanceMethod yM_init, .code yM_init cM_init 1 none, .methodLink RM 1 objectInit, .fieldLink RM 7 "GuestKeeperModel" "words" "[I", .fieldLink RM 13 "GuestKeeperModel" "whose" "[I", .fieldLink RM 16 "GuestKeeperModel" "keptFor" "[I", .fieldLink RM 19 "GuestKeeperModel" "lentTo" "[I", .fieldLink RM 22 "GuestKeeperModel" "place" "[I", .fieldLink RM 25 "GuestKeeperModel" "shared" "[Z", .fieldLink RM 29 "GuestKeeperModel" "mapped" "[Z", .fieldLink RM 58 "GuestKeeperModel" "made" "I"]
def gWd_6 : List Cond := [.fieldLink RM 32 "GuestKeeperModel" "alive" "[Z", .fieldLink RM 35 "GuestKeeperModel" "ran" "[Z", .fieldLink RM 38 "GuestKeeperModel" "registers" "[I", .fieldLink RM 41 "GuestKeeperModel" "counter" "[I", .fieldLink RM 44 "GuestKeeperModel" "waits" "[I", .fieldLink RM 47 "GuestKeeperModel" "loaded" "I", .fieldLink RM 108 "GuestKeeperModel" "info" "I", .fieldLink RM 51 "GuestKeeperModel" "own" "[I", .fieldLink RM 72 "GuestKeeperModel" "faults" "I", .laysFinal RM "GuestKeeperModel" "words" "[I", .laysFinal RM "GuestKeeperModel" "whose" "[I", .laysFinal RM "GuestKeeperModel" "keptFor" "[I", .laysFinal RM "GuestKeeperModel" "lentTo" "[I", .laysFinal RM "GuestKeeperModel" "place" "[I", .laysFinal RM "GuestKeeperModel" "shared" "[Z", .laysFinal RM "GuestKeeperModel" "mapped" "[Z", .lays RM "GuestKeeperModel" "made" "I", .laysFinal RM "GuestKeeperModel" "alive" "[Z", .laysFinal RM "GuestKeeperModel" "ran" "[Z", .laysFinal RM "GuestKeeperModel" "registers" "[I", .laysFinal RM "GuestKeeperModel" "counter" "[I", .laysFinal RM "GuestKeeperModel" "waits" "[I", .lays RM "GuestKeeperModel" "loaded" "I", .lays RM "GuestKeeperModel" "info" "I", .laysFinal RM "GuestKeeperModel" "own" "[I", .lays RM "GuestKeeperModel" "faults" "I", .arrayClass .boolean, .methodLink RL 17 yM_read, .instanceMethod yM_read, .selects RM yM_read yM_read, .code yM_read cM_read 3 (some .long), .methodLink RM 75 yM_touch, .instanceMethod yM_touch, .code yM_touch cM_touch 3 (some .boolean), .methodLink RM 54 yM_isPage, .static yM_isPage, .code yM_isPage cM_isPage 1 (some .boolean), .methodLink RM 61 yM_hostMay, .instanceMethod yM_hostMay, .code yM_hostMay cM_hostMay 2 (some .boolean), .constantLong RM 79 (1099511627776), .methodLink RL 22 yM_write, .instanceMethod yM_write, .selects RM yM_write yM_write, .code yM_write cM_write 5 (some .boolean), .methodLink RL 27 yM_faults, .instanceMethod yM_faults, .selects RM yM_faults yM_faults]
def gWd_7 : List Cond := [.code yM_faults cM_faults 1 (some .int), .methodLink RL 32 yM_create, .instanceMethod yM_create, .selects RM yM_create yM_create, .code yM_create cM_create 2 (some .int), .methodLink RM 88 yM_isFree, .instanceMethod yM_isFree, .code yM_isFree cM_isFree 2 (some .boolean), .methodLink RM 91 yM_keep, .instanceMethod yM_keep, .code yM_keep cM_keep 3 none, .methodLink RM 81 yM_wipe, .instanceMethod yM_wipe, .code yM_wipe cM_wipe 3 none, .methodLink RM 85 yM_look, .instanceMethod yM_look, .code yM_look cM_look 2 none, .methodLink RL 37 yM_feed, .instanceMethod yM_feed, .selects RM yM_feed yM_feed, .code yM_feed cM_feed 3 (some .int), .methodLink RM 95 yM_isGuest, .instanceMethod yM_isGuest, .code yM_isGuest cM_isGuest 2 (some .boolean), .methodLink RM 98 yM_rest, .instanceMethod yM_rest, .code yM_rest cM_rest 4 (some .int), .methodLink RM 68 yM_count, .instanceMethod yM_count, .code yM_count cM_count 8 (some .int), .methodLink RM 64 yM_holder, .instanceMethod yM_holder, .code yM_holder cM_holder 2 (some .int), .methodLink RL 42 yM_donate, .instanceMethod yM_donate, .selects RM yM_donate yM_donate, .code yM_donate cM_donate 5 (some .int), .methodLink RM 104 yM_refusal, .instanceMethod yM_refusal, .code yM_refusal cM_refusal 5 (some .int), .methodLink RM 101 yM_held, .instanceMethod yM_held, .code yM_held cM_held 4 (some .int), .methodLink RL 46 yM_lend, .instanceMethod yM_lend, .selects RM yM_lend yM_lend, .code yM_lend cM_lend 5 (some .int), .methodLink RL 51 yM_takeBack]
def gWd_8 : List Cond := [.instanceMethod yM_takeBack, .selects RM yM_takeBack yM_takeBack, .code yM_takeBack cM_takeBack 2 (some .boolean), .methodLink RL 55 yM_destroy, .instanceMethod yM_destroy, .selects RM yM_destroy yM_destroy, .code yM_destroy cM_destroy 3 (some .boolean), .methodLink RL 59 yM_reclaim, .instanceMethod yM_reclaim, .selects RM yM_reclaim yM_reclaim, .code yM_reclaim cM_reclaim 2 (some .boolean), .methodLink RL 64 yM_load, .instanceMethod yM_load, .selects RM yM_load yM_load, .code yM_load cM_load 3 (some .boolean), .methodLink RL 69 yM_put, .instanceMethod yM_put, .selects RM yM_put yM_put, .code yM_put cM_put 2 (some .boolean), .methodLink RL 73 yM_run, .instanceMethod yM_run, .selects RM yM_run yM_run, .code yM_run cM_run 6 (some .int), .methodLink RM 111 yM_step, .instanceMethod yM_step, .code yM_step cM_step 11 (some .int), .methodLink RM 114 yM_word, .instanceMethod yM_word, .code yM_word cM_word 4 (some .int), .methodLink RM 117 yM_turn, .instanceMethod yM_turn, .code yM_turn cM_turn 5 (some .boolean), .methodLink RL 77 yM_info, .instanceMethod yM_info, .selects RM yM_info yM_info, .code yM_info cM_info 1 (some .int), .methodLink RL 81 yM_set, .instanceMethod yM_set, .selects RM yM_set yM_set, .code yM_set cM_set 3 (some .boolean), .methodLink RL 85 yM_register, .instanceMethod yM_register, .selects RM yM_register yM_register, .code yM_register cM_register 2 (some .int), .methodLink RL 89 yM_owner, .instanceMethod yM_owner, .selects RM yM_owner yM_owner, .code yM_owner cM_owner 2 (some .int)]
def gWd_9 : List Cond := [.methodLink RL 93 yM_state, .instanceMethod yM_state, .selects RM yM_state yM_state, .code yM_state cM_state 2 (some .int), .methodLink RL 97 yM_pool, .instanceMethod yM_pool, .selects RM yM_pool yM_pool, .code yM_pool cM_pool 2 (some .int), .methodLink RL 101 yM_tables, .instanceMethod yM_tables, .selects RM yM_tables yM_tables, .code yM_tables cM_tables 2 (some .int), .selects RK yK_hostReaches yK_hostReaches, .selects RK yK_isFreePage yK_isFreePage, .selects RK yK_livingGuest yK_livingGuest, .selects RG yG_countTablesOf yG_countTablesOf, .selects RG yG_needsTable yG_needsTable, .selects RK yK_placingRefusal yK_placingRefusal, .selects RR yR_makeStep yR_makeStep, .selects RR yR_faultAt yR_faultAt, .selects RR yR_perform yR_perform, .selects RR yR_moveWord yR_moveWord, .selects RM yM_touch yM_touch, .selects RM yM_hostMay yM_hostMay, .selects RM yM_isFree yM_isFree, .selects RM yM_keep yM_keep, .selects RM yM_wipe yM_wipe, .selects RM yM_look yM_look, .selects RM yM_isGuest yM_isGuest, .selects RM yM_rest yM_rest, .selects RM yM_count yM_count, .selects RM yM_holder yM_holder, .selects RM yM_refusal yM_refusal, .selects RM yM_held yM_held, .selects RM yM_step yM_step, .selects RM yM_word yM_word, .selects RM yM_turn yM_turn]
def gWd : List Cond := gWd_0 ++ (gWd_1 ++ (gWd_2 ++ (gWd_3 ++ (gWd_4 ++ (gWd_5 ++ (gWd_6 ++ (gWd_7 ++ (gWd_8 ++ (gWd_9)))))))))
theorem gwd_0 {w : Cond} (h : w ∈ gWd_0) : w ∈ gWd := by unfold gWd; exact List.mem_append_left _ h
theorem gwd_1 {w : Cond} (h : w ∈ gWd_1) : w ∈ gWd := by unfold gWd; exact List.mem_append_right _ (List.mem_append_left _ h)
theorem gwd_2 {w : Cond} (h : w ∈ gWd_2) : w ∈ gWd := by unfold gWd; exact List.mem_append_right _ (List.mem_append_right _ (List.mem_append_left _ h))
theorem gwd_3 {w : Cond} (h : w ∈ gWd_3) : w ∈ gWd := by unfold gWd; exact List.mem_append_right _ (List.mem_append_right _ (List.mem_append_right _ (List.mem_append_left _ h)))
theorem gwd_4 {w : Cond} (h : w ∈ gWd_4) : w ∈ gWd := by unfold gWd; exact List.mem_append_right _ (List.mem_append_right _ (List.mem_append_right _ (List.mem_append_right _ (List.mem_append_left _ h))))
theorem gwd_5 {w : Cond} (h : w ∈ gWd_5) : w ∈ gWd := by unfold gWd; exact List.mem_append_right _ (List.mem_append_right _ (List.mem_append_right _ (List.mem_append_right _ (List.mem_append_right _ (List.mem_append_left _ h)))))
theorem gwd_6 {w : Cond} (h : w ∈ gWd_6) : w ∈ gWd := by unfold gWd; exact List.mem_append_right _ (List.mem_append_right _ (List.mem_append_right _ (List.mem_append_right _ (List.mem_append_right _ (List.mem_append_right _ (List.mem_append_left _ h))))))
theorem gwd_7 {w : Cond} (h : w ∈ gWd_7) : w ∈ gWd := by unfold gWd; exact List.mem_append_right _ (List.mem_append_right _ (List.mem_append_right _ (List.mem_append_right _ (List.mem_append_right _ (List.mem_append_right _ (List.mem_append_right _ (List.mem_append_left _ h)))))))
theorem gwd_8 {w : Cond} (h : w ∈ gWd_8) : w ∈ gWd := by unfold gWd; exact List.mem_append_right _ (List.mem_append_right _ (List.mem_append_right _ (List.mem_append_right _ (List.mem_append_right _ (List.mem_append_right _ (List.mem_append_right _ (List.mem_append_right _ (List.mem_append_left _ h))))))))
theorem gwd_9 {w : Cond} (h : w ∈ gWd_9) : w ∈ gWd := by unfold gWd; exact List.mem_append_right _ (List.mem_append_right _ (List.mem_append_right _ (List.mem_append_right _ (List.mem_append_right _ (List.mem_append_right _ (List.mem_append_right _ (List.mem_append_right _ (List.mem_append_right _ (h)))))))))
set_option maxRecDepth 20000 in
theorem gWd_good_0 : gWd_0.all goodWord = true := by decide +kernel
set_option maxRecDepth 20000 in
theorem gWd_good_1 : gWd_1.all goodWord = true := by decide +kernel
set_option maxRecDepth 20000 in
theorem gWd_good_2 : gWd_2.all goodWord = true := by decide +kernel
set_option maxRecDepth 20000 in
theorem gWd_good_3 : gWd_3.all goodWord = true := by decide +kernel
set_option maxRecDepth 20000 in
theorem gWd_good_4 : gWd_4.all goodWord = true := by decide +kernel
set_option maxRecDepth 20000 in
theorem gWd_good_5 : gWd_5.all goodWord = true := by decide +kernel
set_option maxRecDepth 20000 in
theorem gWd_good_6 : gWd_6.all goodWord = true := by decide +kernel
set_option maxRecDepth 20000 in
theorem gWd_good_7 : gWd_7.all goodWord = true := by decide +kernel
set_option maxRecDepth 20000 in
theorem gWd_good_8 : gWd_8.all goodWord = true := by decide +kernel
set_option maxRecDepth 20000 in
theorem gWd_good_9 : gWd_9.all goodWord = true := by decide +kernel
theorem gWd_good : ∀ w ∈ gWd, (w.onTables && w.keeps) = true ∨ ∃ ty, w = .arrayClass ty := by
  intro w hw
  unfold gWd at hw
  simp only [List.mem_append] at hw
  rcases hw with h | h | h | h | h | h | h | h | h | h
  · exact good_of_word (List.all_eq_true.mp gWd_good_0 w h)
  · exact good_of_word (List.all_eq_true.mp gWd_good_1 w h)
  · exact good_of_word (List.all_eq_true.mp gWd_good_2 w h)
  · exact good_of_word (List.all_eq_true.mp gWd_good_3 w h)
  · exact good_of_word (List.all_eq_true.mp gWd_good_4 w h)
  · exact good_of_word (List.all_eq_true.mp gWd_good_5 w h)
  · exact good_of_word (List.all_eq_true.mp gWd_good_6 w h)
  · exact good_of_word (List.all_eq_true.mp gWd_good_7 w h)
  · exact good_of_word (List.all_eq_true.mp gWd_good_8 w h)
  · exact good_of_word (List.all_eq_true.mp gWd_good_9 w h)
set_option maxRecDepth 20000 in
theorem gWd_in_0 : ∀ w ∈ gWd_0, w ∈ lw_tbl := fun w h => (goodIn_p gWd_0 (([10, 13, 19] : List Nat).map (· + (k2_sels lw_privs).length)) (by decide +kernel) (by decide +kernel) w h).1
set_option maxRecDepth 20000 in
theorem gWd_in_1 : ∀ w ∈ gWd_1, w ∈ lw_tbl := fun w h => (goodIn_p gWd_1 (([79, 82, 85, 89, 93, 98, 102, 106, 110, 114] : List Nat).map (· + (k2_sels lw_privs).length)) (by decide +kernel) (by decide +kernel) w h).1
set_option maxRecDepth 20000 in
theorem gWd_in_2 : ∀ w ∈ gWd_2, w ∈ lw_tbl := fun w h => (goodIn_p gWd_2 (([122, 164, 168, 172, 176] : List Nat).map (· + (k2_sels lw_privs).length)) (by decide +kernel) (by decide +kernel) w h).1
set_option maxRecDepth 20000 in
theorem gWd_in_3 : ∀ w ∈ gWd_3, w ∈ lw_tbl := fun w h => (goodIn_p gWd_3 (([181, 185, 189, 193, 197, 201, 205, 209, 213, 219, 223, 227] : List Nat).map (· + (k2_sels lw_privs).length)) (by decide +kernel) (by decide +kernel) w h).1
set_option maxRecDepth 20000 in
theorem gWd_in_4 : ∀ w ∈ gWd_4, w ∈ lw_tbl := fun w h => (goodIn_p gWd_4 (([231, 235, 239, 243, 247, 251, 255, 259, 263, 267, 271, 275, 279] : List Nat).map (· + (k2_sels lw_privs).length)) (by decide +kernel) (by decide +kernel) w h).1
set_option maxRecDepth 20000 in
theorem gWd_in_5 : ∀ w ∈ gWd_5, w ∈ lw_tbl := fun w h => (goodIn_p gWd_5 (([283, 288, 292, 295, 299, 303, 307, 311, 315, 321] : List Nat).map (· + (k2_sels lw_privs).length)) (by decide +kernel) (by decide +kernel) w h).1
set_option maxRecDepth 20000 in
theorem gWd_in_6 : ∀ w ∈ gWd_6, w ∈ lw_tbl := fun w h => (goodIn_p gWd_6 (([379, 383, 386, 390, 395] : List Nat).map (· + (k2_sels lw_privs).length)) (by decide +kernel) (by decide +kernel) w h).1
set_option maxRecDepth 20000 in
theorem gWd_in_7 : ∀ w ∈ gWd_7, w ∈ lw_tbl := fun w h => (goodIn_p gWd_7 (([399, 403, 407, 411, 415, 419, 423, 427, 431, 435, 439, 443, 447, 451, 455] : List Nat).map (· + (k2_sels lw_privs).length)) (by decide +kernel) (by decide +kernel) w h).1
set_option maxRecDepth 20000 in
theorem gWd_in_8 : ∀ w ∈ gWd_8, w ∈ lw_tbl := fun w h => (goodIn_p gWd_8 (([459, 463, 467, 471, 475, 479, 483, 487, 491, 495, 499, 503, 507] : List Nat).map (· + (k2_sels lw_privs).length)) (by decide +kernel) (by decide +kernel) w h).1
set_option maxRecDepth 20000 in
theorem gWd_in_9 : ∀ w ∈ gWd_9, w ∈ lw_tbl := fun w h => (goodIn_p gWd_9 (([511, 515, 519] : List Nat).map (· + (k2_sels lw_privs).length)) (by decide +kernel) (by decide +kernel) w h).1
theorem gWd_in : ∀ w ∈ gWd, w ∈ lw_tbl := by
  intro w hw
  unfold gWd at hw
  simp only [List.mem_append] at hw
  rcases hw with h | h | h | h | h | h | h | h | h | h
  · exact gWd_in_0 w h
  · exact gWd_in_1 w h
  · exact gWd_in_2 w h
  · exact gWd_in_3 w h
  · exact gWd_in_4 w h
  · exact gWd_in_5 w h
  · exact gWd_in_6 w h
  · exact gWd_in_7 w h
  · exact gWd_in_8 w h
  · exact gWd_in_9 w h
theorem inK : ∀ w ∈ u_ws RK TK 8, w ∈ gWd := by
  intro w hw
  have hw : w ∈ [.laysFinal RK "GuestKeeper" "pages" "[LGuestKeeper$Page;", .laysFinal RK "GuestKeeper" "guests" "[LGuestKeeper$Guest;", .laysFinal RK "GuestKeeper" "hostRegisters" "[I", .lays RK "GuestKeeper" "guestsMade" "I", .lays RK "GuestKeeper" "hostFaults" "I", .lays RK "GuestKeeper" "latestInfo" "I", .lays RK "GuestKeeper" "loadedGuest" "LGuestKeeper$Guest;", .lays RK "GuestKeeper" "loadedProcessor" "LGuestKeeper$Processor;"] := hw
  simp only [List.mem_cons, List.not_mem_nil, or_false] at hw
  rcases hw with rfl | rfl | rfl | rfl | rfl | rfl | rfl | rfl
  · exact (gwd_1 (List.mem_of_getElem? (i := 1) rfl))
  · exact (gwd_1 (List.mem_of_getElem? (i := 2) rfl))
  · exact (gwd_1 (List.mem_of_getElem? (i := 3) rfl))
  · exact (gwd_1 (List.mem_of_getElem? (i := 4) rfl))
  · exact (gwd_1 (List.mem_of_getElem? (i := 5) rfl))
  · exact (gwd_1 (List.mem_of_getElem? (i := 6) rfl))
  · exact (gwd_1 (List.mem_of_getElem? (i := 7) rfl))
  · exact (gwd_1 (List.mem_of_getElem? (i := 8) rfl))
theorem inP : ∀ w ∈ u_ws RP TP 6, w ∈ gWd := by
  intro w hw
  have hw : w ∈ [.laysFinal RP "GuestKeeper$Page" "words" "[I", .lays RP "GuestKeeper$Page" "ownerNumber" "I", .lays RP "GuestKeeper$Page" "lentTo" "I", .lays RP "GuestKeeper$Page" "keptFor" "I", .lays RP "GuestKeeper$Page" "shared" "Z", .lays RP "GuestKeeper$Page" "mapped" "Z"] := hw
  simp only [List.mem_cons, List.not_mem_nil, or_false] at hw
  rcases hw with rfl | rfl | rfl | rfl | rfl | rfl
  · exact (gwd_0 (List.mem_of_getElem? (i := 33) rfl))
  · exact (gwd_0 (List.mem_of_getElem? (i := 34) rfl))
  · exact (gwd_0 (List.mem_of_getElem? (i := 35) rfl))
  · exact (gwd_0 (List.mem_of_getElem? (i := 36) rfl))
  · exact (gwd_0 (List.mem_of_getElem? (i := 37) rfl))
  · exact (gwd_0 (List.mem_of_getElem? (i := 38) rfl))
theorem inG : ∀ w ∈ u_ws RG TG 6, w ∈ gWd := by
  intro w hw
  have hw : w ∈ [.laysFinal RG "GuestKeeper$Guest" "number" "I", .laysFinal RG "GuestKeeper$Guest" "places" "[LGuestKeeper$Page;", .laysFinal RG "GuestKeeper$Guest" "processors" "[LGuestKeeper$Processor;", .lays RG "GuestKeeper$Guest" "alive" "Z", .lays RG "GuestKeeper$Guest" "everLoaded" "Z", .lays RG "GuestKeeper$Guest" "pagesFed" "I"] := hw
  simp only [List.mem_cons, List.not_mem_nil, or_false] at hw
  rcases hw with rfl | rfl | rfl | rfl | rfl | rfl
  · exact (gwd_2 (List.mem_of_getElem? (i := 24) rfl))
  · exact (gwd_2 (List.mem_of_getElem? (i := 25) rfl))
  · exact (gwd_2 (List.mem_of_getElem? (i := 26) rfl))
  · exact (gwd_2 (List.mem_of_getElem? (i := 27) rfl))
  · exact (gwd_2 (List.mem_of_getElem? (i := 28) rfl))
  · exact (gwd_2 (List.mem_of_getElem? (i := 29) rfl))
theorem inR : ∀ w ∈ u_ws RR TR 4, w ∈ gWd := by
  intro w hw
  have hw : w ∈ [.laysFinal RR "GuestKeeper$Processor" "registers" "[I", .lays RR "GuestKeeper$Processor" "pc" "I", .lays RR "GuestKeeper$Processor" "exitInfo" "I", .lays RR "GuestKeeper$Processor" "askingRegister" "I"] := hw
  simp only [List.mem_cons, List.not_mem_nil, or_false] at hw
  rcases hw with rfl | rfl | rfl | rfl
  · exact (gwd_2 (List.mem_of_getElem? (i := 10) rfl))
  · exact (gwd_2 (List.mem_of_getElem? (i := 11) rfl))
  · exact (gwd_2 (List.mem_of_getElem? (i := 12) rfl))
  · exact (gwd_2 (List.mem_of_getElem? (i := 13) rfl))
theorem inM : ∀ w ∈ u_ws RM TM 17, w ∈ gWd := by
  intro w hw
  have hw : w ∈ [.laysFinal RM "GuestKeeperModel" "words" "[I", .laysFinal RM "GuestKeeperModel" "whose" "[I", .laysFinal RM "GuestKeeperModel" "keptFor" "[I", .laysFinal RM "GuestKeeperModel" "lentTo" "[I", .laysFinal RM "GuestKeeperModel" "place" "[I", .laysFinal RM "GuestKeeperModel" "shared" "[Z", .laysFinal RM "GuestKeeperModel" "mapped" "[Z", .lays RM "GuestKeeperModel" "made" "I", .laysFinal RM "GuestKeeperModel" "alive" "[Z", .laysFinal RM "GuestKeeperModel" "ran" "[Z", .laysFinal RM "GuestKeeperModel" "registers" "[I", .laysFinal RM "GuestKeeperModel" "counter" "[I", .laysFinal RM "GuestKeeperModel" "waits" "[I", .lays RM "GuestKeeperModel" "loaded" "I", .lays RM "GuestKeeperModel" "info" "I", .laysFinal RM "GuestKeeperModel" "own" "[I", .lays RM "GuestKeeperModel" "faults" "I"] := hw
  simp only [List.mem_cons, List.not_mem_nil, or_false] at hw
  rcases hw with rfl | rfl | rfl | rfl | rfl | rfl | rfl | rfl | rfl | rfl | rfl | rfl | rfl | rfl | rfl | rfl | rfl
  · exact (gwd_6 (List.mem_of_getElem? (i := 9) rfl))
  · exact (gwd_6 (List.mem_of_getElem? (i := 10) rfl))
  · exact (gwd_6 (List.mem_of_getElem? (i := 11) rfl))
  · exact (gwd_6 (List.mem_of_getElem? (i := 12) rfl))
  · exact (gwd_6 (List.mem_of_getElem? (i := 13) rfl))
  · exact (gwd_6 (List.mem_of_getElem? (i := 14) rfl))
  · exact (gwd_6 (List.mem_of_getElem? (i := 15) rfl))
  · exact (gwd_6 (List.mem_of_getElem? (i := 16) rfl))
  · exact (gwd_6 (List.mem_of_getElem? (i := 17) rfl))
  · exact (gwd_6 (List.mem_of_getElem? (i := 18) rfl))
  · exact (gwd_6 (List.mem_of_getElem? (i := 19) rfl))
  · exact (gwd_6 (List.mem_of_getElem? (i := 20) rfl))
  · exact (gwd_6 (List.mem_of_getElem? (i := 21) rfl))
  · exact (gwd_6 (List.mem_of_getElem? (i := 22) rfl))
  · exact (gwd_6 (List.mem_of_getElem? (i := 23) rfl))
  · exact (gwd_6 (List.mem_of_getElem? (i := 24) rfl))
  · exact (gwd_6 (List.mem_of_getElem? (i := 25) rfl))
theorem gd_V {own C : String} {idx : Nat} {y : MethodName} {cc : ByteArray} {n : Nat} {r : Option FieldType} (h1 : Cond.methodLink own idx y ∈ gWd) (h2 : Cond.instanceMethod y ∈ gWd) (h3 : Cond.selects C y y ∈ gWd) (h4 : Cond.initialized C ∈ gWd) (h5 : Cond.code y cc n r ∈ gWd) : GoodIn gWd (wsV own idx C y (.code y cc n r :: gWd)) := by
  intro w hw
  unfold wsV at hw
  have hm : w ∈ gWd := by
    simp only [List.mem_append, List.mem_cons, List.not_mem_nil, or_false] at hw
    rcases hw with (rfl | rfl | rfl | rfl) | rfl | h
    · exact h1
    · exact h2
    · exact h3
    · exact h4
    · exact h5
    · exact h
  exact ⟨hm, gWd_good w hm⟩
theorem gd_S {own : String} {idx : Nat} {y : MethodName} {cc : ByteArray} {n : Nat} {r : Option FieldType} (h1 : Cond.methodLink own idx y ∈ gWd) (h2 : Cond.static y ∈ gWd) (h4 : Cond.initialized own ∈ gWd) (h5 : Cond.code y cc n r ∈ gWd) : GoodIn gWd (wsS own idx y (.code y cc n r :: gWd)) := by
  intro w hw
  unfold wsS at hw
  have hm : w ∈ gWd := by
    simp only [List.mem_append, List.mem_cons, List.not_mem_nil, or_false] at hw
    rcases hw with (rfl | rfl | rfl) | rfl | h
    · exact h1
    · exact h2
    · exact h4
    · exact h5
    · exact h
  exact ⟨hm, gWd_good w hm⟩
theorem gd_C {y : MethodName} {cc : ByteArray} {n : Nat} {r : Option FieldType} (h5 : Cond.code y cc n r ∈ gWd) : GoodIn gWd (.code y cc n r :: gWd) := by
  intro w hw
  have hm : w ∈ gWd := by
    rcases List.mem_cons.mp hw with rfl | h
    · exact h5
    · exact h
  exact ⟨hm, gWd_good w hm⟩
def wK_init : List Cond := .code yK_init cK_init 2 none :: gWd
def wP_init : List Cond := .code yP_init cP_init 1 none :: gWd
def wK_read : List Cond := .code yK_read cK_read 3 (some .long) :: gWd
def wK_isPage : List Cond := .code yK_isPage cK_isPage 1 (some .boolean) :: gWd
def wK_isWord : List Cond := .code yK_isWord cK_isWord 1 (some .boolean) :: gWd
def wK_hostReaches : List Cond := .code yK_hostReaches cK_hostReaches 2 (some .boolean) :: gWd
def wP_isOpenToHost : List Cond := .code yP_isOpenToHost cP_isOpenToHost 1 (some .boolean) :: gWd
def wK_write : List Cond := .code yK_write cK_write 4 (some .boolean) :: gWd
def wK_faults : List Cond := .code yK_faults cK_faults 1 (some .int) :: gWd
def wK_create : List Cond := .code yK_create cK_create 2 (some .int) :: gWd
def wK_isFreePage : List Cond := .code yK_isFreePage cK_isFreePage 2 (some .boolean) :: gWd
def wG_init : List Cond := .code yG_init cG_init 3 none :: gWd
def wR_init : List Cond := .code yR_init cR_init 1 none :: gWd
def wP_becomeKeepers : List Cond := .code yP_becomeKeepers cP_becomeKeepers 2 none :: gWd
def wP_wipe : List Cond := .code yP_wipe cP_wipe 2 none :: gWd
def wP_changeOwner : List Cond := .code yP_changeOwner cP_changeOwner 2 none :: gWd
def wP_changeSharing : List Cond := .code yP_changeSharing cP_changeSharing 2 none :: gWd
def wK_feed : List Cond := .code yK_feed cK_feed 4 (some .int) :: gWd
def wK_livingGuest : List Cond := .code yK_livingGuest cK_livingGuest 3 (some (.object "GuestKeeper$Guest")) :: gWd
def wG_poolSize : List Cond := .code yG_poolSize cG_poolSize 1 (some .int) :: gWd
def wG_countTables : List Cond := .code yG_countTables cG_countTables 1 (some .int) :: gWd
def wG_countTablesOf : List Cond := .code yG_countTablesOf cG_countTablesOf 4 (some .int) :: gWd
def wG_needsTable : List Cond := .code yG_needsTable cG_needsTable 4 (some .boolean) :: gWd
def wK_donate : List Cond := .code yK_donate cK_donate 7 (some .int) :: gWd
def wK_placingRefusal : List Cond := .code yK_placingRefusal cK_placingRefusal 4 (some .int) :: gWd
def wG_newTablesFor : List Cond := .code yG_newTablesFor cG_newTablesFor 4 (some .int) :: gWd
def wK_lend : List Cond := .code yK_lend cK_lend 6 (some .int) :: gWd
def wK_takeBack : List Cond := .code yK_takeBack cK_takeBack 4 (some .boolean) :: gWd
def wG_removePage : List Cond := .code yG_removePage cG_removePage 3 none :: gWd
def wK_destroy : List Cond := .code yK_destroy cK_destroy 4 (some .boolean) :: gWd
def wP_loseGuest : List Cond := .code yP_loseGuest cP_loseGuest 2 none :: gWd
def wK_reclaim : List Cond := .code yK_reclaim cK_reclaim 2 (some .boolean) :: gWd
def wK_load : List Cond := .code yK_load cK_load 4 (some .boolean) :: gWd
def wK_put : List Cond := .code yK_put cK_put 1 (some .boolean) :: gWd
def wK_run : List Cond := .code yK_run cK_run 4 (some .int) :: gWd
def wR_receiveAnswer : List Cond := .code yR_receiveAnswer cR_receiveAnswer 2 none :: gWd
def wR_makeSteps : List Cond := .code yR_makeSteps cR_makeSteps 5 (some .int) :: gWd
def wR_makeStep : List Cond := .code yR_makeStep cR_makeStep 3 (some .int) :: gWd
def wG_pageAtAddress : List Cond := .code yG_pageAtAddress cG_pageAtAddress 2 (some (.object "GuestKeeper$Page")) :: gWd
def wR_faultAt : List Cond := .code yR_faultAt cR_faultAt 2 (some .int) :: gWd
def wR_perform : List Cond := .code yR_perform cR_perform 9 (some .int) :: gWd
def wR_moveWord : List Cond := .code yR_moveWord cR_moveWord 6 (some .int) :: gWd
def wG_changeSharingAt : List Cond := .code yG_changeSharingAt cG_changeSharingAt 4 (some .boolean) :: gWd
def wK_info : List Cond := .code yK_info cK_info 1 (some .int) :: gWd
def wK_set : List Cond := .code yK_set cK_set 3 (some .boolean) :: gWd
def wK_isRegister : List Cond := .code yK_isRegister cK_isRegister 1 (some .boolean) :: gWd
def wK_register : List Cond := .code yK_register cK_register 2 (some .int) :: gWd
def wK_owner : List Cond := .code yK_owner cK_owner 2 (some .int) :: gWd
def wK_state : List Cond := .code yK_state cK_state 4 (some .int) :: gWd
def wK_pool : List Cond := .code yK_pool cK_pool 3 (some .int) :: gWd
def wK_tables : List Cond := .code yK_tables cK_tables 3 (some .int) :: gWd
def wM_init : List Cond := .code yM_init cM_init 1 none :: gWd
def wM_read : List Cond := .code yM_read cM_read 3 (some .long) :: gWd
def wM_touch : List Cond := .code yM_touch cM_touch 3 (some .boolean) :: gWd
def wM_isPage : List Cond := .code yM_isPage cM_isPage 1 (some .boolean) :: gWd
def wM_hostMay : List Cond := .code yM_hostMay cM_hostMay 2 (some .boolean) :: gWd
def wM_write : List Cond := .code yM_write cM_write 5 (some .boolean) :: gWd
def wM_faults : List Cond := .code yM_faults cM_faults 1 (some .int) :: gWd
def wM_create : List Cond := .code yM_create cM_create 2 (some .int) :: gWd
def wM_isFree : List Cond := .code yM_isFree cM_isFree 2 (some .boolean) :: gWd
def wM_keep : List Cond := .code yM_keep cM_keep 3 none :: gWd
def wM_wipe : List Cond := .code yM_wipe cM_wipe 3 none :: gWd
def wM_look : List Cond := .code yM_look cM_look 2 none :: gWd
def wM_feed : List Cond := .code yM_feed cM_feed 3 (some .int) :: gWd
def wM_isGuest : List Cond := .code yM_isGuest cM_isGuest 2 (some .boolean) :: gWd
def wM_rest : List Cond := .code yM_rest cM_rest 4 (some .int) :: gWd
def wM_count : List Cond := .code yM_count cM_count 8 (some .int) :: gWd
def wM_holder : List Cond := .code yM_holder cM_holder 2 (some .int) :: gWd
def wM_donate : List Cond := .code yM_donate cM_donate 5 (some .int) :: gWd
def wM_refusal : List Cond := .code yM_refusal cM_refusal 5 (some .int) :: gWd
def wM_held : List Cond := .code yM_held cM_held 4 (some .int) :: gWd
def wM_lend : List Cond := .code yM_lend cM_lend 5 (some .int) :: gWd
def wM_takeBack : List Cond := .code yM_takeBack cM_takeBack 2 (some .boolean) :: gWd
def wM_destroy : List Cond := .code yM_destroy cM_destroy 3 (some .boolean) :: gWd
def wM_reclaim : List Cond := .code yM_reclaim cM_reclaim 2 (some .boolean) :: gWd
def wM_load : List Cond := .code yM_load cM_load 3 (some .boolean) :: gWd
def wM_put : List Cond := .code yM_put cM_put 2 (some .boolean) :: gWd
def wM_run : List Cond := .code yM_run cM_run 6 (some .int) :: gWd
def wM_step : List Cond := .code yM_step cM_step 11 (some .int) :: gWd
def wM_word : List Cond := .code yM_word cM_word 4 (some .int) :: gWd
def wM_turn : List Cond := .code yM_turn cM_turn 5 (some .boolean) :: gWd
def wM_info : List Cond := .code yM_info cM_info 1 (some .int) :: gWd
def wM_set : List Cond := .code yM_set cM_set 3 (some .boolean) :: gWd
def wM_register : List Cond := .code yM_register cM_register 2 (some .int) :: gWd
def wM_owner : List Cond := .code yM_owner cM_owner 2 (some .int) :: gWd
def wM_state : List Cond := .code yM_state cM_state 2 (some .int) :: gWd
def wM_pool : List Cond := .code yM_pool cM_pool 2 (some .int) :: gWd
def wM_tables : List Cond := .code yM_tables cM_tables 2 (some .int) :: gWd
