section
-- ===== PART A: goes FIRST, ahead of the names: the tables' words, and 'selects' of the private methods out of them =====
/-- a private method of a class that the tables say can be made, by its rows of tables_1 -/
def lw_okq (q : MethodName × Nat) : Prop := (q.1.cls ≠ "java/lang/invoke/MethodHandle" ∧ q.1.cls ≠ "java/lang/invoke/VarHandle") ∧ Cond.instantiable q.1.cls q.2 ∈ tables_1 ∧ Cond.privateMethod q.1 ∈ tables_1 ∧ Cond.instanceMethod q.1 ∈ tables_1
theorem lw_p0 : lw_okq (⟨"GuestKeeper", "hostReaches", "(LGuestKeeper$Page;)Z"⟩, 8) := ⟨⟨by decide +kernel, by decide +kernel⟩, List.mem_of_getElem? (i := 7) (by decide +kernel), List.mem_of_getElem? (i := 87) (by decide +kernel), List.mem_of_getElem? (i := 88) (by decide +kernel)⟩
theorem lw_p1 : lw_okq (⟨"GuestKeeper", "isFreePage", "(I)Z"⟩, 8) := ⟨⟨by decide +kernel, by decide +kernel⟩, List.mem_of_getElem? (i := 7) (by decide +kernel), List.mem_of_getElem? (i := 108) (by decide +kernel), List.mem_of_getElem? (i := 109) (by decide +kernel)⟩
theorem lw_p2 : lw_okq (⟨"GuestKeeper", "livingGuest", "(I)LGuestKeeper$Guest;"⟩, 8) := ⟨⟨by decide +kernel, by decide +kernel⟩, List.mem_of_getElem? (i := 7) (by decide +kernel), List.mem_of_getElem? (i := 183) (by decide +kernel), List.mem_of_getElem? (i := 184) (by decide +kernel)⟩
theorem lw_p3 : lw_okq (⟨"GuestKeeper$Guest", "countTablesOf", "(I)I"⟩, 6) := ⟨⟨by decide +kernel, by decide +kernel⟩, List.mem_of_getElem? (i := 111) (by decide +kernel), List.mem_of_getElem? (i := 195) (by decide +kernel), List.mem_of_getElem? (i := 196) (by decide +kernel)⟩
theorem lw_p4 : lw_okq (⟨"GuestKeeper$Guest", "needsTable", "(II)Z"⟩, 6) := ⟨⟨by decide +kernel, by decide +kernel⟩, List.mem_of_getElem? (i := 111) (by decide +kernel), List.mem_of_getElem? (i := 199) (by decide +kernel), List.mem_of_getElem? (i := 200) (by decide +kernel)⟩
theorem lw_p5 : lw_okq (⟨"GuestKeeper", "placingRefusal", "(LGuestKeeper$Guest;II)I"⟩, 8) := ⟨⟨by decide +kernel, by decide +kernel⟩, List.mem_of_getElem? (i := 7) (by decide +kernel), List.mem_of_getElem? (i := 207) (by decide +kernel), List.mem_of_getElem? (i := 208) (by decide +kernel)⟩
theorem lw_p6 : lw_okq (⟨"GuestKeeper$Processor", "makeStep", "(LGuestKeeper$Guest;)I"⟩, 4) := ⟨⟨by decide +kernel, by decide +kernel⟩, List.mem_of_getElem? (i := 119) (by decide +kernel), List.mem_of_getElem? (i := 261) (by decide +kernel), List.mem_of_getElem? (i := 262) (by decide +kernel)⟩
theorem lw_p7 : lw_okq (⟨"GuestKeeper$Processor", "faultAt", "(I)I"⟩, 4) := ⟨⟨by decide +kernel, by decide +kernel⟩, List.mem_of_getElem? (i := 119) (by decide +kernel), List.mem_of_getElem? (i := 269) (by decide +kernel), List.mem_of_getElem? (i := 270) (by decide +kernel)⟩
theorem lw_p8 : lw_okq (⟨"GuestKeeper$Processor", "perform", "(ILGuestKeeper$Guest;)I"⟩, 4) := ⟨⟨by decide +kernel, by decide +kernel⟩, List.mem_of_getElem? (i := 119) (by decide +kernel), List.mem_of_getElem? (i := 273) (by decide +kernel), List.mem_of_getElem? (i := 274) (by decide +kernel)⟩
theorem lw_p9 : lw_okq (⟨"GuestKeeper$Processor", "moveWord", "(ZIILGuestKeeper$Guest;)I"⟩, 4) := ⟨⟨by decide +kernel, by decide +kernel⟩, List.mem_of_getElem? (i := 119) (by decide +kernel), List.mem_of_getElem? (i := 277) (by decide +kernel), List.mem_of_getElem? (i := 278) (by decide +kernel)⟩
theorem lw_p10 : lw_okq (⟨"GuestKeeperModel", "touch", "(II)Z"⟩, 17) := ⟨⟨by decide +kernel, by decide +kernel⟩, List.mem_of_getElem? (i := 318) (by decide +kernel), List.mem_of_getElem? (i := 381) (by decide +kernel), List.mem_of_getElem? (i := 382) (by decide +kernel)⟩
theorem lw_p11 : lw_okq (⟨"GuestKeeperModel", "hostMay", "(I)Z"⟩, 17) := ⟨⟨by decide +kernel, by decide +kernel⟩, List.mem_of_getElem? (i := 318) (by decide +kernel), List.mem_of_getElem? (i := 388) (by decide +kernel), List.mem_of_getElem? (i := 389) (by decide +kernel)⟩
theorem lw_p12 : lw_okq (⟨"GuestKeeperModel", "isFree", "(I)Z"⟩, 17) := ⟨⟨by decide +kernel, by decide +kernel⟩, List.mem_of_getElem? (i := 318) (by decide +kernel), List.mem_of_getElem? (i := 405) (by decide +kernel), List.mem_of_getElem? (i := 406) (by decide +kernel)⟩
theorem lw_p13 : lw_okq (⟨"GuestKeeperModel", "keep", "(II)V"⟩, 17) := ⟨⟨by decide +kernel, by decide +kernel⟩, List.mem_of_getElem? (i := 318) (by decide +kernel), List.mem_of_getElem? (i := 409) (by decide +kernel), List.mem_of_getElem? (i := 410) (by decide +kernel)⟩
theorem lw_p14 : lw_okq (⟨"GuestKeeperModel", "wipe", "(I)V"⟩, 17) := ⟨⟨by decide +kernel, by decide +kernel⟩, List.mem_of_getElem? (i := 318) (by decide +kernel), List.mem_of_getElem? (i := 413) (by decide +kernel), List.mem_of_getElem? (i := 414) (by decide +kernel)⟩
theorem lw_p15 : lw_okq (⟨"GuestKeeperModel", "look", "(I)V"⟩, 17) := ⟨⟨by decide +kernel, by decide +kernel⟩, List.mem_of_getElem? (i := 318) (by decide +kernel), List.mem_of_getElem? (i := 417) (by decide +kernel), List.mem_of_getElem? (i := 418) (by decide +kernel)⟩
def lw_privs_1 : List (MethodName × Nat) := [(⟨"GuestKeeper", "hostReaches", "(LGuestKeeper$Page;)Z"⟩, 8), (⟨"GuestKeeper", "isFreePage", "(I)Z"⟩, 8), (⟨"GuestKeeper", "livingGuest", "(I)LGuestKeeper$Guest;"⟩, 8), (⟨"GuestKeeper$Guest", "countTablesOf", "(I)I"⟩, 6), (⟨"GuestKeeper$Guest", "needsTable", "(II)Z"⟩, 6), (⟨"GuestKeeper", "placingRefusal", "(LGuestKeeper$Guest;II)I"⟩, 8), (⟨"GuestKeeper$Processor", "makeStep", "(LGuestKeeper$Guest;)I"⟩, 4), (⟨"GuestKeeper$Processor", "faultAt", "(I)I"⟩, 4), (⟨"GuestKeeper$Processor", "perform", "(ILGuestKeeper$Guest;)I"⟩, 4), (⟨"GuestKeeper$Processor", "moveWord", "(ZIILGuestKeeper$Guest;)I"⟩, 4), (⟨"GuestKeeperModel", "touch", "(II)Z"⟩, 17), (⟨"GuestKeeperModel", "hostMay", "(I)Z"⟩, 17), (⟨"GuestKeeperModel", "isFree", "(I)Z"⟩, 17), (⟨"GuestKeeperModel", "keep", "(II)V"⟩, 17), (⟨"GuestKeeperModel", "wipe", "(I)V"⟩, 17), (⟨"GuestKeeperModel", "look", "(I)V"⟩, 17)]
theorem lw_r1 : ∀ q ∈ lw_privs_1, lw_okq q := List.forall_mem_cons.mpr ⟨lw_p0, List.forall_mem_cons.mpr ⟨lw_p1, List.forall_mem_cons.mpr ⟨lw_p2, List.forall_mem_cons.mpr ⟨lw_p3, List.forall_mem_cons.mpr ⟨lw_p4, List.forall_mem_cons.mpr ⟨lw_p5, List.forall_mem_cons.mpr ⟨lw_p6, List.forall_mem_cons.mpr ⟨lw_p7, List.forall_mem_cons.mpr ⟨lw_p8, List.forall_mem_cons.mpr ⟨lw_p9, List.forall_mem_cons.mpr ⟨lw_p10, List.forall_mem_cons.mpr ⟨lw_p11, List.forall_mem_cons.mpr ⟨lw_p12, List.forall_mem_cons.mpr ⟨lw_p13, List.forall_mem_cons.mpr ⟨lw_p14, List.forall_mem_cons.mpr ⟨lw_p15, fun _ h => absurd h List.not_mem_nil⟩⟩⟩⟩⟩⟩⟩⟩⟩⟩⟩⟩⟩⟩⟩⟩
theorem lw_p16 : lw_okq (⟨"GuestKeeperModel", "isGuest", "(I)Z"⟩, 17) := ⟨⟨by decide +kernel, by decide +kernel⟩, List.mem_of_getElem? (i := 318) (by decide +kernel), List.mem_of_getElem? (i := 425) (by decide +kernel), List.mem_of_getElem? (i := 426) (by decide +kernel)⟩
theorem lw_p17 : lw_okq (⟨"GuestKeeperModel", "rest", "(I)I"⟩, 17) := ⟨⟨by decide +kernel, by decide +kernel⟩, List.mem_of_getElem? (i := 318) (by decide +kernel), List.mem_of_getElem? (i := 429) (by decide +kernel), List.mem_of_getElem? (i := 430) (by decide +kernel)⟩
theorem lw_p18 : lw_okq (⟨"GuestKeeperModel", "count", "(II)I"⟩, 17) := ⟨⟨by decide +kernel, by decide +kernel⟩, List.mem_of_getElem? (i := 318) (by decide +kernel), List.mem_of_getElem? (i := 433) (by decide +kernel), List.mem_of_getElem? (i := 434) (by decide +kernel)⟩
theorem lw_p19 : lw_okq (⟨"GuestKeeperModel", "holder", "(I)I"⟩, 17) := ⟨⟨by decide +kernel, by decide +kernel⟩, List.mem_of_getElem? (i := 318) (by decide +kernel), List.mem_of_getElem? (i := 437) (by decide +kernel), List.mem_of_getElem? (i := 438) (by decide +kernel)⟩
theorem lw_p20 : lw_okq (⟨"GuestKeeperModel", "refusal", "(III)I"⟩, 17) := ⟨⟨by decide +kernel, by decide +kernel⟩, List.mem_of_getElem? (i := 318) (by decide +kernel), List.mem_of_getElem? (i := 445) (by decide +kernel), List.mem_of_getElem? (i := 446) (by decide +kernel)⟩
theorem lw_p21 : lw_okq (⟨"GuestKeeperModel", "held", "(II)I"⟩, 17) := ⟨⟨by decide +kernel, by decide +kernel⟩, List.mem_of_getElem? (i := 318) (by decide +kernel), List.mem_of_getElem? (i := 449) (by decide +kernel), List.mem_of_getElem? (i := 450) (by decide +kernel)⟩
theorem lw_p22 : lw_okq (⟨"GuestKeeperModel", "step", "(I)I"⟩, 17) := ⟨⟨by decide +kernel, by decide +kernel⟩, List.mem_of_getElem? (i := 318) (by decide +kernel), List.mem_of_getElem? (i := 481) (by decide +kernel), List.mem_of_getElem? (i := 482) (by decide +kernel)⟩
theorem lw_p23 : lw_okq (⟨"GuestKeeperModel", "word", "(II)I"⟩, 17) := ⟨⟨by decide +kernel, by decide +kernel⟩, List.mem_of_getElem? (i := 318) (by decide +kernel), List.mem_of_getElem? (i := 485) (by decide +kernel), List.mem_of_getElem? (i := 486) (by decide +kernel)⟩
theorem lw_p24 : lw_okq (⟨"GuestKeeperModel", "turn", "(IIZ)Z"⟩, 17) := ⟨⟨by decide +kernel, by decide +kernel⟩, List.mem_of_getElem? (i := 318) (by decide +kernel), List.mem_of_getElem? (i := 489) (by decide +kernel), List.mem_of_getElem? (i := 490) (by decide +kernel)⟩
def lw_privs_2 : List (MethodName × Nat) := [(⟨"GuestKeeperModel", "isGuest", "(I)Z"⟩, 17), (⟨"GuestKeeperModel", "rest", "(I)I"⟩, 17), (⟨"GuestKeeperModel", "count", "(II)I"⟩, 17), (⟨"GuestKeeperModel", "holder", "(I)I"⟩, 17), (⟨"GuestKeeperModel", "refusal", "(III)I"⟩, 17), (⟨"GuestKeeperModel", "held", "(II)I"⟩, 17), (⟨"GuestKeeperModel", "step", "(I)I"⟩, 17), (⟨"GuestKeeperModel", "word", "(II)I"⟩, 17), (⟨"GuestKeeperModel", "turn", "(IIZ)Z"⟩, 17)]
theorem lw_r2 : ∀ q ∈ lw_privs_2, lw_okq q := List.forall_mem_cons.mpr ⟨lw_p16, List.forall_mem_cons.mpr ⟨lw_p17, List.forall_mem_cons.mpr ⟨lw_p18, List.forall_mem_cons.mpr ⟨lw_p19, List.forall_mem_cons.mpr ⟨lw_p20, List.forall_mem_cons.mpr ⟨lw_p21, List.forall_mem_cons.mpr ⟨lw_p22, List.forall_mem_cons.mpr ⟨lw_p23, List.forall_mem_cons.mpr ⟨lw_p24, fun _ h => absurd h List.not_mem_nil⟩⟩⟩⟩⟩⟩⟩⟩⟩
def lw_privs : List (MethodName × Nat) := lw_privs_1 ++ (lw_privs_2)
def lw_tbl : List Cond := k2_sels lw_privs ++ tables_1
theorem lw_privs_ok : ∀ q ∈ lw_privs, lw_okq q := by
  show ∀ q ∈ lw_privs_1 ++ (lw_privs_2), lw_okq q
  exact List.forall_mem_append.mpr ⟨lw_r1, lw_r2⟩
end
section
def RK : String := "GuestKeeper"
def RP : String := "GuestKeeper$Page"
def RG : String := "GuestKeeper$Guest"
def RR : String := "GuestKeeper$Processor"
def RM : String := "GuestKeeperModel"
def RL : String := "GuestKeeperLaw"
def TK : u_T := fun k => match k with
  | 0 => ("GuestKeeper", "pages", "[LGuestKeeper$Page;", true)
  | 1 => ("GuestKeeper", "guests", "[LGuestKeeper$Guest;", true)
  | 2 => ("GuestKeeper", "hostRegisters", "[I", true)
  | 3 => ("GuestKeeper", "guestsMade", "I", false)
  | 4 => ("GuestKeeper", "hostFaults", "I", false)
  | 5 => ("GuestKeeper", "latestInfo", "I", false)
  | 6 => ("GuestKeeper", "loadedGuest", "LGuestKeeper$Guest;", false)
  | _ => ("GuestKeeper", "loadedProcessor", "LGuestKeeper$Processor;", false)
def tyK : Nat → FieldType := fun k => match k with
  | 0 => .array (.object "GuestKeeper$Page")
  | 1 => .array (.object "GuestKeeper$Guest")
  | 2 => .array .int
  | 3 => .int
  | 4 => .int
  | 5 => .int
  | 6 => .object "GuestKeeper$Guest"
  | _ => .object "GuestKeeper$Processor"
theorem nK : ∀ a, a < 8 → ∀ b, b < 8 → a ≠ b → (TK a).2.1 ≠ (TK b).2.1 := by decide +kernel
theorem tyK_ok : ∀ k, k < 8 → parseFieldDescriptor (TK k).2.2.1 = some (tyK k) := by decide +kernel
def TP : u_T := fun k => match k with
  | 0 => ("GuestKeeper$Page", "words", "[I", true)
  | 1 => ("GuestKeeper$Page", "ownerNumber", "I", false)
  | 2 => ("GuestKeeper$Page", "lentTo", "I", false)
  | 3 => ("GuestKeeper$Page", "keptFor", "I", false)
  | 4 => ("GuestKeeper$Page", "shared", "Z", false)
  | _ => ("GuestKeeper$Page", "mapped", "Z", false)
def tyP : Nat → FieldType := fun k => match k with
  | 0 => .array .int
  | 1 => .int
  | 2 => .int
  | 3 => .int
  | 4 => .boolean
  | _ => .boolean
theorem nP : ∀ a, a < 6 → ∀ b, b < 6 → a ≠ b → (TP a).2.1 ≠ (TP b).2.1 := by decide +kernel
theorem tyP_ok : ∀ k, k < 6 → parseFieldDescriptor (TP k).2.2.1 = some (tyP k) := by decide +kernel
def TG : u_T := fun k => match k with
  | 0 => ("GuestKeeper$Guest", "number", "I", true)
  | 1 => ("GuestKeeper$Guest", "places", "[LGuestKeeper$Page;", true)
  | 2 => ("GuestKeeper$Guest", "processors", "[LGuestKeeper$Processor;", true)
  | 3 => ("GuestKeeper$Guest", "alive", "Z", false)
  | 4 => ("GuestKeeper$Guest", "everLoaded", "Z", false)
  | _ => ("GuestKeeper$Guest", "pagesFed", "I", false)
def tyG : Nat → FieldType := fun k => match k with
  | 0 => .int
  | 1 => .array (.object "GuestKeeper$Page")
  | 2 => .array (.object "GuestKeeper$Processor")
  | 3 => .boolean
  | 4 => .boolean
  | _ => .int
theorem nG : ∀ a, a < 6 → ∀ b, b < 6 → a ≠ b → (TG a).2.1 ≠ (TG b).2.1 := by decide +kernel
theorem tyG_ok : ∀ k, k < 6 → parseFieldDescriptor (TG k).2.2.1 = some (tyG k) := by decide +kernel
def TR : u_T := fun k => match k with
  | 0 => ("GuestKeeper$Processor", "registers", "[I", true)
  | 1 => ("GuestKeeper$Processor", "pc", "I", false)
  | 2 => ("GuestKeeper$Processor", "exitInfo", "I", false)
  | _ => ("GuestKeeper$Processor", "askingRegister", "I", false)
def tyR : Nat → FieldType := fun k => match k with
  | 0 => .array .int
  | 1 => .int
  | 2 => .int
  | _ => .int
theorem nR : ∀ a, a < 4 → ∀ b, b < 4 → a ≠ b → (TR a).2.1 ≠ (TR b).2.1 := by decide +kernel
theorem tyR_ok : ∀ k, k < 4 → parseFieldDescriptor (TR k).2.2.1 = some (tyR k) := by decide +kernel
def TM : u_T := fun k => match k with
  | 0 => ("GuestKeeperModel", "words", "[I", true)
  | 1 => ("GuestKeeperModel", "whose", "[I", true)
  | 2 => ("GuestKeeperModel", "keptFor", "[I", true)
  | 3 => ("GuestKeeperModel", "lentTo", "[I", true)
  | 4 => ("GuestKeeperModel", "place", "[I", true)
  | 5 => ("GuestKeeperModel", "shared", "[Z", true)
  | 6 => ("GuestKeeperModel", "mapped", "[Z", true)
  | 7 => ("GuestKeeperModel", "made", "I", false)
  | 8 => ("GuestKeeperModel", "alive", "[Z", true)
  | 9 => ("GuestKeeperModel", "ran", "[Z", true)
  | 10 => ("GuestKeeperModel", "registers", "[I", true)
  | 11 => ("GuestKeeperModel", "counter", "[I", true)
  | 12 => ("GuestKeeperModel", "waits", "[I", true)
  | 13 => ("GuestKeeperModel", "loaded", "I", false)
  | 14 => ("GuestKeeperModel", "info", "I", false)
  | 15 => ("GuestKeeperModel", "own", "[I", true)
  | _ => ("GuestKeeperModel", "faults", "I", false)
def tyM : Nat → FieldType := fun k => match k with
  | 0 => .array .int
  | 1 => .array .int
  | 2 => .array .int
  | 3 => .array .int
  | 4 => .array .int
  | 5 => .array .boolean
  | 6 => .array .boolean
  | 7 => .int
  | 8 => .array .boolean
  | 9 => .array .boolean
  | 10 => .array .int
  | 11 => .array .int
  | 12 => .array .int
  | 13 => .int
  | 14 => .int
  | 15 => .array .int
  | _ => .int
theorem nM : ∀ a, a < 17 → ∀ b, b < 17 → a ≠ b → (TM a).2.1 ≠ (TM b).2.1 := by decide +kernel
theorem tyM_ok : ∀ k, k < 17 → parseFieldDescriptor (TM k).2.2.1 = some (tyM k) := by decide +kernel
abbrev vwCl : List vw_C := [(RK, TK, 8), (RP, TP, 6), (RG, TG, 6), (RR, TR, 4), (RM, TM, 17)]
abbrev cK_init : ByteArray := prog_1_method_1_code
def yK_init : MethodName := ⟨RK, "<init>", "()V"⟩
abbrev cP_init : ByteArray := prog_3_method_1_code
def yP_init : MethodName := ⟨RP, "<init>", "()V"⟩
abbrev cK_read : ByteArray := prog_1_method_2_code
def yK_read : MethodName := ⟨RK, "read", "(II)J"⟩
abbrev cK_isPage : ByteArray := prog_1_method_22_code
def yK_isPage : MethodName := ⟨RK, "isPage", "(I)Z"⟩
abbrev cK_isWord : ByteArray := prog_1_method_23_code
def yK_isWord : MethodName := ⟨RK, "isWord", "(I)Z"⟩
abbrev cK_hostReaches : ByteArray := prog_1_method_27_code
def yK_hostReaches : MethodName := ⟨RK, "hostReaches", "(LGuestKeeper$Page;)Z"⟩
abbrev cP_isOpenToHost : ByteArray := prog_3_method_3_code
def yP_isOpenToHost : MethodName := ⟨RP, "isOpenToHost", "()Z"⟩
abbrev cK_write : ByteArray := prog_1_method_3_code
def yK_write : MethodName := ⟨RK, "write", "(III)Z"⟩
abbrev cK_faults : ByteArray := prog_1_method_4_code
def yK_faults : MethodName := ⟨RK, "faults", "()I"⟩
abbrev cK_create : ByteArray := prog_1_method_5_code
def yK_create : MethodName := ⟨RK, "create", "(I)I"⟩
abbrev cK_isFreePage : ByteArray := prog_1_method_25_code
def yK_isFreePage : MethodName := ⟨RK, "isFreePage", "(I)Z"⟩
abbrev cG_init : ByteArray := prog_2_method_1_code
def yG_init : MethodName := ⟨RG, "<init>", "(I)V"⟩
abbrev cR_init : ByteArray := prog_4_method_1_code
def yR_init : MethodName := ⟨RR, "<init>", "()V"⟩
abbrev cP_becomeKeepers : ByteArray := prog_3_method_6_code
def yP_becomeKeepers : MethodName := ⟨RP, "becomeKeepers", "(I)V"⟩
abbrev cP_wipe : ByteArray := prog_3_method_2_code
def yP_wipe : MethodName := ⟨RP, "wipe", "()V"⟩
abbrev cP_changeOwner : ByteArray := prog_3_method_4_code
def yP_changeOwner : MethodName := ⟨RP, "changeOwner", "(I)V"⟩
abbrev cP_changeSharing : ByteArray := prog_3_method_5_code
def yP_changeSharing : MethodName := ⟨RP, "changeSharing", "(Z)V"⟩
abbrev cK_feed : ByteArray := prog_1_method_6_code
def yK_feed : MethodName := ⟨RK, "feed", "(II)I"⟩
abbrev cK_livingGuest : ByteArray := prog_1_method_26_code
def yK_livingGuest : MethodName := ⟨RK, "livingGuest", "(I)LGuestKeeper$Guest;"⟩
abbrev cG_poolSize : ByteArray := prog_2_method_4_code
def yG_poolSize : MethodName := ⟨RG, "poolSize", "()I"⟩
abbrev cG_countTables : ByteArray := prog_2_method_5_code
def yG_countTables : MethodName := ⟨RG, "countTables", "()I"⟩
abbrev cG_countTablesOf : ByteArray := prog_2_method_8_code
def yG_countTablesOf : MethodName := ⟨RG, "countTablesOf", "(I)I"⟩
abbrev cG_needsTable : ByteArray := prog_2_method_9_code
def yG_needsTable : MethodName := ⟨RG, "needsTable", "(II)Z"⟩
abbrev cK_donate : ByteArray := prog_1_method_7_code
def yK_donate : MethodName := ⟨RK, "donate", "(III)I"⟩
abbrev cK_placingRefusal : ByteArray := prog_1_method_28_code
def yK_placingRefusal : MethodName := ⟨RK, "placingRefusal", "(LGuestKeeper$Guest;II)I"⟩
abbrev cG_newTablesFor : ByteArray := prog_2_method_6_code
def yG_newTablesFor : MethodName := ⟨RG, "newTablesFor", "(I)I"⟩
abbrev cK_lend : ByteArray := prog_1_method_8_code
def yK_lend : MethodName := ⟨RK, "lend", "(III)I"⟩
abbrev cK_takeBack : ByteArray := prog_1_method_9_code
def yK_takeBack : MethodName := ⟨RK, "takeBack", "(I)Z"⟩
abbrev cG_removePage : ByteArray := prog_2_method_3_code
def yG_removePage : MethodName := ⟨RG, "removePage", "(LGuestKeeper$Page;)V"⟩
abbrev cK_destroy : ByteArray := prog_1_method_10_code
def yK_destroy : MethodName := ⟨RK, "destroy", "(I)Z"⟩
abbrev cP_loseGuest : ByteArray := prog_3_method_7_code
def yP_loseGuest : MethodName := ⟨RP, "loseGuest", "(I)V"⟩
abbrev cK_reclaim : ByteArray := prog_1_method_11_code
def yK_reclaim : MethodName := ⟨RK, "reclaim", "(I)Z"⟩
abbrev cK_load : ByteArray := prog_1_method_12_code
def yK_load : MethodName := ⟨RK, "load", "(II)Z"⟩
abbrev cK_put : ByteArray := prog_1_method_13_code
def yK_put : MethodName := ⟨RK, "put", "()Z"⟩
abbrev cK_run : ByteArray := prog_1_method_14_code
def yK_run : MethodName := ⟨RK, "run", "(II)I"⟩
abbrev cR_receiveAnswer : ByteArray := prog_4_method_2_code
def yR_receiveAnswer : MethodName := ⟨RR, "receiveAnswer", "(I)V"⟩
abbrev cR_makeSteps : ByteArray := prog_4_method_3_code
def yR_makeSteps : MethodName := ⟨RR, "makeSteps", "(ILGuestKeeper$Guest;)I"⟩
abbrev cR_makeStep : ByteArray := prog_4_method_4_code
def yR_makeStep : MethodName := ⟨RR, "makeStep", "(LGuestKeeper$Guest;)I"⟩
abbrev cG_pageAtAddress : ByteArray := prog_2_method_2_code
def yG_pageAtAddress : MethodName := ⟨RG, "pageAtAddress", "(I)LGuestKeeper$Page;"⟩
abbrev cR_faultAt : ByteArray := prog_4_method_7_code
def yR_faultAt : MethodName := ⟨RR, "faultAt", "(I)I"⟩
abbrev cR_perform : ByteArray := prog_4_method_5_code
def yR_perform : MethodName := ⟨RR, "perform", "(ILGuestKeeper$Guest;)I"⟩
abbrev cR_moveWord : ByteArray := prog_4_method_6_code
def yR_moveWord : MethodName := ⟨RR, "moveWord", "(ZIILGuestKeeper$Guest;)I"⟩
abbrev cG_changeSharingAt : ByteArray := prog_2_method_7_code
def yG_changeSharingAt : MethodName := ⟨RG, "changeSharingAt", "(IZ)Z"⟩
abbrev cK_info : ByteArray := prog_1_method_15_code
def yK_info : MethodName := ⟨RK, "info", "()I"⟩
abbrev cK_set : ByteArray := prog_1_method_16_code
def yK_set : MethodName := ⟨RK, "set", "(II)Z"⟩
abbrev cK_isRegister : ByteArray := prog_1_method_24_code
def yK_isRegister : MethodName := ⟨RK, "isRegister", "(I)Z"⟩
abbrev cK_register : ByteArray := prog_1_method_17_code
def yK_register : MethodName := ⟨RK, "register", "(I)I"⟩
abbrev cK_owner : ByteArray := prog_1_method_18_code
def yK_owner : MethodName := ⟨RK, "owner", "(I)I"⟩
abbrev cK_state : ByteArray := prog_1_method_19_code
def yK_state : MethodName := ⟨RK, "state", "(I)I"⟩
abbrev cK_pool : ByteArray := prog_1_method_20_code
def yK_pool : MethodName := ⟨RK, "pool", "(I)I"⟩
abbrev cK_tables : ByteArray := prog_1_method_21_code
def yK_tables : MethodName := ⟨RK, "tables", "(I)I"⟩
abbrev cM_init : ByteArray := prog_6_method_1_code
def yM_init : MethodName := ⟨RM, "<init>", "()V"⟩
abbrev cM_read : ByteArray := prog_6_method_13_code
def yM_read : MethodName := ⟨RM, "read", "(II)J"⟩
abbrev cM_touch : ByteArray := prog_6_method_12_code
def yM_touch : MethodName := ⟨RM, "touch", "(II)Z"⟩
abbrev cM_isPage : ByteArray := prog_6_method_2_code
def yM_isPage : MethodName := ⟨RM, "isPage", "(I)Z"⟩
abbrev cM_hostMay : ByteArray := prog_6_method_5_code
def yM_hostMay : MethodName := ⟨RM, "hostMay", "(I)Z"⟩
abbrev cM_write : ByteArray := prog_6_method_14_code
def yM_write : MethodName := ⟨RM, "write", "(III)Z"⟩
abbrev cM_faults : ByteArray := prog_6_method_15_code
def yM_faults : MethodName := ⟨RM, "faults", "()I"⟩
abbrev cM_create : ByteArray := prog_6_method_17_code
def yM_create : MethodName := ⟨RM, "create", "(I)I"⟩
abbrev cM_isFree : ByteArray := prog_6_method_3_code
def yM_isFree : MethodName := ⟨RM, "isFree", "(I)Z"⟩
abbrev cM_keep : ByteArray := prog_6_method_16_code
def yM_keep : MethodName := ⟨RM, "keep", "(II)V"⟩
abbrev cM_wipe : ByteArray := prog_6_method_6_code
def yM_wipe : MethodName := ⟨RM, "wipe", "(I)V"⟩
abbrev cM_look : ByteArray := prog_6_method_7_code
def yM_look : MethodName := ⟨RM, "look", "(I)V"⟩
abbrev cM_feed : ByteArray := prog_6_method_18_code
def yM_feed : MethodName := ⟨RM, "feed", "(II)I"⟩
abbrev cM_isGuest : ByteArray := prog_6_method_4_code
def yM_isGuest : MethodName := ⟨RM, "isGuest", "(I)Z"⟩
abbrev cM_rest : ByteArray := prog_6_method_11_code
def yM_rest : MethodName := ⟨RM, "rest", "(I)I"⟩
abbrev cM_count : ByteArray := prog_6_method_10_code
def yM_count : MethodName := ⟨RM, "count", "(II)I"⟩
abbrev cM_holder : ByteArray := prog_6_method_8_code
def yM_holder : MethodName := ⟨RM, "holder", "(I)I"⟩
abbrev cM_donate : ByteArray := prog_6_method_20_code
def yM_donate : MethodName := ⟨RM, "donate", "(III)I"⟩
abbrev cM_refusal : ByteArray := prog_6_method_19_code
def yM_refusal : MethodName := ⟨RM, "refusal", "(III)I"⟩
abbrev cM_held : ByteArray := prog_6_method_9_code
def yM_held : MethodName := ⟨RM, "held", "(II)I"⟩
abbrev cM_lend : ByteArray := prog_6_method_21_code
def yM_lend : MethodName := ⟨RM, "lend", "(III)I"⟩
abbrev cM_takeBack : ByteArray := prog_6_method_22_code
def yM_takeBack : MethodName := ⟨RM, "takeBack", "(I)Z"⟩
abbrev cM_destroy : ByteArray := prog_6_method_23_code
def yM_destroy : MethodName := ⟨RM, "destroy", "(I)Z"⟩
abbrev cM_reclaim : ByteArray := prog_6_method_24_code
def yM_reclaim : MethodName := ⟨RM, "reclaim", "(I)Z"⟩
abbrev cM_load : ByteArray := prog_6_method_25_code
def yM_load : MethodName := ⟨RM, "load", "(II)Z"⟩
abbrev cM_put : ByteArray := prog_6_method_26_code
def yM_put : MethodName := ⟨RM, "put", "()Z"⟩
abbrev cM_run : ByteArray := prog_6_method_27_code
def yM_run : MethodName := ⟨RM, "run", "(II)I"⟩
abbrev cM_step : ByteArray := prog_6_method_29_code
def yM_step : MethodName := ⟨RM, "step", "(I)I"⟩
abbrev cM_word : ByteArray := prog_6_method_28_code
def yM_word : MethodName := ⟨RM, "word", "(II)I"⟩
abbrev cM_turn : ByteArray := prog_6_method_30_code
def yM_turn : MethodName := ⟨RM, "turn", "(IIZ)Z"⟩
abbrev cM_info : ByteArray := prog_6_method_31_code
def yM_info : MethodName := ⟨RM, "info", "()I"⟩
abbrev cM_set : ByteArray := prog_6_method_32_code
def yM_set : MethodName := ⟨RM, "set", "(II)Z"⟩
abbrev cM_register : ByteArray := prog_6_method_33_code
def yM_register : MethodName := ⟨RM, "register", "(I)I"⟩
abbrev cM_owner : ByteArray := prog_6_method_34_code
def yM_owner : MethodName := ⟨RM, "owner", "(I)I"⟩
abbrev cM_state : ByteArray := prog_6_method_35_code
def yM_state : MethodName := ⟨RM, "state", "(I)I"⟩
abbrev cM_pool : ByteArray := prog_6_method_36_code
def yM_pool : MethodName := ⟨RM, "pool", "(I)I"⟩
abbrev cM_tables : ByteArray := prog_6_method_37_code
def yM_tables : MethodName := ⟨RM, "tables", "(I)I"⟩
def gWd_0 : List Cond := [.initialized RL, .initialized RK, .initialized RP, .initialized RM, .initialized RG, .initialized RR, .classLink RL 7 RK, .instantiable RK 8, .methodLink RL 9 yK_init, .instanceMethod yK_init, .code yK_init cK_init 2 none, .methodLink RK 1 objectInit, .instanceMethod objectInit, .code objectInit ⟨#[0xb1]⟩ 1 none, .classLink RK 9 RP, .instantiable RP 6, .instanceMethod yP_init, .code yP_init cP_init 1 none, .methodLink RP 3 objectInit, .fieldLink RP 9 "GuestKeeper$Page" "words" "[I", .fieldLink RK 39 "GuestKeeper$Page" "words" "[I", .fieldLink RR 39 "GuestKeeper$Page" "words" "[I", .fieldLink RP 15 "GuestKeeper$Page" "ownerNumber" "I", .fieldLink RG 47 "GuestKeeper$Page" "ownerNumber" "I", .fieldLink RK 103 "GuestKeeper$Page" "ownerNumber" "I", .fieldLink RP 19 "GuestKeeper$Page" "lentTo" "I", .fieldLink RK 86 "GuestKeeper$Page" "lentTo" "I", .fieldLink RP 22 "GuestKeeper$Page" "keptFor" "I", .fieldLink RP 25 "GuestKeeper$Page" "shared" "Z", .fieldLink RG 50 "GuestKeeper$Page" "shared" "Z", .fieldLink RK 132 "GuestKeeper$Page" "shared" "Z", .fieldLink RP 37 "GuestKeeper$Page" "mapped" "Z", .fieldLink RK 135 "GuestKeeper$Page" "mapped" "Z", .laysFinal RP "GuestKeeper$Page" "words" "[I", .lays RP "GuestKeeper$Page" "ownerNumber" "I", .lays RP "GuestKeeper$Page" "lentTo" "I", .lays RP "GuestKeeper$Page" "keptFor" "I", .lays RP "GuestKeeper$Page" "shared" "Z", .lays RP "GuestKeeper$Page" "mapped" "Z", .arrayClass .int, .classLink RK 16 RG, .fieldLink RK 11 "GuestKeeper" "pages" "[LGuestKeeper$Page;", .fieldLink RK 18 "GuestKeeper" "guests" "[LGuestKeeper$Guest;", .fieldLink RK 22 "GuestKeeper" "hostRegisters" "[I", .fieldLink RK 49 "GuestKeeper" "guestsMade" "I", .fieldLink RK 42 "GuestKeeper" "hostFaults" "I", .fieldLink RK 126 "GuestKeeper" "latestInfo" "I", .fieldLink RK 93 "GuestKeeper" "loadedGuest" "LGuestKeeper$Guest;"]
def gWd_1 : List Cond := [.fieldLink RK 106 "GuestKeeper" "loadedProcessor" "LGuestKeeper$Processor;", .laysFinal RK "GuestKeeper" "pages" "[LGuestKeeper$Page;", .laysFinal RK "GuestKeeper" "guests" "[LGuestKeeper$Guest;", .laysFinal RK "GuestKeeper" "hostRegisters" "[I", .lays RK "GuestKeeper" "guestsMade" "I", .lays RK "GuestKeeper" "hostFaults" "I", .lays RK "GuestKeeper" "latestInfo" "I", .lays RK "GuestKeeper" "loadedGuest" "LGuestKeeper$Guest;", .lays RK "GuestKeeper" "loadedProcessor" "LGuestKeeper$Processor;", .methodLink RL 13 yK_read, .instanceMethod yK_read, .selects RK yK_read yK_read, .code yK_read cK_read 3 (some .long), .methodLink RK 26 yK_isPage, .static yK_isPage, .code yK_isPage cK_isPage 1 (some .boolean), .methodLink RK 30 yK_isWord, .static yK_isWord, .code yK_isWord cK_isWord 1 (some .boolean), .methodLink RK 33 yK_hostReaches, .instanceMethod yK_hostReaches, .code yK_hostReaches cK_hostReaches 2 (some .boolean), .methodLink RK 141 yP_isOpenToHost, .instanceMethod yP_isOpenToHost, .selects RP yP_isOpenToHost yP_isOpenToHost, .code yP_isOpenToHost cP_isOpenToHost 1 (some .boolean), .constantLong RK 37 (1099511627776), .methodLink RL 18 yK_write, .instanceMethod yK_write, .selects RK yK_write yK_write, .code yK_write cK_write 4 (some .boolean), .methodLink RL 23 yK_faults, .instanceMethod yK_faults, .selects RK yK_faults yK_faults, .code yK_faults cK_faults 1 (some .int), .methodLink RL 28 yK_create, .instanceMethod yK_create, .selects RK yK_create yK_create, .code yK_create cK_create 2 (some .int), .methodLink RK 46 yK_isFreePage, .instanceMethod yK_isFreePage, .code yK_isFreePage cK_isFreePage 2 (some .boolean), .instantiable RG 6, .methodLink RK 52 yG_init, .instanceMethod yG_init, .code yG_init cG_init 3 none, .methodLink RG 3 objectInit, .classLink RG 9 RP]
def gWd_2 : List Cond := [.classLink RG 17 RR, .instantiable RR 4, .instanceMethod yR_init, .code yR_init cR_init 1 none, .methodLink RR 3 objectInit, .fieldLink RR 9 "GuestKeeper$Processor" "registers" "[I", .fieldLink RR 26 "GuestKeeper$Processor" "pc" "I", .fieldLink RR 19 "GuestKeeper$Processor" "exitInfo" "I", .fieldLink RK 123 "GuestKeeper$Processor" "exitInfo" "I", .fieldLink RR 15 "GuestKeeper$Processor" "askingRegister" "I", .laysFinal RR "GuestKeeper$Processor" "registers" "[I", .lays RR "GuestKeeper$Processor" "pc" "I", .lays RR "GuestKeeper$Processor" "exitInfo" "I", .lays RR "GuestKeeper$Processor" "askingRegister" "I", .fieldLink RG 27 "GuestKeeper$Guest" "number" "I", .fieldLink RG 11 "GuestKeeper$Guest" "places" "[LGuestKeeper$Page;", .fieldLink RK 83 "GuestKeeper$Guest" "places" "[LGuestKeeper$Page;", .fieldLink RG 19 "GuestKeeper$Guest" "processors" "[LGuestKeeper$Processor;", .fieldLink RK 110 "GuestKeeper$Guest" "processors" "[LGuestKeeper$Processor;", .fieldLink RG 23 "GuestKeeper$Guest" "alive" "Z", .fieldLink RK 97 "GuestKeeper$Guest" "alive" "Z", .fieldLink RK 73 "GuestKeeper$Guest" "everLoaded" "Z", .fieldLink RG 32 "GuestKeeper$Guest" "pagesFed" "I", .fieldLink RK 62 "GuestKeeper$Guest" "pagesFed" "I", .laysFinal RG "GuestKeeper$Guest" "number" "I", .laysFinal RG "GuestKeeper$Guest" "places" "[LGuestKeeper$Page;", .laysFinal RG "GuestKeeper$Guest" "processors" "[LGuestKeeper$Processor;", .lays RG "GuestKeeper$Guest" "alive" "Z", .lays RG "GuestKeeper$Guest" "everLoaded" "Z", .lays RG "GuestKeeper$Guest" "pagesFed" "I", .methodLink RK 55 yP_becomeKeepers, .instanceMethod yP_becomeKeepers, .selects RP yP_becomeKeepers yP_becomeKeepers, .code yP_becomeKeepers cP_becomeKeepers 2 none, .methodLink RP 40 yP_wipe, .instanceMethod yP_wipe, .selects RP yP_wipe yP_wipe, .code yP_wipe cP_wipe 2 none, .methodLink RP 43 yP_changeOwner, .instanceMethod yP_changeOwner, .selects RP yP_changeOwner yP_changeOwner, .code yP_changeOwner cP_changeOwner 2 none, .methodLink RP 29 yP_changeSharing, .instanceMethod yP_changeSharing, .selects RP yP_changeSharing yP_changeSharing, .code yP_changeSharing cP_changeSharing 2 none, .methodLink RP 33 yP_isOpenToHost, .methodLink RL 33 yK_feed]
def gWd_3 : List Cond := [.instanceMethod yK_feed, .selects RK yK_feed yK_feed, .code yK_feed cK_feed 4 (some .int), .methodLink RK 58 yK_livingGuest, .instanceMethod yK_livingGuest, .code yK_livingGuest cK_livingGuest 3 (some (.object "GuestKeeper$Guest")), .methodLink RK 65 yG_poolSize, .instanceMethod yG_poolSize, .selects RG yG_poolSize yG_poolSize, .code yG_poolSize cG_poolSize 1 (some .int), .methodLink RG 35 yG_countTables, .instanceMethod yG_countTables, .selects RG yG_countTables yG_countTables, .code yG_countTables cG_countTables 1 (some .int), .methodLink RG 39 yG_countTablesOf, .instanceMethod yG_countTablesOf, .code yG_countTablesOf cG_countTablesOf 4 (some .int), .methodLink RG 43 yG_needsTable, .instanceMethod yG_needsTable, .code yG_needsTable cG_needsTable 4 (some .boolean), .methodLink RL 38 yK_donate, .instanceMethod yK_donate, .selects RK yK_donate yK_donate, .code yK_donate cK_donate 7 (some .int), .methodLink RK 69 yK_placingRefusal, .instanceMethod yK_placingRefusal, .code yK_placingRefusal cK_placingRefusal 4 (some .int), .methodLink RK 145 yG_newTablesFor, .instanceMethod yG_newTablesFor, .selects RG yG_newTablesFor yG_newTablesFor, .code yG_newTablesFor cG_newTablesFor 4 (some .int), .methodLink RK 77 yP_wipe, .methodLink RK 80 yP_changeOwner, .methodLink RL 43 yK_lend, .instanceMethod yK_lend, .selects RK yK_lend yK_lend, .code yK_lend cK_lend 6 (some .int), .methodLink RL 47 yK_takeBack, .instanceMethod yK_takeBack, .selects RK yK_takeBack yK_takeBack, .code yK_takeBack cK_takeBack 4 (some .boolean), .methodLink RK 89 yG_removePage, .instanceMethod yG_removePage, .selects RG yG_removePage yG_removePage, .code yG_removePage cG_removePage 3 none, .methodLink RL 52 yK_destroy, .instanceMethod yK_destroy, .selects RK yK_destroy yK_destroy]
def gWd_4 : List Cond := [.code yK_destroy cK_destroy 4 (some .boolean), .methodLink RK 100 yP_loseGuest, .instanceMethod yP_loseGuest, .selects RP yP_loseGuest yP_loseGuest, .code yP_loseGuest cP_loseGuest 2 none, .methodLink RL 56 yK_reclaim, .instanceMethod yK_reclaim, .selects RK yK_reclaim yK_reclaim, .code yK_reclaim cK_reclaim 2 (some .boolean), .methodLink RL 60 yK_load, .instanceMethod yK_load, .selects RK yK_load yK_load, .code yK_load cK_load 4 (some .boolean), .methodLink RL 65 yK_put, .instanceMethod yK_put, .selects RK yK_put yK_put, .code yK_put cK_put 1 (some .boolean), .methodLink RL 70 yK_run, .instanceMethod yK_run, .selects RK yK_run yK_run, .code yK_run cK_run 4 (some .int), .methodLink RK 114 yR_receiveAnswer, .instanceMethod yR_receiveAnswer, .selects RR yR_receiveAnswer yR_receiveAnswer, .code yR_receiveAnswer cR_receiveAnswer 2 none, .methodLink RK 119 yR_makeSteps, .instanceMethod yR_makeSteps, .selects RR yR_makeSteps yR_makeSteps, .code yR_makeSteps cR_makeSteps 5 (some .int), .methodLink RR 22 yR_makeStep, .instanceMethod yR_makeStep, .code yR_makeStep cR_makeStep 3 (some .int), .methodLink RR 29 yG_pageAtAddress, .instanceMethod yG_pageAtAddress, .selects RG yG_pageAtAddress yG_pageAtAddress, .code yG_pageAtAddress cG_pageAtAddress 2 (some (.object "GuestKeeper$Page")), .methodLink RR 35 yR_faultAt, .instanceMethod yR_faultAt, .code yR_faultAt cR_faultAt 2 (some .int), .methodLink RR 44 yR_perform, .instanceMethod yR_perform, .code yR_perform cR_perform 9 (some .int), .methodLink RR 48 yR_moveWord, .instanceMethod yR_moveWord, .code yR_moveWord cR_moveWord 6 (some .int), .methodLink RR 52 yG_changeSharingAt, .instanceMethod yG_changeSharingAt, .selects RG yG_changeSharingAt yG_changeSharingAt]
def gWd_5 : List Cond := [.code yG_changeSharingAt cG_changeSharingAt 4 (some .boolean), .methodLink RG 53 yP_changeSharing, .methodLink RL 74 yK_info, .instanceMethod yK_info, .selects RK yK_info yK_info, .code yK_info cK_info 1 (some .int), .methodLink RL 78 yK_set, .instanceMethod yK_set, .selects RK yK_set yK_set, .code yK_set cK_set 3 (some .boolean), .methodLink RK 129 yK_isRegister, .static yK_isRegister, .code yK_isRegister cK_isRegister 1 (some .boolean), .methodLink RL 82 yK_register, .instanceMethod yK_register, .selects RK yK_register yK_register, .code yK_register cK_register 2 (some .int), .methodLink RL 86 yK_owner, .instanceMethod yK_owner, .selects RK yK_owner yK_owner, .code yK_owner cK_owner 2 (some .int), .methodLink RL 90 yK_state, .instanceMethod yK_state, .selects RK yK_state yK_state, .code yK_state cK_state 4 (some .int), .methodLink RL 94 yK_pool, .instanceMethod yK_pool, .selects RK yK_pool yK_pool, .code yK_pool cK_pool 3 (some .int), .methodLink RL 98 yK_tables, .instanceMethod yK_tables, .selects RK yK_tables yK_tables, .code yK_tables cK_tables 3 (some .int), .methodLink RK 138 yG_countTables, .classLink RL 10 RM, .instantiable RM 17, .methodLink RL 12 yM_init, .instanceMethod yM_init, .code yM_init cM_init 1 none, .methodLink RM 1 objectInit, .fieldLink RM 7 "GuestKeeperModel" "words" "[I", .fieldLink RM 13 "GuestKeeperModel" "whose" "[I", .fieldLink RM 16 "GuestKeeperModel" "keptFor" "[I", .fieldLink RM 19 "GuestKeeperModel" "lentTo" "[I", .fieldLink RM 22 "GuestKeeperModel" "place" "[I", .fieldLink RM 25 "GuestKeeperModel" "shared" "[Z", .fieldLink RM 29 "GuestKeeperModel" "mapped" "[Z", .fieldLink RM 58 "GuestKeeperModel" "made" "I"]
def gWd_6 : List Cond := [.fieldLink RM 32 "GuestKeeperModel" "alive" "[Z", .fieldLink RM 35 "GuestKeeperModel" "ran" "[Z", .fieldLink RM 38 "GuestKeeperModel" "registers" "[I", .fieldLink RM 41 "GuestKeeperModel" "counter" "[I", .fieldLink RM 44 "GuestKeeperModel" "waits" "[I", .fieldLink RM 47 "GuestKeeperModel" "loaded" "I", .fieldLink RM 108 "GuestKeeperModel" "info" "I", .fieldLink RM 51 "GuestKeeperModel" "own" "[I", .fieldLink RM 72 "GuestKeeperModel" "faults" "I", .laysFinal RM "GuestKeeperModel" "words" "[I", .laysFinal RM "GuestKeeperModel" "whose" "[I", .laysFinal RM "GuestKeeperModel" "keptFor" "[I", .laysFinal RM "GuestKeeperModel" "lentTo" "[I", .laysFinal RM "GuestKeeperModel" "place" "[I", .laysFinal RM "GuestKeeperModel" "shared" "[Z", .laysFinal RM "GuestKeeperModel" "mapped" "[Z", .lays RM "GuestKeeperModel" "made" "I", .laysFinal RM "GuestKeeperModel" "alive" "[Z", .laysFinal RM "GuestKeeperModel" "ran" "[Z", .laysFinal RM "GuestKeeperModel" "registers" "[I", .laysFinal RM "GuestKeeperModel" "counter" "[I", .laysFinal RM "GuestKeeperModel" "waits" "[I", .lays RM "GuestKeeperModel" "loaded" "I", .lays RM "GuestKeeperModel" "info" "I", .laysFinal RM "GuestKeeperModel" "own" "[I", .lays RM "GuestKeeperModel" "faults" "I", .arrayClass .boolean, .methodLink RL 17 yM_read, .instanceMethod yM_read, .selects RM yM_read yM_read, .code yM_read cM_read 3 (some .long), .methodLink RM 75 yM_touch, .instanceMethod yM_touch, .code yM_touch cM_touch 3 (some .boolean), .methodLink RM 54 yM_isPage, .static yM_isPage, .code yM_isPage cM_isPage 1 (some .boolean), .methodLink RM 61 yM_hostMay, .instanceMethod yM_hostMay, .code yM_hostMay cM_hostMay 2 (some .boolean), .constantLong RM 79 (1099511627776), .methodLink RL 22 yM_write, .instanceMethod yM_write, .selects RM yM_write yM_write, .code yM_write cM_write 5 (some .boolean), .methodLink RL 27 yM_faults, .instanceMethod yM_faults, .selects RM yM_faults yM_faults]
def gWd_7 : List Cond := [.code yM_faults cM_faults 1 (some .int), .methodLink RL 32 yM_create, .instanceMethod yM_create, .selects RM yM_create yM_create, .code yM_create cM_create 2 (some .int), .methodLink RM 88 yM_isFree, .instanceMethod yM_isFree, .code yM_isFree cM_isFree 2 (some .boolean), .methodLink RM 91 yM_keep, .instanceMethod yM_keep, .code yM_keep cM_keep 3 none, .methodLink RM 81 yM_wipe, .instanceMethod yM_wipe, .code yM_wipe cM_wipe 3 none, .methodLink RM 85 yM_look, .instanceMethod yM_look, .code yM_look cM_look 2 none, .methodLink RL 37 yM_feed, .instanceMethod yM_feed, .selects RM yM_feed yM_feed, .code yM_feed cM_feed 3 (some .int), .methodLink RM 95 yM_isGuest, .instanceMethod yM_isGuest, .code yM_isGuest cM_isGuest 2 (some .boolean), .methodLink RM 98 yM_rest, .instanceMethod yM_rest, .code yM_rest cM_rest 4 (some .int), .methodLink RM 68 yM_count, .instanceMethod yM_count, .code yM_count cM_count 8 (some .int), .methodLink RM 64 yM_holder, .instanceMethod yM_holder, .code yM_holder cM_holder 2 (some .int), .methodLink RL 42 yM_donate, .instanceMethod yM_donate, .selects RM yM_donate yM_donate, .code yM_donate cM_donate 5 (some .int), .methodLink RM 104 yM_refusal, .instanceMethod yM_refusal, .code yM_refusal cM_refusal 5 (some .int), .methodLink RM 101 yM_held, .instanceMethod yM_held, .code yM_held cM_held 4 (some .int), .methodLink RL 46 yM_lend, .instanceMethod yM_lend, .selects RM yM_lend yM_lend, .code yM_lend cM_lend 5 (some .int), .methodLink RL 51 yM_takeBack]
def gWd_8 : List Cond := [.instanceMethod yM_takeBack, .selects RM yM_takeBack yM_takeBack, .code yM_takeBack cM_takeBack 2 (some .boolean), .methodLink RL 55 yM_destroy, .instanceMethod yM_destroy, .selects RM yM_destroy yM_destroy, .code yM_destroy cM_destroy 3 (some .boolean), .methodLink RL 59 yM_reclaim, .instanceMethod yM_reclaim, .selects RM yM_reclaim yM_reclaim, .code yM_reclaim cM_reclaim 2 (some .boolean), .methodLink RL 64 yM_load, .instanceMethod yM_load, .selects RM yM_load yM_load, .code yM_load cM_load 3 (some .boolean), .methodLink RL 69 yM_put, .instanceMethod yM_put, .selects RM yM_put yM_put, .code yM_put cM_put 2 (some .boolean), .methodLink RL 73 yM_run, .instanceMethod yM_run, .selects RM yM_run yM_run, .code yM_run cM_run 6 (some .int), .methodLink RM 111 yM_step, .instanceMethod yM_step, .code yM_step cM_step 11 (some .int), .methodLink RM 114 yM_word, .instanceMethod yM_word, .code yM_word cM_word 4 (some .int), .methodLink RM 117 yM_turn, .instanceMethod yM_turn, .code yM_turn cM_turn 5 (some .boolean), .methodLink RL 77 yM_info, .instanceMethod yM_info, .selects RM yM_info yM_info, .code yM_info cM_info 1 (some .int), .methodLink RL 81 yM_set, .instanceMethod yM_set, .selects RM yM_set yM_set, .code yM_set cM_set 3 (some .boolean), .methodLink RL 85 yM_register, .instanceMethod yM_register, .selects RM yM_register yM_register, .code yM_register cM_register 2 (some .int), .methodLink RL 89 yM_owner, .instanceMethod yM_owner, .selects RM yM_owner yM_owner, .code yM_owner cM_owner 2 (some .int)]
def gWd_9 : List Cond := [.methodLink RL 93 yM_state, .instanceMethod yM_state, .selects RM yM_state yM_state, .code yM_state cM_state 2 (some .int), .methodLink RL 97 yM_pool, .instanceMethod yM_pool, .selects RM yM_pool yM_pool, .code yM_pool cM_pool 2 (some .int), .methodLink RL 101 yM_tables, .instanceMethod yM_tables, .selects RM yM_tables yM_tables, .code yM_tables cM_tables 2 (some .int), .selects RK yK_hostReaches yK_hostReaches, .selects RK yK_isFreePage yK_isFreePage, .selects RK yK_livingGuest yK_livingGuest, .selects RG yG_countTablesOf yG_countTablesOf, .selects RG yG_needsTable yG_needsTable, .selects RK yK_placingRefusal yK_placingRefusal, .selects RR yR_makeStep yR_makeStep, .selects RR yR_faultAt yR_faultAt, .selects RR yR_perform yR_perform, .selects RR yR_moveWord yR_moveWord, .selects RM yM_touch yM_touch, .selects RM yM_hostMay yM_hostMay, .selects RM yM_isFree yM_isFree, .selects RM yM_keep yM_keep, .selects RM yM_wipe yM_wipe, .selects RM yM_look yM_look, .selects RM yM_isGuest yM_isGuest, .selects RM yM_rest yM_rest, .selects RM yM_count yM_count, .selects RM yM_holder yM_holder, .selects RM yM_refusal yM_refusal, .selects RM yM_held yM_held, .selects RM yM_step yM_step, .selects RM yM_word yM_word, .selects RM yM_turn yM_turn]
def gWd : List Cond := gWd_0 ++ (gWd_1 ++ (gWd_2 ++ (gWd_3 ++ (gWd_4 ++ (gWd_5 ++ (gWd_6 ++ (gWd_7 ++ (gWd_8 ++ (gWd_9)))))))))
theorem gwd_0 {w : Cond} (h : w ∈ gWd_0) : w ∈ gWd := by unfold gWd; exact List.mem_append_left _ h
theorem gwd_1 {w : Cond} (h : w ∈ gWd_1) : w ∈ gWd := by unfold gWd; exact List.mem_append_right _ (List.mem_append_left _ h)
theorem gwd_2 {w : Cond} (h : w ∈ gWd_2) : w ∈ gWd := by unfold gWd; exact List.mem_append_right _ (List.mem_append_right _ (List.mem_append_left _ h))
theorem gwd_3 {w : Cond} (h : w ∈ gWd_3) : w ∈ gWd := by unfold gWd; exact List.mem_append_right _ (List.mem_append_right _ (List.mem_append_right _ (List.mem_append_left _ h)))
theorem gwd_4 {w : Cond} (h : w ∈ gWd_4) : w ∈ gWd := by unfold gWd; exact List.mem_append_right _ (List.mem_append_right _ (List.mem_append_right _ (List.mem_append_right _ (List.mem_append_left _ h))))
theorem gwd_5 {w : Cond} (h : w ∈ gWd_5) : w ∈ gWd := by unfold gWd; exact List.mem_append_right _ (List.mem_append_right _ (List.mem_append_right _ (List.mem_append_right _ (List.mem_append_right _ (List.mem_append_left _ h)))))
theorem gwd_6 {w : Cond} (h : w ∈ gWd_6) : w ∈ gWd := by unfold gWd; exact List.mem_append_right _ (List.mem_append_right _ (List.mem_append_right _ (List.mem_append_right _ (List.mem_append_right _ (List.mem_append_right _ (List.mem_append_left _ h))))))
theorem gwd_7 {w : Cond} (h : w ∈ gWd_7) : w ∈ gWd := by unfold gWd; exact List.mem_append_right _ (List.mem_append_right _ (List.mem_append_right _ (List.mem_append_right _ (List.mem_append_right _ (List.mem_append_right _ (List.mem_append_right _ (List.mem_append_left _ h)))))))
theorem gwd_8 {w : Cond} (h : w ∈ gWd_8) : w ∈ gWd := by unfold gWd; exact List.mem_append_right _ (List.mem_append_right _ (List.mem_append_right _ (List.mem_append_right _ (List.mem_append_right _ (List.mem_append_right _ (List.mem_append_right _ (List.mem_append_right _ (List.mem_append_left _ h))))))))
theorem gwd_9 {w : Cond} (h : w ∈ gWd_9) : w ∈ gWd := by unfold gWd; exact List.mem_append_right _ (List.mem_append_right _ (List.mem_append_right _ (List.mem_append_right _ (List.mem_append_right _ (List.mem_append_right _ (List.mem_append_right _ (List.mem_append_right _ (List.mem_append_right _ (h)))))))))
set_option maxRecDepth 20000 in
theorem gWd_good_0 : gWd_0.all goodWord = true := by decide +kernel
set_option maxRecDepth 20000 in
theorem gWd_good_1 : gWd_1.all goodWord = true := by decide +kernel
set_option maxRecDepth 20000 in
theorem gWd_good_2 : gWd_2.all goodWord = true := by decide +kernel
set_option maxRecDepth 20000 in
theorem gWd_good_3 : gWd_3.all goodWord = true := by decide +kernel
set_option maxRecDepth 20000 in
theorem gWd_good_4 : gWd_4.all goodWord = true := by decide +kernel
set_option maxRecDepth 20000 in
theorem gWd_good_5 : gWd_5.all goodWord = true := by decide +kernel
set_option maxRecDepth 20000 in
theorem gWd_good_6 : gWd_6.all goodWord = true := by decide +kernel
set_option maxRecDepth 20000 in
theorem gWd_good_7 : gWd_7.all goodWord = true := by decide +kernel
set_option maxRecDepth 20000 in
theorem gWd_good_8 : gWd_8.all goodWord = true := by decide +kernel
set_option maxRecDepth 20000 in
theorem gWd_good_9 : gWd_9.all goodWord = true := by decide +kernel
theorem gWd_good : ∀ w ∈ gWd, (w.onTables && w.keeps) = true ∨ ∃ ty, w = .arrayClass ty := by
  intro w hw
  unfold gWd at hw
  simp only [List.mem_append] at hw
  rcases hw with h | h | h | h | h | h | h | h | h | h
  · exact good_of_word (List.all_eq_true.mp gWd_good_0 w h)
  · exact good_of_word (List.all_eq_true.mp gWd_good_1 w h)
  · exact good_of_word (List.all_eq_true.mp gWd_good_2 w h)
  · exact good_of_word (List.all_eq_true.mp gWd_good_3 w h)
  · exact good_of_word (List.all_eq_true.mp gWd_good_4 w h)
  · exact good_of_word (List.all_eq_true.mp gWd_good_5 w h)
  · exact good_of_word (List.all_eq_true.mp gWd_good_6 w h)
  · exact good_of_word (List.all_eq_true.mp gWd_good_7 w h)
  · exact good_of_word (List.all_eq_true.mp gWd_good_8 w h)
  · exact good_of_word (List.all_eq_true.mp gWd_good_9 w h)
set_option maxRecDepth 20000 in
theorem gWd_in_0 : ∀ w ∈ gWd_0, w ∈ lw_tbl := fun w h => (goodIn_p gWd_0 (([10, 13, 19] : List Nat).map (· + (k2_sels lw_privs).length)) (by decide +kernel) (by decide +kernel) w h).1
set_option maxRecDepth 20000 in
theorem gWd_in_1 : ∀ w ∈ gWd_1, w ∈ lw_tbl := fun w h => (goodIn_p gWd_1 (([79, 82, 85, 89, 93, 98, 102, 106, 110, 114] : List Nat).map (· + (k2_sels lw_privs).length)) (by decide +kernel) (by decide +kernel) w h).1
set_option maxRecDepth 20000 in
theorem gWd_in_2 : ∀ w ∈ gWd_2, w ∈ lw_tbl := fun w h => (goodIn_p gWd_2 (([122, 164, 168, 172, 176] : List Nat).map (· + (k2_sels lw_privs).length)) (by decide +kernel) (by decide +kernel) w h).1
set_option maxRecDepth 20000 in
theorem gWd_in_3 : ∀ w ∈ gWd_3, w ∈ lw_tbl := fun w h => (goodIn_p gWd_3 (([181, 185, 189, 193, 197, 201, 205, 209, 213, 219, 223, 227] : List Nat).map (· + (k2_sels lw_privs).length)) (by decide +kernel) (by decide +kernel) w h).1
set_option maxRecDepth 20000 in
theorem gWd_in_4 : ∀ w ∈ gWd_4, w ∈ lw_tbl := fun w h => (goodIn_p gWd_4 (([231, 235, 239, 243, 247, 251, 255, 259, 263, 267, 271, 275, 279] : List Nat).map (· + (k2_sels lw_privs).length)) (by decide +kernel) (by decide +kernel) w h).1
set_option maxRecDepth 20000 in
theorem gWd_in_5 : ∀ w ∈ gWd_5, w ∈ lw_tbl := fun w h => (goodIn_p gWd_5 (([283, 288, 292, 295, 299, 303, 307, 311, 315, 321] : List Nat).map (· + (k2_sels lw_privs).length)) (by decide +kernel) (by decide +kernel) w h).1
set_option maxRecDepth 20000 in
theorem gWd_in_6 : ∀ w ∈ gWd_6, w ∈ lw_tbl := fun w h => (goodIn_p gWd_6 (([379, 383, 386, 390, 395] : List Nat).map (· + (k2_sels lw_privs).length)) (by decide +kernel) (by decide +kernel) w h).1
set_option maxRecDepth 20000 in
theorem gWd_in_7 : ∀ w ∈ gWd_7, w ∈ lw_tbl := fun w h => (goodIn_p gWd_7 (([399, 403, 407, 411, 415, 419, 423, 427, 431, 435, 439, 443, 447, 451, 455] : List Nat).map (· + (k2_sels lw_privs).length)) (by decide +kernel) (by decide +kernel) w h).1
set_option maxRecDepth 20000 in
theorem gWd_in_8 : ∀ w ∈ gWd_8, w ∈ lw_tbl := fun w h => (goodIn_p gWd_8 (([459, 463, 467, 471, 475, 479, 483, 487, 491, 495, 499, 503, 507] : List Nat).map (· + (k2_sels lw_privs).length)) (by decide +kernel) (by decide +kernel) w h).1
set_option maxRecDepth 20000 in
theorem gWd_in_9 : ∀ w ∈ gWd_9, w ∈ lw_tbl := fun w h => (goodIn_p gWd_9 (([511, 515, 519] : List Nat).map (· + (k2_sels lw_privs).length)) (by decide +kernel) (by decide +kernel) w h).1
theorem gWd_in : ∀ w ∈ gWd, w ∈ lw_tbl := by
  intro w hw
  unfold gWd at hw
  simp only [List.mem_append] at hw
  rcases hw with h | h | h | h | h | h | h | h | h | h
  · exact gWd_in_0 w h
  · exact gWd_in_1 w h
  · exact gWd_in_2 w h
  · exact gWd_in_3 w h
  · exact gWd_in_4 w h
  · exact gWd_in_5 w h
  · exact gWd_in_6 w h
  · exact gWd_in_7 w h
  · exact gWd_in_8 w h
  · exact gWd_in_9 w h
theorem inK : ∀ w ∈ u_ws RK TK 8, w ∈ gWd := by
  intro w hw
  have hw : w ∈ [.laysFinal RK "GuestKeeper" "pages" "[LGuestKeeper$Page;", .laysFinal RK "GuestKeeper" "guests" "[LGuestKeeper$Guest;", .laysFinal RK "GuestKeeper" "hostRegisters" "[I", .lays RK "GuestKeeper" "guestsMade" "I", .lays RK "GuestKeeper" "hostFaults" "I", .lays RK "GuestKeeper" "latestInfo" "I", .lays RK "GuestKeeper" "loadedGuest" "LGuestKeeper$Guest;", .lays RK "GuestKeeper" "loadedProcessor" "LGuestKeeper$Processor;"] := hw
  simp only [List.mem_cons, List.not_mem_nil, or_false] at hw
  rcases hw with rfl | rfl | rfl | rfl | rfl | rfl | rfl | rfl
  · exact (gwd_1 (List.mem_of_getElem? (i := 1) rfl))
  · exact (gwd_1 (List.mem_of_getElem? (i := 2) rfl))
  · exact (gwd_1 (List.mem_of_getElem? (i := 3) rfl))
  · exact (gwd_1 (List.mem_of_getElem? (i := 4) rfl))
  · exact (gwd_1 (List.mem_of_getElem? (i := 5) rfl))
  · exact (gwd_1 (List.mem_of_getElem? (i := 6) rfl))
  · exact (gwd_1 (List.mem_of_getElem? (i := 7) rfl))
  · exact (gwd_1 (List.mem_of_getElem? (i := 8) rfl))
theorem inP : ∀ w ∈ u_ws RP TP 6, w ∈ gWd := by
  intro w hw
  have hw : w ∈ [.laysFinal RP "GuestKeeper$Page" "words" "[I", .lays RP "GuestKeeper$Page" "ownerNumber" "I", .lays RP "GuestKeeper$Page" "lentTo" "I", .lays RP "GuestKeeper$Page" "keptFor" "I", .lays RP "GuestKeeper$Page" "shared" "Z", .lays RP "GuestKeeper$Page" "mapped" "Z"] := hw
  simp only [List.mem_cons, List.not_mem_nil, or_false] at hw
  rcases hw with rfl | rfl | rfl | rfl | rfl | rfl
  · exact (gwd_0 (List.mem_of_getElem? (i := 33) rfl))
  · exact (gwd_0 (List.mem_of_getElem? (i := 34) rfl))
  · exact (gwd_0 (List.mem_of_getElem? (i := 35) rfl))
  · exact (gwd_0 (List.mem_of_getElem? (i := 36) rfl))
  · exact (gwd_0 (List.mem_of_getElem? (i := 37) rfl))
  · exact (gwd_0 (List.mem_of_getElem? (i := 38) rfl))
theorem inG : ∀ w ∈ u_ws RG TG 6, w ∈ gWd := by
  intro w hw
  have hw : w ∈ [.laysFinal RG "GuestKeeper$Guest" "number" "I", .laysFinal RG "GuestKeeper$Guest" "places" "[LGuestKeeper$Page;", .laysFinal RG "GuestKeeper$Guest" "processors" "[LGuestKeeper$Processor;", .lays RG "GuestKeeper$Guest" "alive" "Z", .lays RG "GuestKeeper$Guest" "everLoaded" "Z", .lays RG "GuestKeeper$Guest" "pagesFed" "I"] := hw
  simp only [List.mem_cons, List.not_mem_nil, or_false] at hw
  rcases hw with rfl | rfl | rfl | rfl | rfl | rfl
  · exact (gwd_2 (List.mem_of_getElem? (i := 24) rfl))
  · exact (gwd_2 (List.mem_of_getElem? (i := 25) rfl))
  · exact (gwd_2 (List.mem_of_getElem? (i := 26) rfl))
  · exact (gwd_2 (List.mem_of_getElem? (i := 27) rfl))
  · exact (gwd_2 (List.mem_of_getElem? (i := 28) rfl))
  · exact (gwd_2 (List.mem_of_getElem? (i := 29) rfl))
theorem inR : ∀ w ∈ u_ws RR TR 4, w ∈ gWd := by
  intro w hw
  have hw : w ∈ [.laysFinal RR "GuestKeeper$Processor" "registers" "[I", .lays RR "GuestKeeper$Processor" "pc" "I", .lays RR "GuestKeeper$Processor" "exitInfo" "I", .lays RR "GuestKeeper$Processor" "askingRegister" "I"] := hw
  simp only [List.mem_cons, List.not_mem_nil, or_false] at hw
  rcases hw with rfl | rfl | rfl | rfl
  · exact (gwd_2 (List.mem_of_getElem? (i := 10) rfl))
  · exact (gwd_2 (List.mem_of_getElem? (i := 11) rfl))
  · exact (gwd_2 (List.mem_of_getElem? (i := 12) rfl))
  · exact (gwd_2 (List.mem_of_getElem? (i := 13) rfl))
theorem inM : ∀ w ∈ u_ws RM TM 17, w ∈ gWd := by
  intro w hw
  have hw : w ∈ [.laysFinal RM "GuestKeeperModel" "words" "[I", .laysFinal RM "GuestKeeperModel" "whose" "[I", .laysFinal RM "GuestKeeperModel" "keptFor" "[I", .laysFinal RM "GuestKeeperModel" "lentTo" "[I", .laysFinal RM "GuestKeeperModel" "place" "[I", .laysFinal RM "GuestKeeperModel" "shared" "[Z", .laysFinal RM "GuestKeeperModel" "mapped" "[Z", .lays RM "GuestKeeperModel" "made" "I", .laysFinal RM "GuestKeeperModel" "alive" "[Z", .laysFinal RM "GuestKeeperModel" "ran" "[Z", .laysFinal RM "GuestKeeperModel" "registers" "[I", .laysFinal RM "GuestKeeperModel" "counter" "[I", .laysFinal RM "GuestKeeperModel" "waits" "[I", .lays RM "GuestKeeperModel" "loaded" "I", .lays RM "GuestKeeperModel" "info" "I", .laysFinal RM "GuestKeeperModel" "own" "[I", .lays RM "GuestKeeperModel" "faults" "I"] := hw
  simp only [List.mem_cons, List.not_mem_nil, or_false] at hw
  rcases hw with rfl | rfl | rfl | rfl | rfl | rfl | rfl | rfl | rfl | rfl | rfl | rfl | rfl | rfl | rfl | rfl | rfl
  · exact (gwd_6 (List.mem_of_getElem? (i := 9) rfl))
  · exact (gwd_6 (List.mem_of_getElem? (i := 10) rfl))
  · exact (gwd_6 (List.mem_of_getElem? (i := 11) rfl))
  · exact (gwd_6 (List.mem_of_getElem? (i := 12) rfl))
  · exact (gwd_6 (List.mem_of_getElem? (i := 13) rfl))
  · exact (gwd_6 (List.mem_of_getElem? (i := 14) rfl))
  · exact (gwd_6 (List.mem_of_getElem? (i := 15) rfl))
  · exact (gwd_6 (List.mem_of_getElem? (i := 16) rfl))
  · exact (gwd_6 (List.mem_of_getElem? (i := 17) rfl))
  · exact (gwd_6 (List.mem_of_getElem? (i := 18) rfl))
  · exact (gwd_6 (List.mem_of_getElem? (i := 19) rfl))
  · exact (gwd_6 (List.mem_of_getElem? (i := 20) rfl))
  · exact (gwd_6 (List.mem_of_getElem? (i := 21) rfl))
  · exact (gwd_6 (List.mem_of_getElem? (i := 22) rfl))
  · exact (gwd_6 (List.mem_of_getElem? (i := 23) rfl))
  · exact (gwd_6 (List.mem_of_getElem? (i := 24) rfl))
  · exact (gwd_6 (List.mem_of_getElem? (i := 25) rfl))
theorem gd_V {own C : String} {idx : Nat} {y : MethodName} {cc : ByteArray} {n : Nat} {r : Option FieldType} (h1 : Cond.methodLink own idx y ∈ gWd) (h2 : Cond.instanceMethod y ∈ gWd) (h3 : Cond.selects C y y ∈ gWd) (h4 : Cond.initialized C ∈ gWd) (h5 : Cond.code y cc n r ∈ gWd) : GoodIn gWd (wsV own idx C y (.code y cc n r :: gWd)) := by
  intro w hw
  unfold wsV at hw
  have hm : w ∈ gWd := by
    simp only [List.mem_append, List.mem_cons, List.not_mem_nil, or_false] at hw
    rcases hw with (rfl | rfl | rfl | rfl) | rfl | h
    · exact h1
    · exact h2
    · exact h3
    · exact h4
    · exact h5
    · exact h
  exact ⟨hm, gWd_good w hm⟩
theorem gd_S {own : String} {idx : Nat} {y : MethodName} {cc : ByteArray} {n : Nat} {r : Option FieldType} (h1 : Cond.methodLink own idx y ∈ gWd) (h2 : Cond.static y ∈ gWd) (h4 : Cond.initialized own ∈ gWd) (h5 : Cond.code y cc n r ∈ gWd) : GoodIn gWd (wsS own idx y (.code y cc n r :: gWd)) := by
  intro w hw
  unfold wsS at hw
  have hm : w ∈ gWd := by
    simp only [List.mem_append, List.mem_cons, List.not_mem_nil, or_false] at hw
    rcases hw with (rfl | rfl | rfl) | rfl | h
    · exact h1
    · exact h2
    · exact h4
    · exact h5
    · exact h
  exact ⟨hm, gWd_good w hm⟩
theorem gd_C {y : MethodName} {cc : ByteArray} {n : Nat} {r : Option FieldType} (h5 : Cond.code y cc n r ∈ gWd) : GoodIn gWd (.code y cc n r :: gWd) := by
  intro w hw
  have hm : w ∈ gWd := by
    rcases List.mem_cons.mp hw with rfl | h
    · exact h5
    · exact h
  exact ⟨hm, gWd_good w hm⟩
def wK_init : List Cond := .code yK_init cK_init 2 none :: gWd
def wP_init : List Cond := .code yP_init cP_init 1 none :: gWd
def wK_read : List Cond := .code yK_read cK_read 3 (some .long) :: gWd
def wK_isPage : List Cond := .code yK_isPage cK_isPage 1 (some .boolean) :: gWd
def wK_isWord : List Cond := .code yK_isWord cK_isWord 1 (some .boolean) :: gWd
def wK_hostReaches : List Cond := .code yK_hostReaches cK_hostReaches 2 (some .boolean) :: gWd
def wP_isOpenToHost : List Cond := .code yP_isOpenToHost cP_isOpenToHost 1 (some .boolean) :: gWd
def wK_write : List Cond := .code yK_write cK_write 4 (some .boolean) :: gWd
def wK_faults : List Cond := .code yK_faults cK_faults 1 (some .int) :: gWd
def wK_create : List Cond := .code yK_create cK_create 2 (some .int) :: gWd
def wK_isFreePage : List Cond := .code yK_isFreePage cK_isFreePage 2 (some .boolean) :: gWd
def wG_init : List Cond := .code yG_init cG_init 3 none :: gWd
def wR_init : List Cond := .code yR_init cR_init 1 none :: gWd
def wP_becomeKeepers : List Cond := .code yP_becomeKeepers cP_becomeKeepers 2 none :: gWd
def wP_wipe : List Cond := .code yP_wipe cP_wipe 2 none :: gWd
def wP_changeOwner : List Cond := .code yP_changeOwner cP_changeOwner 2 none :: gWd
def wP_changeSharing : List Cond := .code yP_changeSharing cP_changeSharing 2 none :: gWd
def wK_feed : List Cond := .code yK_feed cK_feed 4 (some .int) :: gWd
def wK_livingGuest : List Cond := .code yK_livingGuest cK_livingGuest 3 (some (.object "GuestKeeper$Guest")) :: gWd
def wG_poolSize : List Cond := .code yG_poolSize cG_poolSize 1 (some .int) :: gWd
def wG_countTables : List Cond := .code yG_countTables cG_countTables 1 (some .int) :: gWd
def wG_countTablesOf : List Cond := .code yG_countTablesOf cG_countTablesOf 4 (some .int) :: gWd
def wG_needsTable : List Cond := .code yG_needsTable cG_needsTable 4 (some .boolean) :: gWd
def wK_donate : List Cond := .code yK_donate cK_donate 7 (some .int) :: gWd
def wK_placingRefusal : List Cond := .code yK_placingRefusal cK_placingRefusal 4 (some .int) :: gWd
def wG_newTablesFor : List Cond := .code yG_newTablesFor cG_newTablesFor 4 (some .int) :: gWd
def wK_lend : List Cond := .code yK_lend cK_lend 6 (some .int) :: gWd
def wK_takeBack : List Cond := .code yK_takeBack cK_takeBack 4 (some .boolean) :: gWd
def wG_removePage : List Cond := .code yG_removePage cG_removePage 3 none :: gWd
def wK_destroy : List Cond := .code yK_destroy cK_destroy 4 (some .boolean) :: gWd
def wP_loseGuest : List Cond := .code yP_loseGuest cP_loseGuest 2 none :: gWd
def wK_reclaim : List Cond := .code yK_reclaim cK_reclaim 2 (some .boolean) :: gWd
def wK_load : List Cond := .code yK_load cK_load 4 (some .boolean) :: gWd
def wK_put : List Cond := .code yK_put cK_put 1 (some .boolean) :: gWd
def wK_run : List Cond := .code yK_run cK_run 4 (some .int) :: gWd
def wR_receiveAnswer : List Cond := .code yR_receiveAnswer cR_receiveAnswer 2 none :: gWd
def wR_makeSteps : List Cond := .code yR_makeSteps cR_makeSteps 5 (some .int) :: gWd
def wR_makeStep : List Cond := .code yR_makeStep cR_makeStep 3 (some .int) :: gWd
def wG_pageAtAddress : List Cond := .code yG_pageAtAddress cG_pageAtAddress 2 (some (.object "GuestKeeper$Page")) :: gWd
def wR_faultAt : List Cond := .code yR_faultAt cR_faultAt 2 (some .int) :: gWd
def wR_perform : List Cond := .code yR_perform cR_perform 9 (some .int) :: gWd
def wR_moveWord : List Cond := .code yR_moveWord cR_moveWord 6 (some .int) :: gWd
def wG_changeSharingAt : List Cond := .code yG_changeSharingAt cG_changeSharingAt 4 (some .boolean) :: gWd
def wK_info : List Cond := .code yK_info cK_info 1 (some .int) :: gWd
def wK_set : List Cond := .code yK_set cK_set 3 (some .boolean) :: gWd
def wK_isRegister : List Cond := .code yK_isRegister cK_isRegister 1 (some .boolean) :: gWd
def wK_register : List Cond := .code yK_register cK_register 2 (some .int) :: gWd
def wK_owner : List Cond := .code yK_owner cK_owner 2 (some .int) :: gWd
def wK_state : List Cond := .code yK_state cK_state 4 (some .int) :: gWd
def wK_pool : List Cond := .code yK_pool cK_pool 3 (some .int) :: gWd
def wK_tables : List Cond := .code yK_tables cK_tables 3 (some .int) :: gWd
def wM_init : List Cond := .code yM_init cM_init 1 none :: gWd
def wM_read : List Cond := .code yM_read cM_read 3 (some .long) :: gWd
def wM_touch : List Cond := .code yM_touch cM_touch 3 (some .boolean) :: gWd
def wM_isPage : List Cond := .code yM_isPage cM_isPage 1 (some .boolean) :: gWd
def wM_hostMay : List Cond := .code yM_hostMay cM_hostMay 2 (some .boolean) :: gWd
def wM_write : List Cond := .code yM_write cM_write 5 (some .boolean) :: gWd
def wM_faults : List Cond := .code yM_faults cM_faults 1 (some .int) :: gWd
def wM_create : List Cond := .code yM_create cM_create 2 (some .int) :: gWd
def wM_isFree : List Cond := .code yM_isFree cM_isFree 2 (some .boolean) :: gWd
def wM_keep : List Cond := .code yM_keep cM_keep 3 none :: gWd
def wM_wipe : List Cond := .code yM_wipe cM_wipe 3 none :: gWd
def wM_look : List Cond := .code yM_look cM_look 2 none :: gWd
def wM_feed : List Cond := .code yM_feed cM_feed 3 (some .int) :: gWd
def wM_isGuest : List Cond := .code yM_isGuest cM_isGuest 2 (some .boolean) :: gWd
def wM_rest : List Cond := .code yM_rest cM_rest 4 (some .int) :: gWd
def wM_count : List Cond := .code yM_count cM_count 8 (some .int) :: gWd
def wM_holder : List Cond := .code yM_holder cM_holder 2 (some .int) :: gWd
def wM_donate : List Cond := .code yM_donate cM_donate 5 (some .int) :: gWd
def wM_refusal : List Cond := .code yM_refusal cM_refusal 5 (some .int) :: gWd
def wM_held : List Cond := .code yM_held cM_held 4 (some .int) :: gWd
def wM_lend : List Cond := .code yM_lend cM_lend 5 (some .int) :: gWd
def wM_takeBack : List Cond := .code yM_takeBack cM_takeBack 2 (some .boolean) :: gWd
def wM_destroy : List Cond := .code yM_destroy cM_destroy 3 (some .boolean) :: gWd
def wM_reclaim : List Cond := .code yM_reclaim cM_reclaim 2 (some .boolean) :: gWd
def wM_load : List Cond := .code yM_load cM_load 3 (some .boolean) :: gWd
def wM_put : List Cond := .code yM_put cM_put 2 (some .boolean) :: gWd
def wM_run : List Cond := .code yM_run cM_run 6 (some .int) :: gWd
def wM_step : List Cond := .code yM_step cM_step 11 (some .int) :: gWd
def wM_word : List Cond := .code yM_word cM_word 4 (some .int) :: gWd
def wM_turn : List Cond := .code yM_turn cM_turn 5 (some .boolean) :: gWd
def wM_info : List Cond := .code yM_info cM_info 1 (some .int) :: gWd
def wM_set : List Cond := .code yM_set cM_set 3 (some .boolean) :: gWd
def wM_register : List Cond := .code yM_register cM_register 2 (some .int) :: gWd
def wM_owner : List Cond := .code yM_owner cM_owner 2 (some .int) :: gWd
def wM_state : List Cond := .code yM_state cM_state 2 (some .int) :: gWd
def wM_pool : List Cond := .code yM_pool cM_pool 2 (some .int) :: gWd
def wM_tables : List Cond := .code yM_tables cM_tables 2 (some .int) :: gWd
end
section
theorem dK_init_0 : decode cK_init 0 = .ok (.aload_n 0, 1) := by decide +kernel
theorem dK_init_1 : decode cK_init 1 = .ok (.invokespecial 1, 3) := by decide +kernel
theorem dK_init_4 : decode cK_init 4 = .ok (.aload_n 0, 1) := by decide +kernel
theorem dK_init_5 : decode cK_init 5 = .ok (.bipush 24, 2) := by decide +kernel
theorem dK_init_7 : decode cK_init 7 = .ok (.anewarray 9, 3) := by decide +kernel
theorem dK_init_10 : decode cK_init 10 = .ok (.putfield 11, 3) := by decide +kernel
theorem dK_init_13 : decode cK_init 13 = .ok (.iconst 0, 1) := by decide +kernel
theorem dK_init_14 : decode cK_init 14 = .ok (.istore_n 1, 1) := by decide +kernel
theorem dK_init_15 : decode cK_init 15 = .ok (.iload_n 1, 1) := by decide +kernel
theorem dK_init_16 : decode cK_init 16 = .ok (.bipush 24, 2) := by decide +kernel
theorem dK_init_18 : decode cK_init 18 = .ok (.if_icmp .ge 22, 3) := by decide +kernel
theorem dK_init_21 : decode cK_init 21 = .ok (.aload_n 0, 1) := by decide +kernel
theorem dK_init_22 : decode cK_init 22 = .ok (.getfield 11, 3) := by decide +kernel
theorem dK_init_25 : decode cK_init 25 = .ok (.iload_n 1, 1) := by decide +kernel
theorem dK_init_26 : decode cK_init 26 = .ok (.new 9, 3) := by decide +kernel
theorem dK_init_29 : decode cK_init 29 = .ok (.dup, 1) := by decide +kernel
theorem dK_init_30 : decode cK_init 30 = .ok (.invokespecial 15, 3) := by decide +kernel
theorem dK_init_33 : decode cK_init 33 = .ok (.aastore, 1) := by decide +kernel
theorem dK_init_34 : decode cK_init 34 = .ok (.iinc 1 1, 3) := by decide +kernel
theorem dK_init_37 : decode cK_init 37 = .ok (.goto (-22), 3) := by decide +kernel
theorem dK_init_40 : decode cK_init 40 = .ok (.aload_n 0, 1) := by decide +kernel
theorem dK_init_41 : decode cK_init 41 = .ok (.bipush 6, 2) := by decide +kernel
theorem dK_init_43 : decode cK_init 43 = .ok (.anewarray 16, 3) := by decide +kernel
theorem dK_init_46 : decode cK_init 46 = .ok (.putfield 18, 3) := by decide +kernel
theorem dK_init_49 : decode cK_init 49 = .ok (.aload_n 0, 1) := by decide +kernel
theorem dK_init_50 : decode cK_init 50 = .ok (.iconst 4, 1) := by decide +kernel
theorem dK_init_51 : decode cK_init 51 = .ok (.newarray .int, 2) := by decide +kernel
theorem dK_init_53 : decode cK_init 53 = .ok (.putfield 22, 3) := by decide +kernel
theorem dK_init_56 : decode cK_init 56 = .ok (.return_, 1) := by decide +kernel
theorem dP_init_0 : decode cP_init 0 = .ok (.aload_n 0, 1) := by decide +kernel
theorem dP_init_1 : decode cP_init 1 = .ok (.invokespecial 3, 3) := by decide +kernel
theorem dP_init_4 : decode cP_init 4 = .ok (.aload_n 0, 1) := by decide +kernel
theorem dP_init_5 : decode cP_init 5 = .ok (.iconst 4, 1) := by decide +kernel
theorem dP_init_6 : decode cP_init 6 = .ok (.newarray .int, 2) := by decide +kernel
theorem dP_init_8 : decode cP_init 8 = .ok (.putfield 9, 3) := by decide +kernel
theorem dP_init_11 : decode cP_init 11 = .ok (.aload_n 0, 1) := by decide +kernel
theorem dP_init_12 : decode cP_init 12 = .ok (.iconst 0, 1) := by decide +kernel
theorem dP_init_13 : decode cP_init 13 = .ok (.putfield 15, 3) := by decide +kernel
theorem dP_init_16 : decode cP_init 16 = .ok (.aload_n 0, 1) := by decide +kernel
theorem dP_init_17 : decode cP_init 17 = .ok (.iconst 0, 1) := by decide +kernel
theorem dP_init_18 : decode cP_init 18 = .ok (.putfield 19, 3) := by decide +kernel
theorem dP_init_21 : decode cP_init 21 = .ok (.aload_n 0, 1) := by decide +kernel
theorem dP_init_22 : decode cP_init 22 = .ok (.iconst 0, 1) := by decide +kernel
theorem dP_init_23 : decode cP_init 23 = .ok (.putfield 22, 3) := by decide +kernel
theorem dP_init_26 : decode cP_init 26 = .ok (.return_, 1) := by decide +kernel
theorem dK_read_0 : decode cK_read 0 = .ok (.iload_n 1, 1) := by decide +kernel
theorem dK_read_1 : decode cK_read 1 = .ok (.invokestatic 26, 3) := by decide +kernel
theorem dK_read_4 : decode cK_read 4 = .ok (.ifCond .eq 23, 3) := by decide +kernel
theorem dK_read_7 : decode cK_read 7 = .ok (.iload_n 2, 1) := by decide +kernel
theorem dK_read_8 : decode cK_read 8 = .ok (.invokestatic 30, 3) := by decide +kernel
theorem dK_read_11 : decode cK_read 11 = .ok (.ifCond .eq 16, 3) := by decide +kernel
theorem dK_read_14 : decode cK_read 14 = .ok (.aload_n 0, 1) := by decide +kernel
theorem dK_read_15 : decode cK_read 15 = .ok (.aload_n 0, 1) := by decide +kernel
theorem dK_read_16 : decode cK_read 16 = .ok (.getfield 11, 3) := by decide +kernel
theorem dK_read_19 : decode cK_read 19 = .ok (.iload_n 1, 1) := by decide +kernel
theorem dK_read_20 : decode cK_read 20 = .ok (.aaload, 1) := by decide +kernel
theorem dK_read_21 : decode cK_read 21 = .ok (.invokevirtual 33, 3) := by decide +kernel
theorem dK_read_24 : decode cK_read 24 = .ok (.ifCond .ne 7, 3) := by decide +kernel
theorem dK_read_27 : decode cK_read 27 = .ok (.ldc2_w 37, 3) := by decide +kernel
theorem dK_read_30 : decode cK_read 30 = .ok (.lreturn, 1) := by decide +kernel
theorem dK_read_31 : decode cK_read 31 = .ok (.aload_n 0, 1) := by decide +kernel
theorem dK_read_32 : decode cK_read 32 = .ok (.getfield 11, 3) := by decide +kernel
theorem dK_read_35 : decode cK_read 35 = .ok (.iload_n 1, 1) := by decide +kernel
theorem dK_read_36 : decode cK_read 36 = .ok (.aaload, 1) := by decide +kernel
theorem dK_read_37 : decode cK_read 37 = .ok (.getfield 39, 3) := by decide +kernel
theorem dK_read_40 : decode cK_read 40 = .ok (.iload_n 2, 1) := by decide +kernel
theorem dK_read_41 : decode cK_read 41 = .ok (.iaload, 1) := by decide +kernel
theorem dK_read_42 : decode cK_read 42 = .ok (.i2l, 1) := by decide +kernel
theorem dK_read_43 : decode cK_read 43 = .ok (.lreturn, 1) := by decide +kernel
theorem dK_isPage_0 : decode cK_isPage 0 = .ok (.iload_n 0, 1) := by decide +kernel
theorem dK_isPage_1 : decode cK_isPage 1 = .ok (.ifCond .lt 13, 3) := by decide +kernel
theorem dK_isPage_4 : decode cK_isPage 4 = .ok (.iload_n 0, 1) := by decide +kernel
theorem dK_isPage_5 : decode cK_isPage 5 = .ok (.bipush 24, 2) := by decide +kernel
theorem dK_isPage_7 : decode cK_isPage 7 = .ok (.if_icmp .ge 7, 3) := by decide +kernel
theorem dK_isPage_10 : decode cK_isPage 10 = .ok (.iconst 1, 1) := by decide +kernel
theorem dK_isPage_11 : decode cK_isPage 11 = .ok (.goto 4, 3) := by decide +kernel
theorem dK_isPage_14 : decode cK_isPage 14 = .ok (.iconst 0, 1) := by decide +kernel
theorem dK_isPage_15 : decode cK_isPage 15 = .ok (.ireturn, 1) := by decide +kernel
theorem dK_isWord_0 : decode cK_isWord 0 = .ok (.iload_n 0, 1) := by decide +kernel
theorem dK_isWord_1 : decode cK_isWord 1 = .ok (.ifCond .lt 12, 3) := by decide +kernel
theorem dK_isWord_4 : decode cK_isWord 4 = .ok (.iload_n 0, 1) := by decide +kernel
theorem dK_isWord_5 : decode cK_isWord 5 = .ok (.iconst 4, 1) := by decide +kernel
theorem dK_isWord_6 : decode cK_isWord 6 = .ok (.if_icmp .ge 7, 3) := by decide +kernel
theorem dK_isWord_9 : decode cK_isWord 9 = .ok (.iconst 1, 1) := by decide +kernel
theorem dK_isWord_10 : decode cK_isWord 10 = .ok (.goto 4, 3) := by decide +kernel
theorem dK_isWord_13 : decode cK_isWord 13 = .ok (.iconst 0, 1) := by decide +kernel
theorem dK_isWord_14 : decode cK_isWord 14 = .ok (.ireturn, 1) := by decide +kernel
theorem dK_hostReaches_0 : decode cK_hostReaches 0 = .ok (.aload_n 1, 1) := by decide +kernel
theorem dK_hostReaches_1 : decode cK_hostReaches 1 = .ok (.getfield 135, 3) := by decide +kernel
theorem dK_hostReaches_4 : decode cK_hostReaches 4 = .ok (.ifCond .eq 5, 3) := by decide +kernel
theorem dK_hostReaches_7 : decode cK_hostReaches 7 = .ok (.iconst 1, 1) := by decide +kernel
theorem dK_hostReaches_8 : decode cK_hostReaches 8 = .ok (.ireturn, 1) := by decide +kernel
theorem dK_hostReaches_9 : decode cK_hostReaches 9 = .ok (.aload_n 0, 1) := by decide +kernel
theorem dK_hostReaches_10 : decode cK_hostReaches 10 = .ok (.dup, 1) := by decide +kernel
theorem dK_hostReaches_11 : decode cK_hostReaches 11 = .ok (.getfield 42, 3) := by decide +kernel
theorem dK_hostReaches_14 : decode cK_hostReaches 14 = .ok (.iconst 1, 1) := by decide +kernel
theorem dK_hostReaches_15 : decode cK_hostReaches 15 = .ok (.iadd, 1) := by decide +kernel
theorem dK_hostReaches_16 : decode cK_hostReaches 16 = .ok (.putfield 42, 3) := by decide +kernel
theorem dK_hostReaches_19 : decode cK_hostReaches 19 = .ok (.aload_n 1, 1) := by decide +kernel
theorem dK_hostReaches_20 : decode cK_hostReaches 20 = .ok (.aload_n 1, 1) := by decide +kernel
theorem dK_hostReaches_21 : decode cK_hostReaches 21 = .ok (.invokevirtual 141, 3) := by decide +kernel
theorem dK_hostReaches_24 : decode cK_hostReaches 24 = .ok (.putfield 135, 3) := by decide +kernel
theorem dK_hostReaches_27 : decode cK_hostReaches 27 = .ok (.aload_n 1, 1) := by decide +kernel
theorem dK_hostReaches_28 : decode cK_hostReaches 28 = .ok (.getfield 135, 3) := by decide +kernel
theorem dK_hostReaches_31 : decode cK_hostReaches 31 = .ok (.ireturn, 1) := by decide +kernel
theorem dP_isOpenToHost_0 : decode cP_isOpenToHost 0 = .ok (.aload_n 0, 1) := by decide +kernel
theorem dP_isOpenToHost_1 : decode cP_isOpenToHost 1 = .ok (.getfield 15, 3) := by decide +kernel
theorem dP_isOpenToHost_4 : decode cP_isOpenToHost 4 = .ok (.ifCond .eq 10, 3) := by decide +kernel
theorem dP_isOpenToHost_7 : decode cP_isOpenToHost 7 = .ok (.aload_n 0, 1) := by decide +kernel
theorem dP_isOpenToHost_8 : decode cP_isOpenToHost 8 = .ok (.getfield 25, 3) := by decide +kernel
theorem dP_isOpenToHost_11 : decode cP_isOpenToHost 11 = .ok (.ifCond .eq 7, 3) := by decide +kernel
theorem dP_isOpenToHost_14 : decode cP_isOpenToHost 14 = .ok (.iconst 1, 1) := by decide +kernel
theorem dP_isOpenToHost_15 : decode cP_isOpenToHost 15 = .ok (.goto 4, 3) := by decide +kernel
theorem dP_isOpenToHost_18 : decode cP_isOpenToHost 18 = .ok (.iconst 0, 1) := by decide +kernel
theorem dP_isOpenToHost_19 : decode cP_isOpenToHost 19 = .ok (.ireturn, 1) := by decide +kernel
theorem dK_write_0 : decode cK_write 0 = .ok (.iload_n 1, 1) := by decide +kernel
theorem dK_write_1 : decode cK_write 1 = .ok (.invokestatic 26, 3) := by decide +kernel
theorem dK_write_4 : decode cK_write 4 = .ok (.ifCond .eq 23, 3) := by decide +kernel
theorem dK_write_7 : decode cK_write 7 = .ok (.iload_n 2, 1) := by decide +kernel
theorem dK_write_8 : decode cK_write 8 = .ok (.invokestatic 30, 3) := by decide +kernel
theorem dK_write_11 : decode cK_write 11 = .ok (.ifCond .eq 16, 3) := by decide +kernel
theorem dK_write_14 : decode cK_write 14 = .ok (.aload_n 0, 1) := by decide +kernel
theorem dK_write_15 : decode cK_write 15 = .ok (.aload_n 0, 1) := by decide +kernel
theorem dK_write_16 : decode cK_write 16 = .ok (.getfield 11, 3) := by decide +kernel
theorem dK_write_19 : decode cK_write 19 = .ok (.iload_n 1, 1) := by decide +kernel
theorem dK_write_20 : decode cK_write 20 = .ok (.aaload, 1) := by decide +kernel
theorem dK_write_21 : decode cK_write 21 = .ok (.invokevirtual 33, 3) := by decide +kernel
theorem dK_write_24 : decode cK_write 24 = .ok (.ifCond .ne 5, 3) := by decide +kernel
theorem dK_write_27 : decode cK_write 27 = .ok (.iconst 0, 1) := by decide +kernel
theorem dK_write_28 : decode cK_write 28 = .ok (.ireturn, 1) := by decide +kernel
theorem dK_write_29 : decode cK_write 29 = .ok (.aload_n 0, 1) := by decide +kernel
theorem dK_write_30 : decode cK_write 30 = .ok (.getfield 11, 3) := by decide +kernel
theorem dK_write_33 : decode cK_write 33 = .ok (.iload_n 1, 1) := by decide +kernel
theorem dK_write_34 : decode cK_write 34 = .ok (.aaload, 1) := by decide +kernel
theorem dK_write_35 : decode cK_write 35 = .ok (.getfield 39, 3) := by decide +kernel
theorem dK_write_38 : decode cK_write 38 = .ok (.iload_n 2, 1) := by decide +kernel
theorem dK_write_39 : decode cK_write 39 = .ok (.iload_n 3, 1) := by decide +kernel
theorem dK_write_40 : decode cK_write 40 = .ok (.iastore, 1) := by decide +kernel
theorem dK_write_41 : decode cK_write 41 = .ok (.iconst 1, 1) := by decide +kernel
theorem dK_write_42 : decode cK_write 42 = .ok (.ireturn, 1) := by decide +kernel
theorem dK_faults_0 : decode cK_faults 0 = .ok (.aload_n 0, 1) := by decide +kernel
theorem dK_faults_1 : decode cK_faults 1 = .ok (.getfield 42, 3) := by decide +kernel
theorem dK_faults_4 : decode cK_faults 4 = .ok (.ireturn, 1) := by decide +kernel
theorem dK_create_0 : decode cK_create 0 = .ok (.aload_n 0, 1) := by decide +kernel
theorem dK_create_1 : decode cK_create 1 = .ok (.iload_n 1, 1) := by decide +kernel
theorem dK_create_2 : decode cK_create 2 = .ok (.invokevirtual 46, 3) := by decide +kernel
theorem dK_create_5 : decode cK_create 5 = .ok (.ifCond .ne 5, 3) := by decide +kernel
theorem dK_create_8 : decode cK_create 8 = .ok (.iconst (-1), 1) := by decide +kernel
theorem dK_create_9 : decode cK_create 9 = .ok (.ireturn, 1) := by decide +kernel
theorem dK_create_10 : decode cK_create 10 = .ok (.aload_n 0, 1) := by decide +kernel
theorem dK_create_11 : decode cK_create 11 = .ok (.getfield 49, 3) := by decide +kernel
theorem dK_create_14 : decode cK_create 14 = .ok (.bipush 6, 2) := by decide +kernel
theorem dK_create_16 : decode cK_create 16 = .ok (.if_icmp .lt 6, 3) := by decide +kernel
theorem dK_create_19 : decode cK_create 19 = .ok (.bipush (-2), 2) := by decide +kernel
theorem dK_create_21 : decode cK_create 21 = .ok (.ireturn, 1) := by decide +kernel
theorem dK_create_22 : decode cK_create 22 = .ok (.aload_n 0, 1) := by decide +kernel
theorem dK_create_23 : decode cK_create 23 = .ok (.getfield 18, 3) := by decide +kernel
theorem dK_create_26 : decode cK_create 26 = .ok (.aload_n 0, 1) := by decide +kernel
theorem dK_create_27 : decode cK_create 27 = .ok (.getfield 49, 3) := by decide +kernel
theorem dK_create_30 : decode cK_create 30 = .ok (.new 16, 3) := by decide +kernel
theorem dK_create_33 : decode cK_create 33 = .ok (.dup, 1) := by decide +kernel
theorem dK_create_34 : decode cK_create 34 = .ok (.aload_n 0, 1) := by decide +kernel
theorem dK_create_35 : decode cK_create 35 = .ok (.getfield 49, 3) := by decide +kernel
theorem dK_create_38 : decode cK_create 38 = .ok (.iconst 1, 1) := by decide +kernel
theorem dK_create_39 : decode cK_create 39 = .ok (.iadd, 1) := by decide +kernel
theorem dK_create_40 : decode cK_create 40 = .ok (.invokespecial 52, 3) := by decide +kernel
theorem dK_create_43 : decode cK_create 43 = .ok (.aastore, 1) := by decide +kernel
theorem dK_create_44 : decode cK_create 44 = .ok (.aload_n 0, 1) := by decide +kernel
theorem dK_create_45 : decode cK_create 45 = .ok (.dup, 1) := by decide +kernel
theorem dK_create_46 : decode cK_create 46 = .ok (.getfield 49, 3) := by decide +kernel
theorem dK_create_49 : decode cK_create 49 = .ok (.iconst 1, 1) := by decide +kernel
theorem dK_create_50 : decode cK_create 50 = .ok (.iadd, 1) := by decide +kernel
theorem dK_create_51 : decode cK_create 51 = .ok (.putfield 49, 3) := by decide +kernel
theorem dK_create_54 : decode cK_create 54 = .ok (.aload_n 0, 1) := by decide +kernel
theorem dK_create_55 : decode cK_create 55 = .ok (.getfield 11, 3) := by decide +kernel
theorem dK_create_58 : decode cK_create 58 = .ok (.iload_n 1, 1) := by decide +kernel
theorem dK_create_59 : decode cK_create 59 = .ok (.aaload, 1) := by decide +kernel
theorem dK_create_60 : decode cK_create 60 = .ok (.aload_n 0, 1) := by decide +kernel
theorem dK_create_61 : decode cK_create 61 = .ok (.getfield 49, 3) := by decide +kernel
theorem dK_create_64 : decode cK_create 64 = .ok (.invokevirtual 55, 3) := by decide +kernel
theorem dK_create_67 : decode cK_create 67 = .ok (.aload_n 0, 1) := by decide +kernel
theorem dK_create_68 : decode cK_create 68 = .ok (.getfield 49, 3) := by decide +kernel
theorem dK_create_71 : decode cK_create 71 = .ok (.ireturn, 1) := by decide +kernel
theorem dK_isFreePage_0 : decode cK_isFreePage 0 = .ok (.iload_n 1, 1) := by decide +kernel
theorem dK_isFreePage_1 : decode cK_isFreePage 1 = .ok (.invokestatic 26, 3) := by decide +kernel
theorem dK_isFreePage_4 : decode cK_isFreePage 4 = .ok (.ifCond .eq 31, 3) := by decide +kernel
theorem dK_isFreePage_7 : decode cK_isFreePage 7 = .ok (.aload_n 0, 1) := by decide +kernel
theorem dK_isFreePage_8 : decode cK_isFreePage 8 = .ok (.getfield 11, 3) := by decide +kernel
theorem dK_isFreePage_11 : decode cK_isFreePage 11 = .ok (.iload_n 1, 1) := by decide +kernel
theorem dK_isFreePage_12 : decode cK_isFreePage 12 = .ok (.aaload, 1) := by decide +kernel
theorem dK_isFreePage_13 : decode cK_isFreePage 13 = .ok (.getfield 103, 3) := by decide +kernel
theorem dK_isFreePage_16 : decode cK_isFreePage 16 = .ok (.ifCond .ne 19, 3) := by decide +kernel
theorem dK_isFreePage_19 : decode cK_isFreePage 19 = .ok (.aload_n 0, 1) := by decide +kernel
theorem dK_isFreePage_20 : decode cK_isFreePage 20 = .ok (.getfield 11, 3) := by decide +kernel
theorem dK_isFreePage_23 : decode cK_isFreePage 23 = .ok (.iload_n 1, 1) := by decide +kernel
theorem dK_isFreePage_24 : decode cK_isFreePage 24 = .ok (.aaload, 1) := by decide +kernel
theorem dK_isFreePage_25 : decode cK_isFreePage 25 = .ok (.getfield 86, 3) := by decide +kernel
theorem dK_isFreePage_28 : decode cK_isFreePage 28 = .ok (.ifCond .ne 7, 3) := by decide +kernel
theorem dK_isFreePage_31 : decode cK_isFreePage 31 = .ok (.iconst 1, 1) := by decide +kernel
theorem dK_isFreePage_32 : decode cK_isFreePage 32 = .ok (.goto 4, 3) := by decide +kernel
theorem dK_isFreePage_35 : decode cK_isFreePage 35 = .ok (.iconst 0, 1) := by decide +kernel
theorem dK_isFreePage_36 : decode cK_isFreePage 36 = .ok (.ireturn, 1) := by decide +kernel
theorem dG_init_0 : decode cG_init 0 = .ok (.aload_n 0, 1) := by decide +kernel
theorem dG_init_1 : decode cG_init 1 = .ok (.invokespecial 3, 3) := by decide +kernel
theorem dG_init_4 : decode cG_init 4 = .ok (.aload_n 0, 1) := by decide +kernel
theorem dG_init_5 : decode cG_init 5 = .ok (.bipush 64, 2) := by decide +kernel
theorem dG_init_7 : decode cG_init 7 = .ok (.anewarray 9, 3) := by decide +kernel
theorem dG_init_10 : decode cG_init 10 = .ok (.putfield 11, 3) := by decide +kernel
theorem dG_init_13 : decode cG_init 13 = .ok (.aload_n 0, 1) := by decide +kernel
theorem dG_init_14 : decode cG_init 14 = .ok (.iconst 2, 1) := by decide +kernel
theorem dG_init_15 : decode cG_init 15 = .ok (.anewarray 17, 3) := by decide +kernel
theorem dG_init_18 : decode cG_init 18 = .ok (.putfield 19, 3) := by decide +kernel
theorem dG_init_21 : decode cG_init 21 = .ok (.aload_n 0, 1) := by decide +kernel
theorem dG_init_22 : decode cG_init 22 = .ok (.iconst 1, 1) := by decide +kernel
theorem dG_init_23 : decode cG_init 23 = .ok (.putfield 23, 3) := by decide +kernel
theorem dG_init_26 : decode cG_init 26 = .ok (.aload_n 0, 1) := by decide +kernel
theorem dG_init_27 : decode cG_init 27 = .ok (.iload_n 1, 1) := by decide +kernel
theorem dG_init_28 : decode cG_init 28 = .ok (.putfield 27, 3) := by decide +kernel
theorem dG_init_31 : decode cG_init 31 = .ok (.iconst 0, 1) := by decide +kernel
theorem dG_init_32 : decode cG_init 32 = .ok (.istore_n 2, 1) := by decide +kernel
theorem dG_init_33 : decode cG_init 33 = .ok (.iload_n 2, 1) := by decide +kernel
theorem dG_init_34 : decode cG_init 34 = .ok (.iconst 2, 1) := by decide +kernel
theorem dG_init_35 : decode cG_init 35 = .ok (.if_icmp .ge 22, 3) := by decide +kernel
theorem dG_init_38 : decode cG_init 38 = .ok (.aload_n 0, 1) := by decide +kernel
theorem dG_init_39 : decode cG_init 39 = .ok (.getfield 19, 3) := by decide +kernel
theorem dG_init_42 : decode cG_init 42 = .ok (.iload_n 2, 1) := by decide +kernel
theorem dG_init_43 : decode cG_init 43 = .ok (.new 17, 3) := by decide +kernel
theorem dG_init_46 : decode cG_init 46 = .ok (.dup, 1) := by decide +kernel
theorem dG_init_47 : decode cG_init 47 = .ok (.invokespecial 31, 3) := by decide +kernel
theorem dG_init_50 : decode cG_init 50 = .ok (.aastore, 1) := by decide +kernel
theorem dG_init_51 : decode cG_init 51 = .ok (.iinc 2 1, 3) := by decide +kernel
theorem dG_init_54 : decode cG_init 54 = .ok (.goto (-21), 3) := by decide +kernel
theorem dG_init_57 : decode cG_init 57 = .ok (.return_, 1) := by decide +kernel
theorem dR_init_0 : decode cR_init 0 = .ok (.aload_n 0, 1) := by decide +kernel
theorem dR_init_1 : decode cR_init 1 = .ok (.invokespecial 3, 3) := by decide +kernel
theorem dR_init_4 : decode cR_init 4 = .ok (.aload_n 0, 1) := by decide +kernel
theorem dR_init_5 : decode cR_init 5 = .ok (.iconst 4, 1) := by decide +kernel
theorem dR_init_6 : decode cR_init 6 = .ok (.newarray .int, 2) := by decide +kernel
theorem dR_init_8 : decode cR_init 8 = .ok (.putfield 9, 3) := by decide +kernel
theorem dR_init_11 : decode cR_init 11 = .ok (.aload_n 0, 1) := by decide +kernel
theorem dR_init_12 : decode cR_init 12 = .ok (.iconst (-1), 1) := by decide +kernel
theorem dR_init_13 : decode cR_init 13 = .ok (.putfield 15, 3) := by decide +kernel
theorem dR_init_16 : decode cR_init 16 = .ok (.return_, 1) := by decide +kernel
theorem dP_becomeKeepers_0 : decode cP_becomeKeepers 0 = .ok (.aload_n 0, 1) := by decide +kernel
theorem dP_becomeKeepers_1 : decode cP_becomeKeepers 1 = .ok (.invokevirtual 40, 3) := by decide +kernel
theorem dP_becomeKeepers_4 : decode cP_becomeKeepers 4 = .ok (.aload_n 0, 1) := by decide +kernel
theorem dP_becomeKeepers_5 : decode cP_becomeKeepers 5 = .ok (.bipush 7, 2) := by decide +kernel
theorem dP_becomeKeepers_7 : decode cP_becomeKeepers 7 = .ok (.invokevirtual 43, 3) := by decide +kernel
theorem dP_becomeKeepers_10 : decode cP_becomeKeepers 10 = .ok (.aload_n 0, 1) := by decide +kernel
theorem dP_becomeKeepers_11 : decode cP_becomeKeepers 11 = .ok (.iload_n 1, 1) := by decide +kernel
theorem dP_becomeKeepers_12 : decode cP_becomeKeepers 12 = .ok (.putfield 22, 3) := by decide +kernel
theorem dP_becomeKeepers_15 : decode cP_becomeKeepers 15 = .ok (.return_, 1) := by decide +kernel
theorem dP_wipe_0 : decode cP_wipe 0 = .ok (.iconst 0, 1) := by decide +kernel
theorem dP_wipe_1 : decode cP_wipe 1 = .ok (.istore_n 1, 1) := by decide +kernel
theorem dP_wipe_2 : decode cP_wipe 2 = .ok (.iload_n 1, 1) := by decide +kernel
theorem dP_wipe_3 : decode cP_wipe 3 = .ok (.iconst 4, 1) := by decide +kernel
theorem dP_wipe_4 : decode cP_wipe 4 = .ok (.if_icmp .ge 16, 3) := by decide +kernel
theorem dP_wipe_7 : decode cP_wipe 7 = .ok (.aload_n 0, 1) := by decide +kernel
theorem dP_wipe_8 : decode cP_wipe 8 = .ok (.getfield 9, 3) := by decide +kernel
theorem dP_wipe_11 : decode cP_wipe 11 = .ok (.iload_n 1, 1) := by decide +kernel
theorem dP_wipe_12 : decode cP_wipe 12 = .ok (.iconst 0, 1) := by decide +kernel
theorem dP_wipe_13 : decode cP_wipe 13 = .ok (.iastore, 1) := by decide +kernel
theorem dP_wipe_14 : decode cP_wipe 14 = .ok (.iinc 1 1, 3) := by decide +kernel
theorem dP_wipe_17 : decode cP_wipe 17 = .ok (.goto (-15), 3) := by decide +kernel
theorem dP_wipe_20 : decode cP_wipe 20 = .ok (.return_, 1) := by decide +kernel
theorem dP_changeOwner_0 : decode cP_changeOwner 0 = .ok (.aload_n 0, 1) := by decide +kernel
theorem dP_changeOwner_1 : decode cP_changeOwner 1 = .ok (.iload_n 1, 1) := by decide +kernel
theorem dP_changeOwner_2 : decode cP_changeOwner 2 = .ok (.putfield 15, 3) := by decide +kernel
theorem dP_changeOwner_5 : decode cP_changeOwner 5 = .ok (.aload_n 0, 1) := by decide +kernel
theorem dP_changeOwner_6 : decode cP_changeOwner 6 = .ok (.iconst 0, 1) := by decide +kernel
theorem dP_changeOwner_7 : decode cP_changeOwner 7 = .ok (.putfield 22, 3) := by decide +kernel
theorem dP_changeOwner_10 : decode cP_changeOwner 10 = .ok (.aload_n 0, 1) := by decide +kernel
theorem dP_changeOwner_11 : decode cP_changeOwner 11 = .ok (.iconst 0, 1) := by decide +kernel
theorem dP_changeOwner_12 : decode cP_changeOwner 12 = .ok (.invokevirtual 29, 3) := by decide +kernel
theorem dP_changeOwner_15 : decode cP_changeOwner 15 = .ok (.return_, 1) := by decide +kernel
theorem dP_changeSharing_0 : decode cP_changeSharing 0 = .ok (.aload_n 0, 1) := by decide +kernel
theorem dP_changeSharing_1 : decode cP_changeSharing 1 = .ok (.iload_n 1, 1) := by decide +kernel
theorem dP_changeSharing_2 : decode cP_changeSharing 2 = .ok (.putfield 25, 3) := by decide +kernel
theorem dP_changeSharing_5 : decode cP_changeSharing 5 = .ok (.aload_n 0, 1) := by decide +kernel
theorem dP_changeSharing_6 : decode cP_changeSharing 6 = .ok (.invokevirtual 33, 3) := by decide +kernel
theorem dP_changeSharing_9 : decode cP_changeSharing 9 = .ok (.ifCond .ne 8, 3) := by decide +kernel
theorem dP_changeSharing_12 : decode cP_changeSharing 12 = .ok (.aload_n 0, 1) := by decide +kernel
theorem dP_changeSharing_13 : decode cP_changeSharing 13 = .ok (.iconst 0, 1) := by decide +kernel
theorem dP_changeSharing_14 : decode cP_changeSharing 14 = .ok (.putfield 37, 3) := by decide +kernel
theorem dP_changeSharing_17 : decode cP_changeSharing 17 = .ok (.return_, 1) := by decide +kernel
theorem dK_feed_0 : decode cK_feed 0 = .ok (.aload_n 0, 1) := by decide +kernel
theorem dK_feed_1 : decode cK_feed 1 = .ok (.iload_n 1, 1) := by decide +kernel
theorem dK_feed_2 : decode cK_feed 2 = .ok (.invokevirtual 58, 3) := by decide +kernel
theorem dK_feed_5 : decode cK_feed 5 = .ok (.astore_n 3, 1) := by decide +kernel
theorem dK_feed_6 : decode cK_feed 6 = .ok (.aload_n 3, 1) := by decide +kernel
theorem dK_feed_7 : decode cK_feed 7 = .ok (.ifnonnull 5, 3) := by decide +kernel
theorem dK_feed_10 : decode cK_feed 10 = .ok (.iconst (-1), 1) := by decide +kernel
theorem dK_feed_11 : decode cK_feed 11 = .ok (.ireturn, 1) := by decide +kernel
theorem dK_feed_12 : decode cK_feed 12 = .ok (.aload_n 0, 1) := by decide +kernel
theorem dK_feed_13 : decode cK_feed 13 = .ok (.iload_n 2, 1) := by decide +kernel
theorem dK_feed_14 : decode cK_feed 14 = .ok (.invokevirtual 46, 3) := by decide +kernel
theorem dK_feed_17 : decode cK_feed 17 = .ok (.ifCond .ne 6, 3) := by decide +kernel
theorem dK_feed_20 : decode cK_feed 20 = .ok (.bipush (-2), 2) := by decide +kernel
theorem dK_feed_22 : decode cK_feed 22 = .ok (.ireturn, 1) := by decide +kernel
theorem dK_feed_23 : decode cK_feed 23 = .ok (.aload_n 0, 1) := by decide +kernel
theorem dK_feed_24 : decode cK_feed 24 = .ok (.getfield 11, 3) := by decide +kernel
theorem dK_feed_27 : decode cK_feed 27 = .ok (.iload_n 2, 1) := by decide +kernel
theorem dK_feed_28 : decode cK_feed 28 = .ok (.aaload, 1) := by decide +kernel
theorem dK_feed_29 : decode cK_feed 29 = .ok (.iload_n 1, 1) := by decide +kernel
theorem dK_feed_30 : decode cK_feed 30 = .ok (.invokevirtual 55, 3) := by decide +kernel
theorem dK_feed_33 : decode cK_feed 33 = .ok (.aload_n 3, 1) := by decide +kernel
theorem dK_feed_34 : decode cK_feed 34 = .ok (.dup, 1) := by decide +kernel
theorem dK_feed_35 : decode cK_feed 35 = .ok (.getfield 62, 3) := by decide +kernel
theorem dK_feed_38 : decode cK_feed 38 = .ok (.iconst 1, 1) := by decide +kernel
theorem dK_feed_39 : decode cK_feed 39 = .ok (.iadd, 1) := by decide +kernel
theorem dK_feed_40 : decode cK_feed 40 = .ok (.putfield 62, 3) := by decide +kernel
theorem dK_feed_43 : decode cK_feed 43 = .ok (.aload_n 3, 1) := by decide +kernel
theorem dK_feed_44 : decode cK_feed 44 = .ok (.invokevirtual 65, 3) := by decide +kernel
theorem dK_feed_47 : decode cK_feed 47 = .ok (.ireturn, 1) := by decide +kernel
theorem dK_livingGuest_0 : decode cK_livingGuest 0 = .ok (.iload_n 1, 1) := by decide +kernel
theorem dK_livingGuest_1 : decode cK_livingGuest 1 = .ok (.iconst 1, 1) := by decide +kernel
theorem dK_livingGuest_2 : decode cK_livingGuest 2 = .ok (.if_icmp .lt 17, 3) := by decide +kernel
theorem dK_livingGuest_5 : decode cK_livingGuest 5 = .ok (.iload_n 1, 1) := by decide +kernel
theorem dK_livingGuest_6 : decode cK_livingGuest 6 = .ok (.aload_n 0, 1) := by decide +kernel
theorem dK_livingGuest_7 : decode cK_livingGuest 7 = .ok (.getfield 49, 3) := by decide +kernel
theorem dK_livingGuest_10 : decode cK_livingGuest 10 = .ok (.if_icmp .gt 9, 3) := by decide +kernel
theorem dK_livingGuest_13 : decode cK_livingGuest 13 = .ok (.iload_n 1, 1) := by decide +kernel
theorem dK_livingGuest_14 : decode cK_livingGuest 14 = .ok (.bipush 6, 2) := by decide +kernel
theorem dK_livingGuest_16 : decode cK_livingGuest 16 = .ok (.if_icmp .le 5, 3) := by decide +kernel
theorem dK_livingGuest_19 : decode cK_livingGuest 19 = .ok (.aconst_null, 1) := by decide +kernel
theorem dK_livingGuest_20 : decode cK_livingGuest 20 = .ok (.areturn, 1) := by decide +kernel
theorem dK_livingGuest_21 : decode cK_livingGuest 21 = .ok (.aload_n 0, 1) := by decide +kernel
theorem dK_livingGuest_22 : decode cK_livingGuest 22 = .ok (.getfield 18, 3) := by decide +kernel
theorem dK_livingGuest_25 : decode cK_livingGuest 25 = .ok (.iload_n 1, 1) := by decide +kernel
theorem dK_livingGuest_26 : decode cK_livingGuest 26 = .ok (.iconst 1, 1) := by decide +kernel
theorem dK_livingGuest_27 : decode cK_livingGuest 27 = .ok (.isub, 1) := by decide +kernel
theorem dK_livingGuest_28 : decode cK_livingGuest 28 = .ok (.aaload, 1) := by decide +kernel
theorem dK_livingGuest_29 : decode cK_livingGuest 29 = .ok (.astore_n 2, 1) := by decide +kernel
theorem dK_livingGuest_30 : decode cK_livingGuest 30 = .ok (.aload_n 2, 1) := by decide +kernel
theorem dK_livingGuest_31 : decode cK_livingGuest 31 = .ok (.ifnull 14, 3) := by decide +kernel
theorem dK_livingGuest_34 : decode cK_livingGuest 34 = .ok (.aload_n 2, 1) := by decide +kernel
theorem dK_livingGuest_35 : decode cK_livingGuest 35 = .ok (.getfield 97, 3) := by decide +kernel
theorem dK_livingGuest_38 : decode cK_livingGuest 38 = .ok (.ifCond .eq 7, 3) := by decide +kernel
theorem dK_livingGuest_41 : decode cK_livingGuest 41 = .ok (.aload_n 2, 1) := by decide +kernel
theorem dK_livingGuest_42 : decode cK_livingGuest 42 = .ok (.goto 4, 3) := by decide +kernel
theorem dK_livingGuest_45 : decode cK_livingGuest 45 = .ok (.aconst_null, 1) := by decide +kernel
theorem dK_livingGuest_46 : decode cK_livingGuest 46 = .ok (.areturn, 1) := by decide +kernel
theorem dG_poolSize_0 : decode cG_poolSize 0 = .ok (.aload_n 0, 1) := by decide +kernel
theorem dG_poolSize_1 : decode cG_poolSize 1 = .ok (.getfield 32, 3) := by decide +kernel
theorem dG_poolSize_4 : decode cG_poolSize 4 = .ok (.aload_n 0, 1) := by decide +kernel
theorem dG_poolSize_5 : decode cG_poolSize 5 = .ok (.invokevirtual 35, 3) := by decide +kernel
theorem dG_poolSize_8 : decode cG_poolSize 8 = .ok (.isub, 1) := by decide +kernel
theorem dG_poolSize_9 : decode cG_poolSize 9 = .ok (.ireturn, 1) := by decide +kernel
theorem dG_countTables_0 : decode cG_countTables 0 = .ok (.aload_n 0, 1) := by decide +kernel
theorem dG_countTables_1 : decode cG_countTables 1 = .ok (.bipush 16, 2) := by decide +kernel
theorem dG_countTables_3 : decode cG_countTables 3 = .ok (.invokevirtual 39, 3) := by decide +kernel
theorem dG_countTables_6 : decode cG_countTables 6 = .ok (.aload_n 0, 1) := by decide +kernel
theorem dG_countTables_7 : decode cG_countTables 7 = .ok (.iconst 4, 1) := by decide +kernel
theorem dG_countTables_8 : decode cG_countTables 8 = .ok (.invokevirtual 39, 3) := by decide +kernel
theorem dG_countTables_11 : decode cG_countTables 11 = .ok (.iadd, 1) := by decide +kernel
theorem dG_countTables_12 : decode cG_countTables 12 = .ok (.ireturn, 1) := by decide +kernel
theorem dG_countTablesOf_0 : decode cG_countTablesOf 0 = .ok (.iconst 0, 1) := by decide +kernel
theorem dG_countTablesOf_1 : decode cG_countTablesOf 1 = .ok (.istore_n 2, 1) := by decide +kernel
theorem dG_countTablesOf_2 : decode cG_countTablesOf 2 = .ok (.iconst 0, 1) := by decide +kernel
theorem dG_countTablesOf_3 : decode cG_countTablesOf 3 = .ok (.istore_n 3, 1) := by decide +kernel
theorem dG_countTablesOf_4 : decode cG_countTablesOf 4 = .ok (.iload_n 3, 1) := by decide +kernel
theorem dG_countTablesOf_5 : decode cG_countTablesOf 5 = .ok (.bipush 64, 2) := by decide +kernel
theorem dG_countTablesOf_7 : decode cG_countTablesOf 7 = .ok (.iload_n 1, 1) := by decide +kernel
theorem dG_countTablesOf_8 : decode cG_countTablesOf 8 = .ok (.idiv, 1) := by decide +kernel
theorem dG_countTablesOf_9 : decode cG_countTablesOf 9 = .ok (.if_icmp .ge 21, 3) := by decide +kernel
theorem dG_countTablesOf_12 : decode cG_countTablesOf 12 = .ok (.aload_n 0, 1) := by decide +kernel
theorem dG_countTablesOf_13 : decode cG_countTablesOf 13 = .ok (.iload_n 3, 1) := by decide +kernel
theorem dG_countTablesOf_14 : decode cG_countTablesOf 14 = .ok (.iload_n 1, 1) := by decide +kernel
theorem dG_countTablesOf_15 : decode cG_countTablesOf 15 = .ok (.invokevirtual 43, 3) := by decide +kernel
theorem dG_countTablesOf_18 : decode cG_countTablesOf 18 = .ok (.ifCond .eq 6, 3) := by decide +kernel
theorem dG_countTablesOf_21 : decode cG_countTablesOf 21 = .ok (.iinc 2 1, 3) := by decide +kernel
theorem dG_countTablesOf_24 : decode cG_countTablesOf 24 = .ok (.iinc 3 1, 3) := by decide +kernel
theorem dG_countTablesOf_27 : decode cG_countTablesOf 27 = .ok (.goto (-23), 3) := by decide +kernel
theorem dG_countTablesOf_30 : decode cG_countTablesOf 30 = .ok (.iload_n 2, 1) := by decide +kernel
theorem dG_countTablesOf_31 : decode cG_countTablesOf 31 = .ok (.ireturn, 1) := by decide +kernel
theorem dG_needsTable_0 : decode cG_needsTable 0 = .ok (.iconst 0, 1) := by decide +kernel
theorem dG_needsTable_1 : decode cG_needsTable 1 = .ok (.istore_n 3, 1) := by decide +kernel
theorem dG_needsTable_2 : decode cG_needsTable 2 = .ok (.iload_n 3, 1) := by decide +kernel
theorem dG_needsTable_3 : decode cG_needsTable 3 = .ok (.iload_n 2, 1) := by decide +kernel
theorem dG_needsTable_4 : decode cG_needsTable 4 = .ok (.if_icmp .ge 24, 3) := by decide +kernel
theorem dG_needsTable_7 : decode cG_needsTable 7 = .ok (.aload_n 0, 1) := by decide +kernel
theorem dG_needsTable_8 : decode cG_needsTable 8 = .ok (.getfield 11, 3) := by decide +kernel
theorem dG_needsTable_11 : decode cG_needsTable 11 = .ok (.iload_n 1, 1) := by decide +kernel
theorem dG_needsTable_12 : decode cG_needsTable 12 = .ok (.iload_n 2, 1) := by decide +kernel
theorem dG_needsTable_13 : decode cG_needsTable 13 = .ok (.imul, 1) := by decide +kernel
theorem dG_needsTable_14 : decode cG_needsTable 14 = .ok (.iload_n 3, 1) := by decide +kernel
theorem dG_needsTable_15 : decode cG_needsTable 15 = .ok (.iadd, 1) := by decide +kernel
theorem dG_needsTable_16 : decode cG_needsTable 16 = .ok (.aaload, 1) := by decide +kernel
theorem dG_needsTable_17 : decode cG_needsTable 17 = .ok (.ifnull 5, 3) := by decide +kernel
theorem dG_needsTable_20 : decode cG_needsTable 20 = .ok (.iconst 1, 1) := by decide +kernel
theorem dG_needsTable_21 : decode cG_needsTable 21 = .ok (.ireturn, 1) := by decide +kernel
theorem dG_needsTable_22 : decode cG_needsTable 22 = .ok (.iinc 3 1, 3) := by decide +kernel
theorem dG_needsTable_25 : decode cG_needsTable 25 = .ok (.goto (-23), 3) := by decide +kernel
theorem dG_needsTable_28 : decode cG_needsTable 28 = .ok (.iconst 0, 1) := by decide +kernel
theorem dG_needsTable_29 : decode cG_needsTable 29 = .ok (.ireturn, 1) := by decide +kernel
theorem dK_donate_0 : decode cK_donate 0 = .ok (.aload_n 0, 1) := by decide +kernel
theorem dK_donate_1 : decode cK_donate 1 = .ok (.iload_n 1, 1) := by decide +kernel
theorem dK_donate_2 : decode cK_donate 2 = .ok (.invokevirtual 58, 3) := by decide +kernel
theorem dK_donate_5 : decode cK_donate 5 = .ok (.astore 4, 2) := by decide +kernel
theorem dK_donate_7 : decode cK_donate 7 = .ok (.aload_n 0, 1) := by decide +kernel
theorem dK_donate_8 : decode cK_donate 8 = .ok (.aload 4, 2) := by decide +kernel
theorem dK_donate_10 : decode cK_donate 10 = .ok (.iload_n 2, 1) := by decide +kernel
theorem dK_donate_11 : decode cK_donate 11 = .ok (.iload_n 3, 1) := by decide +kernel
theorem dK_donate_12 : decode cK_donate 12 = .ok (.invokevirtual 69, 3) := by decide +kernel
theorem dK_donate_15 : decode cK_donate 15 = .ok (.istore 5, 2) := by decide +kernel
theorem dK_donate_17 : decode cK_donate 17 = .ok (.aload 4, 2) := by decide +kernel
theorem dK_donate_19 : decode cK_donate 19 = .ok (.ifnull 8, 3) := by decide +kernel
theorem dK_donate_22 : decode cK_donate 22 = .ok (.iload 5, 2) := by decide +kernel
theorem dK_donate_24 : decode cK_donate 24 = .ok (.ifCond .eq 6, 3) := by decide +kernel
theorem dK_donate_27 : decode cK_donate 27 = .ok (.iload 5, 2) := by decide +kernel
theorem dK_donate_29 : decode cK_donate 29 = .ok (.ireturn, 1) := by decide +kernel
theorem dK_donate_30 : decode cK_donate 30 = .ok (.aload_n 0, 1) := by decide +kernel
theorem dK_donate_31 : decode cK_donate 31 = .ok (.getfield 11, 3) := by decide +kernel
theorem dK_donate_34 : decode cK_donate 34 = .ok (.iload_n 2, 1) := by decide +kernel
theorem dK_donate_35 : decode cK_donate 35 = .ok (.aaload, 1) := by decide +kernel
theorem dK_donate_36 : decode cK_donate 36 = .ok (.astore 6, 2) := by decide +kernel
theorem dK_donate_38 : decode cK_donate 38 = .ok (.aload 4, 2) := by decide +kernel
theorem dK_donate_40 : decode cK_donate 40 = .ok (.getfield 73, 3) := by decide +kernel
theorem dK_donate_43 : decode cK_donate 43 = .ok (.ifCond .eq 8, 3) := by decide +kernel
theorem dK_donate_46 : decode cK_donate 46 = .ok (.aload 6, 2) := by decide +kernel
theorem dK_donate_48 : decode cK_donate 48 = .ok (.invokevirtual 77, 3) := by decide +kernel
theorem dK_donate_51 : decode cK_donate 51 = .ok (.aload 6, 2) := by decide +kernel
theorem dK_donate_53 : decode cK_donate 53 = .ok (.iload_n 1, 1) := by decide +kernel
theorem dK_donate_54 : decode cK_donate 54 = .ok (.invokevirtual 80, 3) := by decide +kernel
theorem dK_donate_57 : decode cK_donate 57 = .ok (.aload 4, 2) := by decide +kernel
theorem dK_donate_59 : decode cK_donate 59 = .ok (.getfield 83, 3) := by decide +kernel
theorem dK_donate_62 : decode cK_donate 62 = .ok (.iload_n 3, 1) := by decide +kernel
theorem dK_donate_63 : decode cK_donate 63 = .ok (.aload 6, 2) := by decide +kernel
theorem dK_donate_65 : decode cK_donate 65 = .ok (.aastore, 1) := by decide +kernel
theorem dK_donate_66 : decode cK_donate 66 = .ok (.iconst 0, 1) := by decide +kernel
theorem dK_donate_67 : decode cK_donate 67 = .ok (.ireturn, 1) := by decide +kernel
theorem dK_placingRefusal_0 : decode cK_placingRefusal 0 = .ok (.aload_n 1, 1) := by decide +kernel
theorem dK_placingRefusal_1 : decode cK_placingRefusal 1 = .ok (.ifnonnull 5, 3) := by decide +kernel
theorem dK_placingRefusal_4 : decode cK_placingRefusal 4 = .ok (.iconst (-1), 1) := by decide +kernel
theorem dK_placingRefusal_5 : decode cK_placingRefusal 5 = .ok (.ireturn, 1) := by decide +kernel
theorem dK_placingRefusal_6 : decode cK_placingRefusal 6 = .ok (.aload_n 0, 1) := by decide +kernel
theorem dK_placingRefusal_7 : decode cK_placingRefusal 7 = .ok (.iload_n 2, 1) := by decide +kernel
theorem dK_placingRefusal_8 : decode cK_placingRefusal 8 = .ok (.invokevirtual 46, 3) := by decide +kernel
theorem dK_placingRefusal_11 : decode cK_placingRefusal 11 = .ok (.ifCond .ne 6, 3) := by decide +kernel
theorem dK_placingRefusal_14 : decode cK_placingRefusal 14 = .ok (.bipush (-2), 2) := by decide +kernel
theorem dK_placingRefusal_16 : decode cK_placingRefusal 16 = .ok (.ireturn, 1) := by decide +kernel
theorem dK_placingRefusal_17 : decode cK_placingRefusal 17 = .ok (.iload_n 3, 1) := by decide +kernel
theorem dK_placingRefusal_18 : decode cK_placingRefusal 18 = .ok (.ifCond .lt 18, 3) := by decide +kernel
theorem dK_placingRefusal_21 : decode cK_placingRefusal 21 = .ok (.iload_n 3, 1) := by decide +kernel
theorem dK_placingRefusal_22 : decode cK_placingRefusal 22 = .ok (.bipush 64, 2) := by decide +kernel
theorem dK_placingRefusal_24 : decode cK_placingRefusal 24 = .ok (.if_icmp .ge 12, 3) := by decide +kernel
theorem dK_placingRefusal_27 : decode cK_placingRefusal 27 = .ok (.aload_n 1, 1) := by decide +kernel
theorem dK_placingRefusal_28 : decode cK_placingRefusal 28 = .ok (.getfield 83, 3) := by decide +kernel
theorem dK_placingRefusal_31 : decode cK_placingRefusal 31 = .ok (.iload_n 3, 1) := by decide +kernel
theorem dK_placingRefusal_32 : decode cK_placingRefusal 32 = .ok (.aaload, 1) := by decide +kernel
theorem dK_placingRefusal_33 : decode cK_placingRefusal 33 = .ok (.ifnull 6, 3) := by decide +kernel
theorem dK_placingRefusal_36 : decode cK_placingRefusal 36 = .ok (.bipush (-3), 2) := by decide +kernel
theorem dK_placingRefusal_38 : decode cK_placingRefusal 38 = .ok (.ireturn, 1) := by decide +kernel
theorem dK_placingRefusal_39 : decode cK_placingRefusal 39 = .ok (.aload_n 1, 1) := by decide +kernel
theorem dK_placingRefusal_40 : decode cK_placingRefusal 40 = .ok (.invokevirtual 65, 3) := by decide +kernel
theorem dK_placingRefusal_43 : decode cK_placingRefusal 43 = .ok (.aload_n 1, 1) := by decide +kernel
theorem dK_placingRefusal_44 : decode cK_placingRefusal 44 = .ok (.iload_n 3, 1) := by decide +kernel
theorem dK_placingRefusal_45 : decode cK_placingRefusal 45 = .ok (.invokevirtual 145, 3) := by decide +kernel
theorem dK_placingRefusal_48 : decode cK_placingRefusal 48 = .ok (.if_icmp .ge 8, 3) := by decide +kernel
theorem dK_placingRefusal_51 : decode cK_placingRefusal 51 = .ok (.bipush (-4), 2) := by decide +kernel
theorem dK_placingRefusal_53 : decode cK_placingRefusal 53 = .ok (.goto 4, 3) := by decide +kernel
theorem dK_placingRefusal_56 : decode cK_placingRefusal 56 = .ok (.iconst 0, 1) := by decide +kernel
theorem dK_placingRefusal_57 : decode cK_placingRefusal 57 = .ok (.ireturn, 1) := by decide +kernel
theorem dG_newTablesFor_0 : decode cG_newTablesFor 0 = .ok (.aload_n 0, 1) := by decide +kernel
theorem dG_newTablesFor_1 : decode cG_newTablesFor 1 = .ok (.iload_n 1, 1) := by decide +kernel
theorem dG_newTablesFor_2 : decode cG_newTablesFor 2 = .ok (.bipush 16, 2) := by decide +kernel
theorem dG_newTablesFor_4 : decode cG_newTablesFor 4 = .ok (.idiv, 1) := by decide +kernel
theorem dG_newTablesFor_5 : decode cG_newTablesFor 5 = .ok (.bipush 16, 2) := by decide +kernel
theorem dG_newTablesFor_7 : decode cG_newTablesFor 7 = .ok (.invokevirtual 43, 3) := by decide +kernel
theorem dG_newTablesFor_10 : decode cG_newTablesFor 10 = .ok (.ifCond .eq 7, 3) := by decide +kernel
theorem dG_newTablesFor_13 : decode cG_newTablesFor 13 = .ok (.iconst 0, 1) := by decide +kernel
theorem dG_newTablesFor_14 : decode cG_newTablesFor 14 = .ok (.goto 4, 3) := by decide +kernel
theorem dG_newTablesFor_17 : decode cG_newTablesFor 17 = .ok (.iconst 1, 1) := by decide +kernel
theorem dG_newTablesFor_18 : decode cG_newTablesFor 18 = .ok (.istore_n 2, 1) := by decide +kernel
theorem dG_newTablesFor_19 : decode cG_newTablesFor 19 = .ok (.aload_n 0, 1) := by decide +kernel
theorem dG_newTablesFor_20 : decode cG_newTablesFor 20 = .ok (.iload_n 1, 1) := by decide +kernel
theorem dG_newTablesFor_21 : decode cG_newTablesFor 21 = .ok (.iconst 4, 1) := by decide +kernel
theorem dG_newTablesFor_22 : decode cG_newTablesFor 22 = .ok (.idiv, 1) := by decide +kernel
theorem dG_newTablesFor_23 : decode cG_newTablesFor 23 = .ok (.iconst 4, 1) := by decide +kernel
theorem dG_newTablesFor_24 : decode cG_newTablesFor 24 = .ok (.invokevirtual 43, 3) := by decide +kernel
theorem dG_newTablesFor_27 : decode cG_newTablesFor 27 = .ok (.ifCond .eq 7, 3) := by decide +kernel
theorem dG_newTablesFor_30 : decode cG_newTablesFor 30 = .ok (.iconst 0, 1) := by decide +kernel
theorem dG_newTablesFor_31 : decode cG_newTablesFor 31 = .ok (.goto 4, 3) := by decide +kernel
theorem dG_newTablesFor_34 : decode cG_newTablesFor 34 = .ok (.iconst 1, 1) := by decide +kernel
theorem dG_newTablesFor_35 : decode cG_newTablesFor 35 = .ok (.istore_n 3, 1) := by decide +kernel
theorem dG_newTablesFor_36 : decode cG_newTablesFor 36 = .ok (.iload_n 2, 1) := by decide +kernel
theorem dG_newTablesFor_37 : decode cG_newTablesFor 37 = .ok (.iload_n 3, 1) := by decide +kernel
theorem dG_newTablesFor_38 : decode cG_newTablesFor 38 = .ok (.iadd, 1) := by decide +kernel
theorem dG_newTablesFor_39 : decode cG_newTablesFor 39 = .ok (.ireturn, 1) := by decide +kernel
theorem dK_lend_0 : decode cK_lend 0 = .ok (.aload_n 0, 1) := by decide +kernel
theorem dK_lend_1 : decode cK_lend 1 = .ok (.iload_n 1, 1) := by decide +kernel
theorem dK_lend_2 : decode cK_lend 2 = .ok (.invokevirtual 58, 3) := by decide +kernel
theorem dK_lend_5 : decode cK_lend 5 = .ok (.astore 4, 2) := by decide +kernel
theorem dK_lend_7 : decode cK_lend 7 = .ok (.aload_n 0, 1) := by decide +kernel
theorem dK_lend_8 : decode cK_lend 8 = .ok (.aload 4, 2) := by decide +kernel
theorem dK_lend_10 : decode cK_lend 10 = .ok (.iload_n 2, 1) := by decide +kernel
theorem dK_lend_11 : decode cK_lend 11 = .ok (.iload_n 3, 1) := by decide +kernel
theorem dK_lend_12 : decode cK_lend 12 = .ok (.invokevirtual 69, 3) := by decide +kernel
theorem dK_lend_15 : decode cK_lend 15 = .ok (.istore 5, 2) := by decide +kernel
theorem dK_lend_17 : decode cK_lend 17 = .ok (.aload 4, 2) := by decide +kernel
theorem dK_lend_19 : decode cK_lend 19 = .ok (.ifnull 8, 3) := by decide +kernel
theorem dK_lend_22 : decode cK_lend 22 = .ok (.iload 5, 2) := by decide +kernel
theorem dK_lend_24 : decode cK_lend 24 = .ok (.ifCond .eq 6, 3) := by decide +kernel
theorem dK_lend_27 : decode cK_lend 27 = .ok (.iload 5, 2) := by decide +kernel
theorem dK_lend_29 : decode cK_lend 29 = .ok (.ireturn, 1) := by decide +kernel
theorem dK_lend_30 : decode cK_lend 30 = .ok (.aload_n 0, 1) := by decide +kernel
theorem dK_lend_31 : decode cK_lend 31 = .ok (.getfield 11, 3) := by decide +kernel
theorem dK_lend_34 : decode cK_lend 34 = .ok (.iload_n 2, 1) := by decide +kernel
theorem dK_lend_35 : decode cK_lend 35 = .ok (.aaload, 1) := by decide +kernel
theorem dK_lend_36 : decode cK_lend 36 = .ok (.iload_n 1, 1) := by decide +kernel
theorem dK_lend_37 : decode cK_lend 37 = .ok (.putfield 86, 3) := by decide +kernel
theorem dK_lend_40 : decode cK_lend 40 = .ok (.aload 4, 2) := by decide +kernel
theorem dK_lend_42 : decode cK_lend 42 = .ok (.getfield 83, 3) := by decide +kernel
theorem dK_lend_45 : decode cK_lend 45 = .ok (.iload_n 3, 1) := by decide +kernel
theorem dK_lend_46 : decode cK_lend 46 = .ok (.aload_n 0, 1) := by decide +kernel
theorem dK_lend_47 : decode cK_lend 47 = .ok (.getfield 11, 3) := by decide +kernel
theorem dK_lend_50 : decode cK_lend 50 = .ok (.iload_n 2, 1) := by decide +kernel
theorem dK_lend_51 : decode cK_lend 51 = .ok (.aaload, 1) := by decide +kernel
theorem dK_lend_52 : decode cK_lend 52 = .ok (.aastore, 1) := by decide +kernel
theorem dK_lend_53 : decode cK_lend 53 = .ok (.iconst 0, 1) := by decide +kernel
theorem dK_lend_54 : decode cK_lend 54 = .ok (.ireturn, 1) := by decide +kernel
theorem dK_takeBack_0 : decode cK_takeBack 0 = .ok (.iload_n 1, 1) := by decide +kernel
theorem dK_takeBack_1 : decode cK_takeBack 1 = .ok (.invokestatic 26, 3) := by decide +kernel
theorem dK_takeBack_4 : decode cK_takeBack 4 = .ok (.ifCond .eq 15, 3) := by decide +kernel
theorem dK_takeBack_7 : decode cK_takeBack 7 = .ok (.aload_n 0, 1) := by decide +kernel
theorem dK_takeBack_8 : decode cK_takeBack 8 = .ok (.getfield 11, 3) := by decide +kernel
theorem dK_takeBack_11 : decode cK_takeBack 11 = .ok (.iload_n 1, 1) := by decide +kernel
theorem dK_takeBack_12 : decode cK_takeBack 12 = .ok (.aaload, 1) := by decide +kernel
theorem dK_takeBack_13 : decode cK_takeBack 13 = .ok (.getfield 86, 3) := by decide +kernel
theorem dK_takeBack_16 : decode cK_takeBack 16 = .ok (.ifCond .ne 5, 3) := by decide +kernel
theorem dK_takeBack_19 : decode cK_takeBack 19 = .ok (.iconst 0, 1) := by decide +kernel
theorem dK_takeBack_20 : decode cK_takeBack 20 = .ok (.ireturn, 1) := by decide +kernel
theorem dK_takeBack_21 : decode cK_takeBack 21 = .ok (.aload_n 0, 1) := by decide +kernel
theorem dK_takeBack_22 : decode cK_takeBack 22 = .ok (.getfield 11, 3) := by decide +kernel
theorem dK_takeBack_25 : decode cK_takeBack 25 = .ok (.iload_n 1, 1) := by decide +kernel
theorem dK_takeBack_26 : decode cK_takeBack 26 = .ok (.aaload, 1) := by decide +kernel
theorem dK_takeBack_27 : decode cK_takeBack 27 = .ok (.astore_n 2, 1) := by decide +kernel
theorem dK_takeBack_28 : decode cK_takeBack 28 = .ok (.aload_n 0, 1) := by decide +kernel
theorem dK_takeBack_29 : decode cK_takeBack 29 = .ok (.aload_n 2, 1) := by decide +kernel
theorem dK_takeBack_30 : decode cK_takeBack 30 = .ok (.getfield 86, 3) := by decide +kernel
theorem dK_takeBack_33 : decode cK_takeBack 33 = .ok (.invokevirtual 58, 3) := by decide +kernel
theorem dK_takeBack_36 : decode cK_takeBack 36 = .ok (.astore_n 3, 1) := by decide +kernel
theorem dK_takeBack_37 : decode cK_takeBack 37 = .ok (.aload_n 3, 1) := by decide +kernel
theorem dK_takeBack_38 : decode cK_takeBack 38 = .ok (.ifnull 8, 3) := by decide +kernel
theorem dK_takeBack_41 : decode cK_takeBack 41 = .ok (.aload_n 3, 1) := by decide +kernel
theorem dK_takeBack_42 : decode cK_takeBack 42 = .ok (.aload_n 2, 1) := by decide +kernel
theorem dK_takeBack_43 : decode cK_takeBack 43 = .ok (.invokevirtual 89, 3) := by decide +kernel
theorem dK_takeBack_46 : decode cK_takeBack 46 = .ok (.aload_n 2, 1) := by decide +kernel
theorem dK_takeBack_47 : decode cK_takeBack 47 = .ok (.iconst 0, 1) := by decide +kernel
theorem dK_takeBack_48 : decode cK_takeBack 48 = .ok (.putfield 86, 3) := by decide +kernel
theorem dK_takeBack_51 : decode cK_takeBack 51 = .ok (.iconst 1, 1) := by decide +kernel
theorem dK_takeBack_52 : decode cK_takeBack 52 = .ok (.ireturn, 1) := by decide +kernel
theorem dG_removePage_0 : decode cG_removePage 0 = .ok (.iconst 0, 1) := by decide +kernel
theorem dG_removePage_1 : decode cG_removePage 1 = .ok (.istore_n 2, 1) := by decide +kernel
theorem dG_removePage_2 : decode cG_removePage 2 = .ok (.iload_n 2, 1) := by decide +kernel
theorem dG_removePage_3 : decode cG_removePage 3 = .ok (.bipush 64, 2) := by decide +kernel
theorem dG_removePage_5 : decode cG_removePage 5 = .ok (.if_icmp .ge 26, 3) := by decide +kernel
theorem dG_removePage_8 : decode cG_removePage 8 = .ok (.aload_n 0, 1) := by decide +kernel
theorem dG_removePage_9 : decode cG_removePage 9 = .ok (.getfield 11, 3) := by decide +kernel
theorem dG_removePage_12 : decode cG_removePage 12 = .ok (.iload_n 2, 1) := by decide +kernel
theorem dG_removePage_13 : decode cG_removePage 13 = .ok (.aaload, 1) := by decide +kernel
theorem dG_removePage_14 : decode cG_removePage 14 = .ok (.aload_n 1, 1) := by decide +kernel
theorem dG_removePage_15 : decode cG_removePage 15 = .ok (.if_acmp .ne 10, 3) := by decide +kernel
theorem dG_removePage_18 : decode cG_removePage 18 = .ok (.aload_n 0, 1) := by decide +kernel
theorem dG_removePage_19 : decode cG_removePage 19 = .ok (.getfield 11, 3) := by decide +kernel
theorem dG_removePage_22 : decode cG_removePage 22 = .ok (.iload_n 2, 1) := by decide +kernel
theorem dG_removePage_23 : decode cG_removePage 23 = .ok (.aconst_null, 1) := by decide +kernel
theorem dG_removePage_24 : decode cG_removePage 24 = .ok (.aastore, 1) := by decide +kernel
theorem dG_removePage_25 : decode cG_removePage 25 = .ok (.iinc 2 1, 3) := by decide +kernel
theorem dG_removePage_28 : decode cG_removePage 28 = .ok (.goto (-26), 3) := by decide +kernel
theorem dG_removePage_31 : decode cG_removePage 31 = .ok (.return_, 1) := by decide +kernel
theorem dK_destroy_0 : decode cK_destroy 0 = .ok (.aload_n 0, 1) := by decide +kernel
theorem dK_destroy_1 : decode cK_destroy 1 = .ok (.iload_n 1, 1) := by decide +kernel
theorem dK_destroy_2 : decode cK_destroy 2 = .ok (.invokevirtual 58, 3) := by decide +kernel
theorem dK_destroy_5 : decode cK_destroy 5 = .ok (.astore_n 2, 1) := by decide +kernel
theorem dK_destroy_6 : decode cK_destroy 6 = .ok (.aload_n 2, 1) := by decide +kernel
theorem dK_destroy_7 : decode cK_destroy 7 = .ok (.ifnull 11, 3) := by decide +kernel
theorem dK_destroy_10 : decode cK_destroy 10 = .ok (.aload_n 2, 1) := by decide +kernel
theorem dK_destroy_11 : decode cK_destroy 11 = .ok (.aload_n 0, 1) := by decide +kernel
theorem dK_destroy_12 : decode cK_destroy 12 = .ok (.getfield 93, 3) := by decide +kernel
theorem dK_destroy_15 : decode cK_destroy 15 = .ok (.if_acmp .ne 5, 3) := by decide +kernel
theorem dK_destroy_18 : decode cK_destroy 18 = .ok (.iconst 0, 1) := by decide +kernel
theorem dK_destroy_19 : decode cK_destroy 19 = .ok (.ireturn, 1) := by decide +kernel
theorem dK_destroy_20 : decode cK_destroy 20 = .ok (.aload_n 2, 1) := by decide +kernel
theorem dK_destroy_21 : decode cK_destroy 21 = .ok (.iconst 0, 1) := by decide +kernel
theorem dK_destroy_22 : decode cK_destroy 22 = .ok (.putfield 97, 3) := by decide +kernel
theorem dK_destroy_25 : decode cK_destroy 25 = .ok (.iconst 0, 1) := by decide +kernel
theorem dK_destroy_26 : decode cK_destroy 26 = .ok (.istore_n 3, 1) := by decide +kernel
theorem dK_destroy_27 : decode cK_destroy 27 = .ok (.iload_n 3, 1) := by decide +kernel
theorem dK_destroy_28 : decode cK_destroy 28 = .ok (.bipush 24, 2) := by decide +kernel
theorem dK_destroy_30 : decode cK_destroy 30 = .ok (.if_icmp .ge 19, 3) := by decide +kernel
theorem dK_destroy_33 : decode cK_destroy 33 = .ok (.aload_n 0, 1) := by decide +kernel
theorem dK_destroy_34 : decode cK_destroy 34 = .ok (.getfield 11, 3) := by decide +kernel
theorem dK_destroy_37 : decode cK_destroy 37 = .ok (.iload_n 3, 1) := by decide +kernel
theorem dK_destroy_38 : decode cK_destroy 38 = .ok (.aaload, 1) := by decide +kernel
theorem dK_destroy_39 : decode cK_destroy 39 = .ok (.iload_n 1, 1) := by decide +kernel
theorem dK_destroy_40 : decode cK_destroy 40 = .ok (.invokevirtual 100, 3) := by decide +kernel
theorem dK_destroy_43 : decode cK_destroy 43 = .ok (.iinc 3 1, 3) := by decide +kernel
theorem dK_destroy_46 : decode cK_destroy 46 = .ok (.goto (-19), 3) := by decide +kernel
theorem dK_destroy_49 : decode cK_destroy 49 = .ok (.iconst 1, 1) := by decide +kernel
theorem dK_destroy_50 : decode cK_destroy 50 = .ok (.ireturn, 1) := by decide +kernel
theorem dP_loseGuest_0 : decode cP_loseGuest 0 = .ok (.aload_n 0, 1) := by decide +kernel
theorem dP_loseGuest_1 : decode cP_loseGuest 1 = .ok (.getfield 15, 3) := by decide +kernel
theorem dP_loseGuest_4 : decode cP_loseGuest 4 = .ok (.iload_n 1, 1) := by decide +kernel
theorem dP_loseGuest_5 : decode cP_loseGuest 5 = .ok (.if_icmp .eq 11, 3) := by decide +kernel
theorem dP_loseGuest_8 : decode cP_loseGuest 8 = .ok (.aload_n 0, 1) := by decide +kernel
theorem dP_loseGuest_9 : decode cP_loseGuest 9 = .ok (.getfield 22, 3) := by decide +kernel
theorem dP_loseGuest_12 : decode cP_loseGuest 12 = .ok (.iload_n 1, 1) := by decide +kernel
theorem dP_loseGuest_13 : decode cP_loseGuest 13 = .ok (.if_icmp .ne 9, 3) := by decide +kernel
theorem dP_loseGuest_16 : decode cP_loseGuest 16 = .ok (.aload_n 0, 1) := by decide +kernel
theorem dP_loseGuest_17 : decode cP_loseGuest 17 = .ok (.bipush 8, 2) := by decide +kernel
theorem dP_loseGuest_19 : decode cP_loseGuest 19 = .ok (.invokevirtual 43, 3) := by decide +kernel
theorem dP_loseGuest_22 : decode cP_loseGuest 22 = .ok (.aload_n 0, 1) := by decide +kernel
theorem dP_loseGuest_23 : decode cP_loseGuest 23 = .ok (.getfield 19, 3) := by decide +kernel
theorem dP_loseGuest_26 : decode cP_loseGuest 26 = .ok (.iload_n 1, 1) := by decide +kernel
theorem dP_loseGuest_27 : decode cP_loseGuest 27 = .ok (.if_icmp .ne 8, 3) := by decide +kernel
theorem dP_loseGuest_30 : decode cP_loseGuest 30 = .ok (.aload_n 0, 1) := by decide +kernel
theorem dP_loseGuest_31 : decode cP_loseGuest 31 = .ok (.iconst 0, 1) := by decide +kernel
theorem dP_loseGuest_32 : decode cP_loseGuest 32 = .ok (.putfield 19, 3) := by decide +kernel
theorem dP_loseGuest_35 : decode cP_loseGuest 35 = .ok (.return_, 1) := by decide +kernel
theorem dK_reclaim_0 : decode cK_reclaim 0 = .ok (.iload_n 1, 1) := by decide +kernel
theorem dK_reclaim_1 : decode cK_reclaim 1 = .ok (.invokestatic 26, 3) := by decide +kernel
theorem dK_reclaim_4 : decode cK_reclaim 4 = .ok (.ifCond .eq 17, 3) := by decide +kernel
theorem dK_reclaim_7 : decode cK_reclaim 7 = .ok (.aload_n 0, 1) := by decide +kernel
theorem dK_reclaim_8 : decode cK_reclaim 8 = .ok (.getfield 11, 3) := by decide +kernel
theorem dK_reclaim_11 : decode cK_reclaim 11 = .ok (.iload_n 1, 1) := by decide +kernel
theorem dK_reclaim_12 : decode cK_reclaim 12 = .ok (.aaload, 1) := by decide +kernel
theorem dK_reclaim_13 : decode cK_reclaim 13 = .ok (.getfield 103, 3) := by decide +kernel
theorem dK_reclaim_16 : decode cK_reclaim 16 = .ok (.bipush 8, 2) := by decide +kernel
theorem dK_reclaim_18 : decode cK_reclaim 18 = .ok (.if_icmp .eq 5, 3) := by decide +kernel
theorem dK_reclaim_21 : decode cK_reclaim 21 = .ok (.iconst 0, 1) := by decide +kernel
theorem dK_reclaim_22 : decode cK_reclaim 22 = .ok (.ireturn, 1) := by decide +kernel
theorem dK_reclaim_23 : decode cK_reclaim 23 = .ok (.aload_n 0, 1) := by decide +kernel
theorem dK_reclaim_24 : decode cK_reclaim 24 = .ok (.getfield 11, 3) := by decide +kernel
theorem dK_reclaim_27 : decode cK_reclaim 27 = .ok (.iload_n 1, 1) := by decide +kernel
theorem dK_reclaim_28 : decode cK_reclaim 28 = .ok (.aaload, 1) := by decide +kernel
theorem dK_reclaim_29 : decode cK_reclaim 29 = .ok (.invokevirtual 77, 3) := by decide +kernel
theorem dK_reclaim_32 : decode cK_reclaim 32 = .ok (.aload_n 0, 1) := by decide +kernel
theorem dK_reclaim_33 : decode cK_reclaim 33 = .ok (.getfield 11, 3) := by decide +kernel
theorem dK_reclaim_36 : decode cK_reclaim 36 = .ok (.iload_n 1, 1) := by decide +kernel
theorem dK_reclaim_37 : decode cK_reclaim 37 = .ok (.aaload, 1) := by decide +kernel
theorem dK_reclaim_38 : decode cK_reclaim 38 = .ok (.iconst 0, 1) := by decide +kernel
theorem dK_reclaim_39 : decode cK_reclaim 39 = .ok (.invokevirtual 80, 3) := by decide +kernel
theorem dK_reclaim_42 : decode cK_reclaim 42 = .ok (.iconst 1, 1) := by decide +kernel
theorem dK_reclaim_43 : decode cK_reclaim 43 = .ok (.ireturn, 1) := by decide +kernel
theorem dK_load_0 : decode cK_load 0 = .ok (.aload_n 0, 1) := by decide +kernel
theorem dK_load_1 : decode cK_load 1 = .ok (.iload_n 1, 1) := by decide +kernel
theorem dK_load_2 : decode cK_load 2 = .ok (.invokevirtual 58, 3) := by decide +kernel
theorem dK_load_5 : decode cK_load 5 = .ok (.astore_n 3, 1) := by decide +kernel
theorem dK_load_6 : decode cK_load 6 = .ok (.aload_n 0, 1) := by decide +kernel
theorem dK_load_7 : decode cK_load 7 = .ok (.getfield 106, 3) := by decide +kernel
theorem dK_load_10 : decode cK_load 10 = .ok (.ifnonnull 16, 3) := by decide +kernel
theorem dK_load_13 : decode cK_load 13 = .ok (.aload_n 3, 1) := by decide +kernel
theorem dK_load_14 : decode cK_load 14 = .ok (.ifnull 12, 3) := by decide +kernel
theorem dK_load_17 : decode cK_load 17 = .ok (.iload_n 2, 1) := by decide +kernel
theorem dK_load_18 : decode cK_load 18 = .ok (.ifCond .lt 8, 3) := by decide +kernel
theorem dK_load_21 : decode cK_load 21 = .ok (.iload_n 2, 1) := by decide +kernel
theorem dK_load_22 : decode cK_load 22 = .ok (.iconst 2, 1) := by decide +kernel
theorem dK_load_23 : decode cK_load 23 = .ok (.if_icmp .lt 5, 3) := by decide +kernel
theorem dK_load_26 : decode cK_load 26 = .ok (.iconst 0, 1) := by decide +kernel
theorem dK_load_27 : decode cK_load 27 = .ok (.ireturn, 1) := by decide +kernel
theorem dK_load_28 : decode cK_load 28 = .ok (.aload_n 3, 1) := by decide +kernel
theorem dK_load_29 : decode cK_load 29 = .ok (.iconst 1, 1) := by decide +kernel
theorem dK_load_30 : decode cK_load 30 = .ok (.putfield 73, 3) := by decide +kernel
theorem dK_load_33 : decode cK_load 33 = .ok (.aload_n 0, 1) := by decide +kernel
theorem dK_load_34 : decode cK_load 34 = .ok (.aload_n 3, 1) := by decide +kernel
theorem dK_load_35 : decode cK_load 35 = .ok (.putfield 93, 3) := by decide +kernel
theorem dK_load_38 : decode cK_load 38 = .ok (.aload_n 0, 1) := by decide +kernel
theorem dK_load_39 : decode cK_load 39 = .ok (.aload_n 3, 1) := by decide +kernel
theorem dK_load_40 : decode cK_load 40 = .ok (.getfield 110, 3) := by decide +kernel
theorem dK_load_43 : decode cK_load 43 = .ok (.iload_n 2, 1) := by decide +kernel
theorem dK_load_44 : decode cK_load 44 = .ok (.aaload, 1) := by decide +kernel
theorem dK_load_45 : decode cK_load 45 = .ok (.putfield 106, 3) := by decide +kernel
theorem dK_load_48 : decode cK_load 48 = .ok (.iconst 1, 1) := by decide +kernel
theorem dK_load_49 : decode cK_load 49 = .ok (.ireturn, 1) := by decide +kernel
theorem dK_put_0 : decode cK_put 0 = .ok (.aload_n 0, 1) := by decide +kernel
theorem dK_put_1 : decode cK_put 1 = .ok (.getfield 106, 3) := by decide +kernel
theorem dK_put_4 : decode cK_put 4 = .ok (.ifnonnull 5, 3) := by decide +kernel
theorem dK_put_7 : decode cK_put 7 = .ok (.iconst 0, 1) := by decide +kernel
theorem dK_put_8 : decode cK_put 8 = .ok (.ireturn, 1) := by decide +kernel
theorem dK_put_9 : decode cK_put 9 = .ok (.aload_n 0, 1) := by decide +kernel
theorem dK_put_10 : decode cK_put 10 = .ok (.aconst_null, 1) := by decide +kernel
theorem dK_put_11 : decode cK_put 11 = .ok (.putfield 93, 3) := by decide +kernel
theorem dK_put_14 : decode cK_put 14 = .ok (.aload_n 0, 1) := by decide +kernel
theorem dK_put_15 : decode cK_put 15 = .ok (.aconst_null, 1) := by decide +kernel
theorem dK_put_16 : decode cK_put 16 = .ok (.putfield 106, 3) := by decide +kernel
theorem dK_put_19 : decode cK_put 19 = .ok (.iconst 1, 1) := by decide +kernel
theorem dK_put_20 : decode cK_put 20 = .ok (.ireturn, 1) := by decide +kernel
theorem dK_run_0 : decode cK_run 0 = .ok (.aload_n 0, 1) := by decide +kernel
theorem dK_run_1 : decode cK_run 1 = .ok (.getfield 106, 3) := by decide +kernel
theorem dK_run_4 : decode cK_run 4 = .ok (.ifnull 21, 3) := by decide +kernel
theorem dK_run_7 : decode cK_run 7 = .ok (.aload_n 0, 1) := by decide +kernel
theorem dK_run_8 : decode cK_run 8 = .ok (.getfield 93, 3) := by decide +kernel
theorem dK_run_11 : decode cK_run 11 = .ok (.ifnull 14, 3) := by decide +kernel
theorem dK_run_14 : decode cK_run 14 = .ok (.iload_n 1, 1) := by decide +kernel
theorem dK_run_15 : decode cK_run 15 = .ok (.iconst 1, 1) := by decide +kernel
theorem dK_run_16 : decode cK_run 16 = .ok (.if_icmp .lt 9, 3) := by decide +kernel
theorem dK_run_19 : decode cK_run 19 = .ok (.iload_n 1, 1) := by decide +kernel
theorem dK_run_20 : decode cK_run 20 = .ok (.bipush 64, 2) := by decide +kernel
theorem dK_run_22 : decode cK_run 22 = .ok (.if_icmp .le 5, 3) := by decide +kernel
end
section
theorem dK_run_25 : decode cK_run 25 = .ok (.iconst (-1), 1) := by decide +kernel
theorem dK_run_26 : decode cK_run 26 = .ok (.ireturn, 1) := by decide +kernel
theorem dK_run_27 : decode cK_run 27 = .ok (.aload_n 0, 1) := by decide +kernel
theorem dK_run_28 : decode cK_run 28 = .ok (.getfield 106, 3) := by decide +kernel
theorem dK_run_31 : decode cK_run 31 = .ok (.iload_n 2, 1) := by decide +kernel
theorem dK_run_32 : decode cK_run 32 = .ok (.invokevirtual 114, 3) := by decide +kernel
theorem dK_run_35 : decode cK_run 35 = .ok (.aload_n 0, 1) := by decide +kernel
theorem dK_run_36 : decode cK_run 36 = .ok (.getfield 106, 3) := by decide +kernel
theorem dK_run_39 : decode cK_run 39 = .ok (.iload_n 1, 1) := by decide +kernel
theorem dK_run_40 : decode cK_run 40 = .ok (.aload_n 0, 1) := by decide +kernel
theorem dK_run_41 : decode cK_run 41 = .ok (.getfield 93, 3) := by decide +kernel
theorem dK_run_44 : decode cK_run 44 = .ok (.invokevirtual 119, 3) := by decide +kernel
theorem dK_run_47 : decode cK_run 47 = .ok (.istore_n 3, 1) := by decide +kernel
theorem dK_run_48 : decode cK_run 48 = .ok (.aload_n 0, 1) := by decide +kernel
theorem dK_run_49 : decode cK_run 49 = .ok (.aload_n 0, 1) := by decide +kernel
theorem dK_run_50 : decode cK_run 50 = .ok (.getfield 106, 3) := by decide +kernel
theorem dK_run_53 : decode cK_run 53 = .ok (.getfield 123, 3) := by decide +kernel
theorem dK_run_56 : decode cK_run 56 = .ok (.putfield 126, 3) := by decide +kernel
theorem dK_run_59 : decode cK_run 59 = .ok (.iload_n 3, 1) := by decide +kernel
theorem dK_run_60 : decode cK_run 60 = .ok (.ireturn, 1) := by decide +kernel
theorem dR_receiveAnswer_0 : decode cR_receiveAnswer 0 = .ok (.aload_n 0, 1) := by decide +kernel
theorem dR_receiveAnswer_1 : decode cR_receiveAnswer 1 = .ok (.getfield 15, 3) := by decide +kernel
theorem dR_receiveAnswer_4 : decode cR_receiveAnswer 4 = .ok (.iconst (-1), 1) := by decide +kernel
theorem dR_receiveAnswer_5 : decode cR_receiveAnswer 5 = .ok (.if_icmp .eq 18, 3) := by decide +kernel
theorem dR_receiveAnswer_8 : decode cR_receiveAnswer 8 = .ok (.aload_n 0, 1) := by decide +kernel
theorem dR_receiveAnswer_9 : decode cR_receiveAnswer 9 = .ok (.getfield 9, 3) := by decide +kernel
theorem dR_receiveAnswer_12 : decode cR_receiveAnswer 12 = .ok (.aload_n 0, 1) := by decide +kernel
theorem dR_receiveAnswer_13 : decode cR_receiveAnswer 13 = .ok (.getfield 15, 3) := by decide +kernel
theorem dR_receiveAnswer_16 : decode cR_receiveAnswer 16 = .ok (.iload_n 1, 1) := by decide +kernel
theorem dR_receiveAnswer_17 : decode cR_receiveAnswer 17 = .ok (.iastore, 1) := by decide +kernel
theorem dR_receiveAnswer_18 : decode cR_receiveAnswer 18 = .ok (.aload_n 0, 1) := by decide +kernel
theorem dR_receiveAnswer_19 : decode cR_receiveAnswer 19 = .ok (.iconst (-1), 1) := by decide +kernel
theorem dR_receiveAnswer_20 : decode cR_receiveAnswer 20 = .ok (.putfield 15, 3) := by decide +kernel
theorem dR_receiveAnswer_23 : decode cR_receiveAnswer 23 = .ok (.return_, 1) := by decide +kernel
theorem dR_makeSteps_0 : decode cR_makeSteps 0 = .ok (.aload_n 0, 1) := by decide +kernel
theorem dR_makeSteps_1 : decode cR_makeSteps 1 = .ok (.iconst 0, 1) := by decide +kernel
theorem dR_makeSteps_2 : decode cR_makeSteps 2 = .ok (.putfield 19, 3) := by decide +kernel
theorem dR_makeSteps_5 : decode cR_makeSteps 5 = .ok (.iconst 0, 1) := by decide +kernel
theorem dR_makeSteps_6 : decode cR_makeSteps 6 = .ok (.istore_n 3, 1) := by decide +kernel
theorem dR_makeSteps_7 : decode cR_makeSteps 7 = .ok (.iload_n 3, 1) := by decide +kernel
theorem dR_makeSteps_8 : decode cR_makeSteps 8 = .ok (.iload_n 1, 1) := by decide +kernel
theorem dR_makeSteps_9 : decode cR_makeSteps 9 = .ok (.if_icmp .ge 24, 3) := by decide +kernel
theorem dR_makeSteps_12 : decode cR_makeSteps 12 = .ok (.aload_n 0, 1) := by decide +kernel
theorem dR_makeSteps_13 : decode cR_makeSteps 13 = .ok (.aload_n 2, 1) := by decide +kernel
theorem dR_makeSteps_14 : decode cR_makeSteps 14 = .ok (.invokevirtual 22, 3) := by decide +kernel
theorem dR_makeSteps_17 : decode cR_makeSteps 17 = .ok (.istore 4, 2) := by decide +kernel
theorem dR_makeSteps_19 : decode cR_makeSteps 19 = .ok (.iload 4, 2) := by decide +kernel
theorem dR_makeSteps_21 : decode cR_makeSteps 21 = .ok (.ifCond .eq 6, 3) := by decide +kernel
theorem dR_makeSteps_24 : decode cR_makeSteps 24 = .ok (.iload 4, 2) := by decide +kernel
theorem dR_makeSteps_26 : decode cR_makeSteps 26 = .ok (.ireturn, 1) := by decide +kernel
theorem dR_makeSteps_27 : decode cR_makeSteps 27 = .ok (.iinc 3 1, 3) := by decide +kernel
theorem dR_makeSteps_30 : decode cR_makeSteps 30 = .ok (.goto (-23), 3) := by decide +kernel
theorem dR_makeSteps_33 : decode cR_makeSteps 33 = .ok (.iconst 0, 1) := by decide +kernel
theorem dR_makeSteps_34 : decode cR_makeSteps 34 = .ok (.ireturn, 1) := by decide +kernel
theorem dR_makeStep_0 : decode cR_makeStep 0 = .ok (.aload_n 1, 1) := by decide +kernel
theorem dR_makeStep_1 : decode cR_makeStep 1 = .ok (.aload_n 0, 1) := by decide +kernel
theorem dR_makeStep_2 : decode cR_makeStep 2 = .ok (.getfield 26, 3) := by decide +kernel
theorem dR_makeStep_5 : decode cR_makeStep 5 = .ok (.invokevirtual 29, 3) := by decide +kernel
theorem dR_makeStep_8 : decode cR_makeStep 8 = .ok (.astore_n 2, 1) := by decide +kernel
theorem dR_makeStep_9 : decode cR_makeStep 9 = .ok (.aload_n 2, 1) := by decide +kernel
theorem dR_makeStep_10 : decode cR_makeStep 10 = .ok (.ifnonnull 12, 3) := by decide +kernel
theorem dR_makeStep_13 : decode cR_makeStep 13 = .ok (.aload_n 0, 1) := by decide +kernel
theorem dR_makeStep_14 : decode cR_makeStep 14 = .ok (.aload_n 0, 1) := by decide +kernel
theorem dR_makeStep_15 : decode cR_makeStep 15 = .ok (.getfield 26, 3) := by decide +kernel
theorem dR_makeStep_18 : decode cR_makeStep 18 = .ok (.invokevirtual 35, 3) := by decide +kernel
theorem dR_makeStep_21 : decode cR_makeStep 21 = .ok (.ireturn, 1) := by decide +kernel
theorem dR_makeStep_22 : decode cR_makeStep 22 = .ok (.aload_n 0, 1) := by decide +kernel
theorem dR_makeStep_23 : decode cR_makeStep 23 = .ok (.aload_n 2, 1) := by decide +kernel
theorem dR_makeStep_24 : decode cR_makeStep 24 = .ok (.getfield 39, 3) := by decide +kernel
theorem dR_makeStep_27 : decode cR_makeStep 27 = .ok (.aload_n 0, 1) := by decide +kernel
theorem dR_makeStep_28 : decode cR_makeStep 28 = .ok (.getfield 26, 3) := by decide +kernel
theorem dR_makeStep_31 : decode cR_makeStep 31 = .ok (.iconst 4, 1) := by decide +kernel
theorem dR_makeStep_32 : decode cR_makeStep 32 = .ok (.irem, 1) := by decide +kernel
theorem dR_makeStep_33 : decode cR_makeStep 33 = .ok (.iaload, 1) := by decide +kernel
theorem dR_makeStep_34 : decode cR_makeStep 34 = .ok (.aload_n 1, 1) := by decide +kernel
theorem dR_makeStep_35 : decode cR_makeStep 35 = .ok (.invokevirtual 44, 3) := by decide +kernel
theorem dR_makeStep_38 : decode cR_makeStep 38 = .ok (.ireturn, 1) := by decide +kernel
theorem dG_pageAtAddress_0 : decode cG_pageAtAddress 0 = .ok (.aload_n 0, 1) := by decide +kernel
theorem dG_pageAtAddress_1 : decode cG_pageAtAddress 1 = .ok (.getfield 11, 3) := by decide +kernel
theorem dG_pageAtAddress_4 : decode cG_pageAtAddress 4 = .ok (.iload_n 1, 1) := by decide +kernel
theorem dG_pageAtAddress_5 : decode cG_pageAtAddress 5 = .ok (.iconst 4, 1) := by decide +kernel
theorem dG_pageAtAddress_6 : decode cG_pageAtAddress 6 = .ok (.idiv, 1) := by decide +kernel
theorem dG_pageAtAddress_7 : decode cG_pageAtAddress 7 = .ok (.aaload, 1) := by decide +kernel
theorem dG_pageAtAddress_8 : decode cG_pageAtAddress 8 = .ok (.areturn, 1) := by decide +kernel
theorem dR_faultAt_0 : decode cR_faultAt 0 = .ok (.aload_n 0, 1) := by decide +kernel
theorem dR_faultAt_1 : decode cR_faultAt 1 = .ok (.iload_n 1, 1) := by decide +kernel
theorem dR_faultAt_2 : decode cR_faultAt 2 = .ok (.putfield 19, 3) := by decide +kernel
theorem dR_faultAt_5 : decode cR_faultAt 5 = .ok (.iconst 1, 1) := by decide +kernel
theorem dR_faultAt_6 : decode cR_faultAt 6 = .ok (.ireturn, 1) := by decide +kernel
theorem dR_perform_0 : decode cR_perform 0 = .ok (.iload_n 1, 1) := by decide +kernel
theorem dR_perform_1 : decode cR_perform 1 = .ok (.bipush 15, 2) := by decide +kernel
theorem dR_perform_3 : decode cR_perform 3 = .ok (.iand, 1) := by decide +kernel
theorem dR_perform_4 : decode cR_perform 4 = .ok (.istore_n 3, 1) := by decide +kernel
theorem dR_perform_5 : decode cR_perform 5 = .ok (.iload_n 1, 1) := by decide +kernel
theorem dR_perform_6 : decode cR_perform 6 = .ok (.iconst 4, 1) := by decide +kernel
theorem dR_perform_7 : decode cR_perform 7 = .ok (.ishr, 1) := by decide +kernel
theorem dR_perform_8 : decode cR_perform 8 = .ok (.iconst 3, 1) := by decide +kernel
theorem dR_perform_9 : decode cR_perform 9 = .ok (.iand, 1) := by decide +kernel
theorem dR_perform_10 : decode cR_perform 10 = .ok (.istore 4, 2) := by decide +kernel
theorem dR_perform_12 : decode cR_perform 12 = .ok (.iload_n 1, 1) := by decide +kernel
theorem dR_perform_13 : decode cR_perform 13 = .ok (.bipush 6, 2) := by decide +kernel
theorem dR_perform_15 : decode cR_perform 15 = .ok (.ishr, 1) := by decide +kernel
theorem dR_perform_16 : decode cR_perform 16 = .ok (.iconst 3, 1) := by decide +kernel
theorem dR_perform_17 : decode cR_perform 17 = .ok (.iand, 1) := by decide +kernel
theorem dR_perform_18 : decode cR_perform 18 = .ok (.istore 5, 2) := by decide +kernel
theorem dR_perform_20 : decode cR_perform 20 = .ok (.iload_n 1, 1) := by decide +kernel
theorem dR_perform_21 : decode cR_perform 21 = .ok (.bipush 8, 2) := by decide +kernel
theorem dR_perform_23 : decode cR_perform 23 = .ok (.ishr, 1) := by decide +kernel
theorem dR_perform_24 : decode cR_perform 24 = .ok (.istore 6, 2) := by decide +kernel
theorem dR_perform_26 : decode cR_perform 26 = .ok (.aload_n 0, 1) := by decide +kernel
theorem dR_perform_27 : decode cR_perform 27 = .ok (.getfield 26, 3) := by decide +kernel
theorem dR_perform_30 : decode cR_perform 30 = .ok (.iconst 1, 1) := by decide +kernel
theorem dR_perform_31 : decode cR_perform 31 = .ok (.iadd, 1) := by decide +kernel
theorem dR_perform_32 : decode cR_perform 32 = .ok (.sipush 255, 3) := by decide +kernel
theorem dR_perform_35 : decode cR_perform 35 = .ok (.iand, 1) := by decide +kernel
theorem dR_perform_36 : decode cR_perform 36 = .ok (.istore 7, 2) := by decide +kernel
theorem dR_perform_38 : decode cR_perform 38 = .ok (.iconst 0, 1) := by decide +kernel
theorem dR_perform_39 : decode cR_perform 39 = .ok (.istore 8, 2) := by decide +kernel
theorem dR_perform_41 : decode cR_perform 41 = .ok (.iload_n 3, 1) := by decide +kernel
theorem dR_perform_42 : decode cR_perform 42 = .ok (.tableswitch 250 0 10 #[58, 64, 76, 96, 96, 132, 158, 158, 201, 218, 230], 58) := by decide +kernel
theorem dR_perform_100 : decode cR_perform 100 = .ok (.iconst 4, 1) := by decide +kernel
theorem dR_perform_101 : decode cR_perform 101 = .ok (.istore 8, 2) := by decide +kernel
theorem dR_perform_103 : decode cR_perform 103 = .ok (.goto 192, 3) := by decide +kernel
theorem dR_perform_106 : decode cR_perform 106 = .ok (.aload_n 0, 1) := by decide +kernel
theorem dR_perform_107 : decode cR_perform 107 = .ok (.getfield 9, 3) := by decide +kernel
theorem dR_perform_110 : decode cR_perform 110 = .ok (.iload 4, 2) := by decide +kernel
theorem dR_perform_112 : decode cR_perform 112 = .ok (.iload 6, 2) := by decide +kernel
theorem dR_perform_114 : decode cR_perform 114 = .ok (.iastore, 1) := by decide +kernel
theorem dR_perform_115 : decode cR_perform 115 = .ok (.goto 180, 3) := by decide +kernel
theorem dR_perform_118 : decode cR_perform 118 = .ok (.aload_n 0, 1) := by decide +kernel
theorem dR_perform_119 : decode cR_perform 119 = .ok (.getfield 9, 3) := by decide +kernel
theorem dR_perform_122 : decode cR_perform 122 = .ok (.iload 4, 2) := by decide +kernel
theorem dR_perform_124 : decode cR_perform 124 = .ok (.dup2, 1) := by decide +kernel
theorem dR_perform_125 : decode cR_perform 125 = .ok (.iaload, 1) := by decide +kernel
theorem dR_perform_126 : decode cR_perform 126 = .ok (.aload_n 0, 1) := by decide +kernel
theorem dR_perform_127 : decode cR_perform 127 = .ok (.getfield 9, 3) := by decide +kernel
theorem dR_perform_130 : decode cR_perform 130 = .ok (.iload 5, 2) := by decide +kernel
theorem dR_perform_132 : decode cR_perform 132 = .ok (.iaload, 1) := by decide +kernel
theorem dR_perform_133 : decode cR_perform 133 = .ok (.iadd, 1) := by decide +kernel
theorem dR_perform_134 : decode cR_perform 134 = .ok (.iastore, 1) := by decide +kernel
theorem dR_perform_135 : decode cR_perform 135 = .ok (.goto 160, 3) := by decide +kernel
theorem dR_perform_138 : decode cR_perform 138 = .ok (.aload_n 0, 1) := by decide +kernel
theorem dR_perform_139 : decode cR_perform 139 = .ok (.iload_n 3, 1) := by decide +kernel
theorem dR_perform_140 : decode cR_perform 140 = .ok (.iconst 3, 1) := by decide +kernel
theorem dR_perform_141 : decode cR_perform 141 = .ok (.if_icmp .ne 7, 3) := by decide +kernel
theorem dR_perform_144 : decode cR_perform 144 = .ok (.iconst 1, 1) := by decide +kernel
theorem dR_perform_145 : decode cR_perform 145 = .ok (.goto 4, 3) := by decide +kernel
theorem dR_perform_148 : decode cR_perform 148 = .ok (.iconst 0, 1) := by decide +kernel
theorem dR_perform_149 : decode cR_perform 149 = .ok (.iload 4, 2) := by decide +kernel
theorem dR_perform_151 : decode cR_perform 151 = .ok (.aload_n 0, 1) := by decide +kernel
theorem dR_perform_152 : decode cR_perform 152 = .ok (.getfield 9, 3) := by decide +kernel
theorem dR_perform_155 : decode cR_perform 155 = .ok (.iload 5, 2) := by decide +kernel
theorem dR_perform_157 : decode cR_perform 157 = .ok (.iaload, 1) := by decide +kernel
theorem dR_perform_158 : decode cR_perform 158 = .ok (.iload 6, 2) := by decide +kernel
theorem dR_perform_160 : decode cR_perform 160 = .ok (.iadd, 1) := by decide +kernel
theorem dR_perform_161 : decode cR_perform 161 = .ok (.sipush 255, 3) := by decide +kernel
theorem dR_perform_164 : decode cR_perform 164 = .ok (.iand, 1) := by decide +kernel
theorem dR_perform_165 : decode cR_perform 165 = .ok (.aload_n 2, 1) := by decide +kernel
theorem dR_perform_166 : decode cR_perform 166 = .ok (.invokevirtual 48, 3) := by decide +kernel
theorem dR_perform_169 : decode cR_perform 169 = .ok (.istore 8, 2) := by decide +kernel
theorem dR_perform_171 : decode cR_perform 171 = .ok (.goto 124, 3) := by decide +kernel
theorem dR_perform_174 : decode cR_perform 174 = .ok (.aload_n 0, 1) := by decide +kernel
theorem dR_perform_175 : decode cR_perform 175 = .ok (.getfield 9, 3) := by decide +kernel
theorem dR_perform_178 : decode cR_perform 178 = .ok (.iload 4, 2) := by decide +kernel
theorem dR_perform_180 : decode cR_perform 180 = .ok (.iaload, 1) := by decide +kernel
theorem dR_perform_181 : decode cR_perform 181 = .ok (.ifCond .eq 12, 3) := by decide +kernel
theorem dR_perform_184 : decode cR_perform 184 = .ok (.iload 6, 2) := by decide +kernel
theorem dR_perform_186 : decode cR_perform 186 = .ok (.sipush 255, 3) := by decide +kernel
theorem dR_perform_189 : decode cR_perform 189 = .ok (.iand, 1) := by decide +kernel
theorem dR_perform_190 : decode cR_perform 190 = .ok (.goto 5, 3) := by decide +kernel
theorem dR_perform_193 : decode cR_perform 193 = .ok (.iload 7, 2) := by decide +kernel
theorem dR_perform_195 : decode cR_perform 195 = .ok (.istore 7, 2) := by decide +kernel
theorem dR_perform_197 : decode cR_perform 197 = .ok (.goto 98, 3) := by decide +kernel
theorem dR_perform_200 : decode cR_perform 200 = .ok (.aload_n 0, 1) := by decide +kernel
theorem dR_perform_201 : decode cR_perform 201 = .ok (.getfield 9, 3) := by decide +kernel
theorem dR_perform_204 : decode cR_perform 204 = .ok (.iload 4, 2) := by decide +kernel
theorem dR_perform_206 : decode cR_perform 206 = .ok (.aload_n 2, 1) := by decide +kernel
theorem dR_perform_207 : decode cR_perform 207 = .ok (.aload_n 0, 1) := by decide +kernel
theorem dR_perform_208 : decode cR_perform 208 = .ok (.getfield 9, 3) := by decide +kernel
theorem dR_perform_211 : decode cR_perform 211 = .ok (.iload 4, 2) := by decide +kernel
theorem dR_perform_213 : decode cR_perform 213 = .ok (.iaload, 1) := by decide +kernel
theorem dR_perform_214 : decode cR_perform 214 = .ok (.bipush 63, 2) := by decide +kernel
theorem dR_perform_216 : decode cR_perform 216 = .ok (.iand, 1) := by decide +kernel
theorem dR_perform_217 : decode cR_perform 217 = .ok (.iload_n 3, 1) := by decide +kernel
theorem dR_perform_218 : decode cR_perform 218 = .ok (.bipush 6, 2) := by decide +kernel
theorem dR_perform_220 : decode cR_perform 220 = .ok (.if_icmp .ne 7, 3) := by decide +kernel
theorem dR_perform_223 : decode cR_perform 223 = .ok (.iconst 1, 1) := by decide +kernel
theorem dR_perform_224 : decode cR_perform 224 = .ok (.goto 4, 3) := by decide +kernel
theorem dR_perform_227 : decode cR_perform 227 = .ok (.iconst 0, 1) := by decide +kernel
theorem dR_perform_228 : decode cR_perform 228 = .ok (.invokevirtual 52, 3) := by decide +kernel
theorem dR_perform_231 : decode cR_perform 231 = .ok (.ifCond .eq 7, 3) := by decide +kernel
theorem dR_perform_234 : decode cR_perform 234 = .ok (.iconst 1, 1) := by decide +kernel
theorem dR_perform_235 : decode cR_perform 235 = .ok (.goto 4, 3) := by decide +kernel
theorem dR_perform_238 : decode cR_perform 238 = .ok (.iconst 0, 1) := by decide +kernel
theorem dR_perform_239 : decode cR_perform 239 = .ok (.iastore, 1) := by decide +kernel
theorem dR_perform_240 : decode cR_perform 240 = .ok (.goto 55, 3) := by decide +kernel
theorem dR_perform_243 : decode cR_perform 243 = .ok (.aload_n 0, 1) := by decide +kernel
theorem dR_perform_244 : decode cR_perform 244 = .ok (.aload_n 0, 1) := by decide +kernel
theorem dR_perform_245 : decode cR_perform 245 = .ok (.getfield 9, 3) := by decide +kernel
theorem dR_perform_248 : decode cR_perform 248 = .ok (.iload 4, 2) := by decide +kernel
theorem dR_perform_250 : decode cR_perform 250 = .ok (.iaload, 1) := by decide +kernel
theorem dR_perform_251 : decode cR_perform 251 = .ok (.putfield 19, 3) := by decide +kernel
theorem dR_perform_254 : decode cR_perform 254 = .ok (.iconst 2, 1) := by decide +kernel
theorem dR_perform_255 : decode cR_perform 255 = .ok (.istore 8, 2) := by decide +kernel
theorem dR_perform_257 : decode cR_perform 257 = .ok (.goto 38, 3) := by decide +kernel
theorem dR_perform_260 : decode cR_perform 260 = .ok (.aload_n 0, 1) := by decide +kernel
theorem dR_perform_261 : decode cR_perform 261 = .ok (.iload 4, 2) := by decide +kernel
theorem dR_perform_263 : decode cR_perform 263 = .ok (.putfield 15, 3) := by decide +kernel
theorem dR_perform_266 : decode cR_perform 266 = .ok (.iconst 3, 1) := by decide +kernel
theorem dR_perform_267 : decode cR_perform 267 = .ok (.istore 8, 2) := by decide +kernel
theorem dR_perform_269 : decode cR_perform 269 = .ok (.goto 26, 3) := by decide +kernel
theorem dR_perform_272 : decode cR_perform 272 = .ok (.aload_n 0, 1) := by decide +kernel
theorem dR_perform_273 : decode cR_perform 273 = .ok (.getfield 9, 3) := by decide +kernel
theorem dR_perform_276 : decode cR_perform 276 = .ok (.iload 4, 2) := by decide +kernel
theorem dR_perform_278 : decode cR_perform 278 = .ok (.dup2, 1) := by decide +kernel
theorem dR_perform_279 : decode cR_perform 279 = .ok (.iaload, 1) := by decide +kernel
theorem dR_perform_280 : decode cR_perform 280 = .ok (.aload_n 0, 1) := by decide +kernel
theorem dR_perform_281 : decode cR_perform 281 = .ok (.getfield 9, 3) := by decide +kernel
theorem dR_perform_284 : decode cR_perform 284 = .ok (.iload 5, 2) := by decide +kernel
theorem dR_perform_286 : decode cR_perform 286 = .ok (.iaload, 1) := by decide +kernel
theorem dR_perform_287 : decode cR_perform 287 = .ok (.ixor, 1) := by decide +kernel
theorem dR_perform_288 : decode cR_perform 288 = .ok (.iastore, 1) := by decide +kernel
theorem dR_perform_289 : decode cR_perform 289 = .ok (.goto 6, 3) := by decide +kernel
theorem dR_perform_292 : decode cR_perform 292 = .ok (.iconst 5, 1) := by decide +kernel
theorem dR_perform_293 : decode cR_perform 293 = .ok (.istore 8, 2) := by decide +kernel
theorem dR_perform_295 : decode cR_perform 295 = .ok (.iload 8, 2) := by decide +kernel
theorem dR_perform_297 : decode cR_perform 297 = .ok (.iconst 1, 1) := by decide +kernel
theorem dR_perform_298 : decode cR_perform 298 = .ok (.if_icmp .eq 15, 3) := by decide +kernel
theorem dR_perform_301 : decode cR_perform 301 = .ok (.iload 8, 2) := by decide +kernel
theorem dR_perform_303 : decode cR_perform 303 = .ok (.iconst 5, 1) := by decide +kernel
theorem dR_perform_304 : decode cR_perform 304 = .ok (.if_icmp .eq 9, 3) := by decide +kernel
theorem dR_perform_307 : decode cR_perform 307 = .ok (.aload_n 0, 1) := by decide +kernel
theorem dR_perform_308 : decode cR_perform 308 = .ok (.iload 7, 2) := by decide +kernel
theorem dR_perform_310 : decode cR_perform 310 = .ok (.putfield 26, 3) := by decide +kernel
theorem dR_perform_313 : decode cR_perform 313 = .ok (.iload 8, 2) := by decide +kernel
theorem dR_perform_315 : decode cR_perform 315 = .ok (.ireturn, 1) := by decide +kernel
theorem dR_moveWord_0 : decode cR_moveWord 0 = .ok (.aload 4, 2) := by decide +kernel
theorem dR_moveWord_2 : decode cR_moveWord 2 = .ok (.iload_n 3, 1) := by decide +kernel
theorem dR_moveWord_3 : decode cR_moveWord 3 = .ok (.invokevirtual 29, 3) := by decide +kernel
theorem dR_moveWord_6 : decode cR_moveWord 6 = .ok (.astore 5, 2) := by decide +kernel
theorem dR_moveWord_8 : decode cR_moveWord 8 = .ok (.aload 5, 2) := by decide +kernel
theorem dR_moveWord_10 : decode cR_moveWord 10 = .ok (.ifnonnull 9, 3) := by decide +kernel
theorem dR_moveWord_13 : decode cR_moveWord 13 = .ok (.aload_n 0, 1) := by decide +kernel
theorem dR_moveWord_14 : decode cR_moveWord 14 = .ok (.iload_n 3, 1) := by decide +kernel
theorem dR_moveWord_15 : decode cR_moveWord 15 = .ok (.invokevirtual 35, 3) := by decide +kernel
theorem dR_moveWord_18 : decode cR_moveWord 18 = .ok (.ireturn, 1) := by decide +kernel
theorem dR_moveWord_19 : decode cR_moveWord 19 = .ok (.iload_n 1, 1) := by decide +kernel
theorem dR_moveWord_20 : decode cR_moveWord 20 = .ok (.ifCond .eq 21, 3) := by decide +kernel
theorem dR_moveWord_23 : decode cR_moveWord 23 = .ok (.aload_n 0, 1) := by decide +kernel
theorem dR_moveWord_24 : decode cR_moveWord 24 = .ok (.getfield 9, 3) := by decide +kernel
theorem dR_moveWord_27 : decode cR_moveWord 27 = .ok (.iload_n 2, 1) := by decide +kernel
theorem dR_moveWord_28 : decode cR_moveWord 28 = .ok (.aload 5, 2) := by decide +kernel
theorem dR_moveWord_30 : decode cR_moveWord 30 = .ok (.getfield 39, 3) := by decide +kernel
theorem dR_moveWord_33 : decode cR_moveWord 33 = .ok (.iload_n 3, 1) := by decide +kernel
theorem dR_moveWord_34 : decode cR_moveWord 34 = .ok (.iconst 4, 1) := by decide +kernel
theorem dR_moveWord_35 : decode cR_moveWord 35 = .ok (.irem, 1) := by decide +kernel
theorem dR_moveWord_36 : decode cR_moveWord 36 = .ok (.iaload, 1) := by decide +kernel
theorem dR_moveWord_37 : decode cR_moveWord 37 = .ok (.iastore, 1) := by decide +kernel
theorem dR_moveWord_38 : decode cR_moveWord 38 = .ok (.goto 18, 3) := by decide +kernel
theorem dR_moveWord_41 : decode cR_moveWord 41 = .ok (.aload 5, 2) := by decide +kernel
theorem dR_moveWord_43 : decode cR_moveWord 43 = .ok (.getfield 39, 3) := by decide +kernel
theorem dR_moveWord_46 : decode cR_moveWord 46 = .ok (.iload_n 3, 1) := by decide +kernel
theorem dR_moveWord_47 : decode cR_moveWord 47 = .ok (.iconst 4, 1) := by decide +kernel
theorem dR_moveWord_48 : decode cR_moveWord 48 = .ok (.irem, 1) := by decide +kernel
theorem dR_moveWord_49 : decode cR_moveWord 49 = .ok (.aload_n 0, 1) := by decide +kernel
theorem dR_moveWord_50 : decode cR_moveWord 50 = .ok (.getfield 9, 3) := by decide +kernel
theorem dR_moveWord_53 : decode cR_moveWord 53 = .ok (.iload_n 2, 1) := by decide +kernel
theorem dR_moveWord_54 : decode cR_moveWord 54 = .ok (.iaload, 1) := by decide +kernel
theorem dR_moveWord_55 : decode cR_moveWord 55 = .ok (.iastore, 1) := by decide +kernel
theorem dR_moveWord_56 : decode cR_moveWord 56 = .ok (.iconst 0, 1) := by decide +kernel
theorem dR_moveWord_57 : decode cR_moveWord 57 = .ok (.ireturn, 1) := by decide +kernel
theorem dG_changeSharingAt_0 : decode cG_changeSharingAt 0 = .ok (.aload_n 0, 1) := by decide +kernel
theorem dG_changeSharingAt_1 : decode cG_changeSharingAt 1 = .ok (.getfield 11, 3) := by decide +kernel
theorem dG_changeSharingAt_4 : decode cG_changeSharingAt 4 = .ok (.iload_n 1, 1) := by decide +kernel
theorem dG_changeSharingAt_5 : decode cG_changeSharingAt 5 = .ok (.aaload, 1) := by decide +kernel
theorem dG_changeSharingAt_6 : decode cG_changeSharingAt 6 = .ok (.astore_n 3, 1) := by decide +kernel
theorem dG_changeSharingAt_7 : decode cG_changeSharingAt 7 = .ok (.aload_n 3, 1) := by decide +kernel
theorem dG_changeSharingAt_8 : decode cG_changeSharingAt 8 = .ok (.ifnull 22, 3) := by decide +kernel
theorem dG_changeSharingAt_11 : decode cG_changeSharingAt 11 = .ok (.aload_n 3, 1) := by decide +kernel
theorem dG_changeSharingAt_12 : decode cG_changeSharingAt 12 = .ok (.getfield 47, 3) := by decide +kernel
theorem dG_changeSharingAt_15 : decode cG_changeSharingAt 15 = .ok (.aload_n 0, 1) := by decide +kernel
theorem dG_changeSharingAt_16 : decode cG_changeSharingAt 16 = .ok (.getfield 27, 3) := by decide +kernel
theorem dG_changeSharingAt_19 : decode cG_changeSharingAt 19 = .ok (.if_icmp .ne 11, 3) := by decide +kernel
theorem dG_changeSharingAt_22 : decode cG_changeSharingAt 22 = .ok (.aload_n 3, 1) := by decide +kernel
theorem dG_changeSharingAt_23 : decode cG_changeSharingAt 23 = .ok (.getfield 50, 3) := by decide +kernel
theorem dG_changeSharingAt_26 : decode cG_changeSharingAt 26 = .ok (.iload_n 2, 1) := by decide +kernel
theorem dG_changeSharingAt_27 : decode cG_changeSharingAt 27 = .ok (.if_icmp .ne 5, 3) := by decide +kernel
theorem dG_changeSharingAt_30 : decode cG_changeSharingAt 30 = .ok (.iconst 0, 1) := by decide +kernel
theorem dG_changeSharingAt_31 : decode cG_changeSharingAt 31 = .ok (.ireturn, 1) := by decide +kernel
theorem dG_changeSharingAt_32 : decode cG_changeSharingAt 32 = .ok (.aload_n 3, 1) := by decide +kernel
theorem dG_changeSharingAt_33 : decode cG_changeSharingAt 33 = .ok (.iload_n 2, 1) := by decide +kernel
theorem dG_changeSharingAt_34 : decode cG_changeSharingAt 34 = .ok (.invokevirtual 53, 3) := by decide +kernel
theorem dG_changeSharingAt_37 : decode cG_changeSharingAt 37 = .ok (.iconst 1, 1) := by decide +kernel
theorem dG_changeSharingAt_38 : decode cG_changeSharingAt 38 = .ok (.ireturn, 1) := by decide +kernel
theorem dK_info_0 : decode cK_info 0 = .ok (.aload_n 0, 1) := by decide +kernel
theorem dK_info_1 : decode cK_info 1 = .ok (.getfield 126, 3) := by decide +kernel
theorem dK_info_4 : decode cK_info 4 = .ok (.ireturn, 1) := by decide +kernel
theorem dK_set_0 : decode cK_set 0 = .ok (.iload_n 1, 1) := by decide +kernel
theorem dK_set_1 : decode cK_set 1 = .ok (.invokestatic 129, 3) := by decide +kernel
theorem dK_set_4 : decode cK_set 4 = .ok (.ifCond .eq 10, 3) := by decide +kernel
theorem dK_set_7 : decode cK_set 7 = .ok (.aload_n 0, 1) := by decide +kernel
theorem dK_set_8 : decode cK_set 8 = .ok (.getfield 106, 3) := by decide +kernel
theorem dK_set_11 : decode cK_set 11 = .ok (.ifnull 5, 3) := by decide +kernel
theorem dK_set_14 : decode cK_set 14 = .ok (.iconst 0, 1) := by decide +kernel
theorem dK_set_15 : decode cK_set 15 = .ok (.ireturn, 1) := by decide +kernel
theorem dK_set_16 : decode cK_set 16 = .ok (.aload_n 0, 1) := by decide +kernel
theorem dK_set_17 : decode cK_set 17 = .ok (.getfield 22, 3) := by decide +kernel
theorem dK_set_20 : decode cK_set 20 = .ok (.iload_n 1, 1) := by decide +kernel
theorem dK_set_21 : decode cK_set 21 = .ok (.iload_n 2, 1) := by decide +kernel
theorem dK_set_22 : decode cK_set 22 = .ok (.iastore, 1) := by decide +kernel
theorem dK_set_23 : decode cK_set 23 = .ok (.iconst 1, 1) := by decide +kernel
theorem dK_set_24 : decode cK_set 24 = .ok (.ireturn, 1) := by decide +kernel
theorem dK_isRegister_0 : decode cK_isRegister 0 = .ok (.iload_n 0, 1) := by decide +kernel
theorem dK_isRegister_1 : decode cK_isRegister 1 = .ok (.ifCond .lt 12, 3) := by decide +kernel
theorem dK_isRegister_4 : decode cK_isRegister 4 = .ok (.iload_n 0, 1) := by decide +kernel
theorem dK_isRegister_5 : decode cK_isRegister 5 = .ok (.iconst 4, 1) := by decide +kernel
theorem dK_isRegister_6 : decode cK_isRegister 6 = .ok (.if_icmp .ge 7, 3) := by decide +kernel
theorem dK_isRegister_9 : decode cK_isRegister 9 = .ok (.iconst 1, 1) := by decide +kernel
theorem dK_isRegister_10 : decode cK_isRegister 10 = .ok (.goto 4, 3) := by decide +kernel
theorem dK_isRegister_13 : decode cK_isRegister 13 = .ok (.iconst 0, 1) := by decide +kernel
theorem dK_isRegister_14 : decode cK_isRegister 14 = .ok (.ireturn, 1) := by decide +kernel
theorem dK_register_0 : decode cK_register 0 = .ok (.iload_n 1, 1) := by decide +kernel
theorem dK_register_1 : decode cK_register 1 = .ok (.invokestatic 129, 3) := by decide +kernel
theorem dK_register_4 : decode cK_register 4 = .ok (.ifCond .eq 10, 3) := by decide +kernel
theorem dK_register_7 : decode cK_register 7 = .ok (.aload_n 0, 1) := by decide +kernel
theorem dK_register_8 : decode cK_register 8 = .ok (.getfield 106, 3) := by decide +kernel
theorem dK_register_11 : decode cK_register 11 = .ok (.ifnull 5, 3) := by decide +kernel
theorem dK_register_14 : decode cK_register 14 = .ok (.iconst 0, 1) := by decide +kernel
theorem dK_register_15 : decode cK_register 15 = .ok (.ireturn, 1) := by decide +kernel
theorem dK_register_16 : decode cK_register 16 = .ok (.aload_n 0, 1) := by decide +kernel
theorem dK_register_17 : decode cK_register 17 = .ok (.getfield 22, 3) := by decide +kernel
theorem dK_register_20 : decode cK_register 20 = .ok (.iload_n 1, 1) := by decide +kernel
theorem dK_register_21 : decode cK_register 21 = .ok (.iaload, 1) := by decide +kernel
theorem dK_register_22 : decode cK_register 22 = .ok (.ireturn, 1) := by decide +kernel
theorem dK_owner_0 : decode cK_owner 0 = .ok (.iload_n 1, 1) := by decide +kernel
theorem dK_owner_1 : decode cK_owner 1 = .ok (.invokestatic 26, 3) := by decide +kernel
theorem dK_owner_4 : decode cK_owner 4 = .ok (.ifCond .eq 15, 3) := by decide +kernel
theorem dK_owner_7 : decode cK_owner 7 = .ok (.aload_n 0, 1) := by decide +kernel
theorem dK_owner_8 : decode cK_owner 8 = .ok (.getfield 11, 3) := by decide +kernel
theorem dK_owner_11 : decode cK_owner 11 = .ok (.iload_n 1, 1) := by decide +kernel
theorem dK_owner_12 : decode cK_owner 12 = .ok (.aaload, 1) := by decide +kernel
theorem dK_owner_13 : decode cK_owner 13 = .ok (.getfield 103, 3) := by decide +kernel
theorem dK_owner_16 : decode cK_owner 16 = .ok (.goto 4, 3) := by decide +kernel
theorem dK_owner_19 : decode cK_owner 19 = .ok (.iconst (-1), 1) := by decide +kernel
theorem dK_owner_20 : decode cK_owner 20 = .ok (.ireturn, 1) := by decide +kernel
theorem dK_state_0 : decode cK_state 0 = .ok (.iload_n 1, 1) := by decide +kernel
theorem dK_state_1 : decode cK_state 1 = .ok (.invokestatic 26, 3) := by decide +kernel
theorem dK_state_4 : decode cK_state 4 = .ok (.ifCond .ne 5, 3) := by decide +kernel
theorem dK_state_7 : decode cK_state 7 = .ok (.iconst (-1), 1) := by decide +kernel
theorem dK_state_8 : decode cK_state 8 = .ok (.ireturn, 1) := by decide +kernel
theorem dK_state_9 : decode cK_state 9 = .ok (.aload_n 0, 1) := by decide +kernel
theorem dK_state_10 : decode cK_state 10 = .ok (.getfield 11, 3) := by decide +kernel
theorem dK_state_13 : decode cK_state 13 = .ok (.iload_n 1, 1) := by decide +kernel
theorem dK_state_14 : decode cK_state 14 = .ok (.aaload, 1) := by decide +kernel
theorem dK_state_15 : decode cK_state 15 = .ok (.astore_n 2, 1) := by decide +kernel
theorem dK_state_16 : decode cK_state 16 = .ok (.aload_n 2, 1) := by decide +kernel
theorem dK_state_17 : decode cK_state 17 = .ok (.getfield 132, 3) := by decide +kernel
theorem dK_state_20 : decode cK_state 20 = .ok (.ifCond .ne 10, 3) := by decide +kernel
theorem dK_state_23 : decode cK_state 23 = .ok (.aload_n 2, 1) := by decide +kernel
theorem dK_state_24 : decode cK_state 24 = .ok (.getfield 86, 3) := by decide +kernel
theorem dK_state_27 : decode cK_state 27 = .ok (.ifCond .eq 7, 3) := by decide +kernel
theorem dK_state_30 : decode cK_state 30 = .ok (.iconst 1, 1) := by decide +kernel
theorem dK_state_31 : decode cK_state 31 = .ok (.goto 4, 3) := by decide +kernel
theorem dK_state_34 : decode cK_state 34 = .ok (.iconst 0, 1) := by decide +kernel
theorem dK_state_35 : decode cK_state 35 = .ok (.istore_n 3, 1) := by decide +kernel
theorem dK_state_36 : decode cK_state 36 = .ok (.aload_n 2, 1) := by decide +kernel
theorem dK_state_37 : decode cK_state 37 = .ok (.getfield 135, 3) := by decide +kernel
theorem dK_state_40 : decode cK_state 40 = .ok (.ifCond .eq 9, 3) := by decide +kernel
theorem dK_state_43 : decode cK_state 43 = .ok (.iload_n 3, 1) := by decide +kernel
theorem dK_state_44 : decode cK_state 44 = .ok (.iconst 2, 1) := by decide +kernel
theorem dK_state_45 : decode cK_state 45 = .ok (.iadd, 1) := by decide +kernel
theorem dK_state_46 : decode cK_state 46 = .ok (.goto 4, 3) := by decide +kernel
theorem dK_state_49 : decode cK_state 49 = .ok (.iload_n 3, 1) := by decide +kernel
theorem dK_state_50 : decode cK_state 50 = .ok (.ireturn, 1) := by decide +kernel
theorem dK_pool_0 : decode cK_pool 0 = .ok (.aload_n 0, 1) := by decide +kernel
theorem dK_pool_1 : decode cK_pool 1 = .ok (.iload_n 1, 1) := by decide +kernel
theorem dK_pool_2 : decode cK_pool 2 = .ok (.invokevirtual 58, 3) := by decide +kernel
theorem dK_pool_5 : decode cK_pool 5 = .ok (.astore_n 2, 1) := by decide +kernel
theorem dK_pool_6 : decode cK_pool 6 = .ok (.aload_n 2, 1) := by decide +kernel
theorem dK_pool_7 : decode cK_pool 7 = .ok (.ifnonnull 7, 3) := by decide +kernel
theorem dK_pool_10 : decode cK_pool 10 = .ok (.iconst (-1), 1) := by decide +kernel
theorem dK_pool_11 : decode cK_pool 11 = .ok (.goto 7, 3) := by decide +kernel
theorem dK_pool_14 : decode cK_pool 14 = .ok (.aload_n 2, 1) := by decide +kernel
theorem dK_pool_15 : decode cK_pool 15 = .ok (.invokevirtual 65, 3) := by decide +kernel
theorem dK_pool_18 : decode cK_pool 18 = .ok (.ireturn, 1) := by decide +kernel
theorem dK_tables_0 : decode cK_tables 0 = .ok (.aload_n 0, 1) := by decide +kernel
theorem dK_tables_1 : decode cK_tables 1 = .ok (.iload_n 1, 1) := by decide +kernel
theorem dK_tables_2 : decode cK_tables 2 = .ok (.invokevirtual 58, 3) := by decide +kernel
theorem dK_tables_5 : decode cK_tables 5 = .ok (.astore_n 2, 1) := by decide +kernel
theorem dK_tables_6 : decode cK_tables 6 = .ok (.aload_n 2, 1) := by decide +kernel
theorem dK_tables_7 : decode cK_tables 7 = .ok (.ifnonnull 7, 3) := by decide +kernel
theorem dK_tables_10 : decode cK_tables 10 = .ok (.iconst (-1), 1) := by decide +kernel
theorem dK_tables_11 : decode cK_tables 11 = .ok (.goto 7, 3) := by decide +kernel
theorem dK_tables_14 : decode cK_tables 14 = .ok (.aload_n 2, 1) := by decide +kernel
theorem dK_tables_15 : decode cK_tables 15 = .ok (.invokevirtual 138, 3) := by decide +kernel
theorem dK_tables_18 : decode cK_tables 18 = .ok (.ireturn, 1) := by decide +kernel
theorem dM_init_0 : decode cM_init 0 = .ok (.aload_n 0, 1) := by decide +kernel
theorem dM_init_1 : decode cM_init 1 = .ok (.invokespecial 1, 3) := by decide +kernel
theorem dM_init_4 : decode cM_init 4 = .ok (.aload_n 0, 1) := by decide +kernel
theorem dM_init_5 : decode cM_init 5 = .ok (.bipush 96, 2) := by decide +kernel
theorem dM_init_7 : decode cM_init 7 = .ok (.newarray .int, 2) := by decide +kernel
theorem dM_init_9 : decode cM_init 9 = .ok (.putfield 7, 3) := by decide +kernel
theorem dM_init_12 : decode cM_init 12 = .ok (.aload_n 0, 1) := by decide +kernel
theorem dM_init_13 : decode cM_init 13 = .ok (.bipush 24, 2) := by decide +kernel
theorem dM_init_15 : decode cM_init 15 = .ok (.newarray .int, 2) := by decide +kernel
theorem dM_init_17 : decode cM_init 17 = .ok (.putfield 13, 3) := by decide +kernel
theorem dM_init_20 : decode cM_init 20 = .ok (.aload_n 0, 1) := by decide +kernel
theorem dM_init_21 : decode cM_init 21 = .ok (.bipush 24, 2) := by decide +kernel
theorem dM_init_23 : decode cM_init 23 = .ok (.newarray .int, 2) := by decide +kernel
theorem dM_init_25 : decode cM_init 25 = .ok (.putfield 16, 3) := by decide +kernel
theorem dM_init_28 : decode cM_init 28 = .ok (.aload_n 0, 1) := by decide +kernel
theorem dM_init_29 : decode cM_init 29 = .ok (.bipush 24, 2) := by decide +kernel
theorem dM_init_31 : decode cM_init 31 = .ok (.newarray .int, 2) := by decide +kernel
theorem dM_init_33 : decode cM_init 33 = .ok (.putfield 19, 3) := by decide +kernel
theorem dM_init_36 : decode cM_init 36 = .ok (.aload_n 0, 1) := by decide +kernel
theorem dM_init_37 : decode cM_init 37 = .ok (.bipush 24, 2) := by decide +kernel
theorem dM_init_39 : decode cM_init 39 = .ok (.newarray .int, 2) := by decide +kernel
theorem dM_init_41 : decode cM_init 41 = .ok (.putfield 22, 3) := by decide +kernel
theorem dM_init_44 : decode cM_init 44 = .ok (.aload_n 0, 1) := by decide +kernel
theorem dM_init_45 : decode cM_init 45 = .ok (.bipush 24, 2) := by decide +kernel
theorem dM_init_47 : decode cM_init 47 = .ok (.newarray .boolean, 2) := by decide +kernel
theorem dM_init_49 : decode cM_init 49 = .ok (.putfield 25, 3) := by decide +kernel
theorem dM_init_52 : decode cM_init 52 = .ok (.aload_n 0, 1) := by decide +kernel
theorem dM_init_53 : decode cM_init 53 = .ok (.bipush 24, 2) := by decide +kernel
theorem dM_init_55 : decode cM_init 55 = .ok (.newarray .boolean, 2) := by decide +kernel
theorem dM_init_57 : decode cM_init 57 = .ok (.putfield 29, 3) := by decide +kernel
theorem dM_init_60 : decode cM_init 60 = .ok (.aload_n 0, 1) := by decide +kernel
theorem dM_init_61 : decode cM_init 61 = .ok (.bipush 7, 2) := by decide +kernel
theorem dM_init_63 : decode cM_init 63 = .ok (.newarray .boolean, 2) := by decide +kernel
theorem dM_init_65 : decode cM_init 65 = .ok (.putfield 32, 3) := by decide +kernel
theorem dM_init_68 : decode cM_init 68 = .ok (.aload_n 0, 1) := by decide +kernel
theorem dM_init_69 : decode cM_init 69 = .ok (.bipush 7, 2) := by decide +kernel
theorem dM_init_71 : decode cM_init 71 = .ok (.newarray .boolean, 2) := by decide +kernel
theorem dM_init_73 : decode cM_init 73 = .ok (.putfield 35, 3) := by decide +kernel
theorem dM_init_76 : decode cM_init 76 = .ok (.aload_n 0, 1) := by decide +kernel
theorem dM_init_77 : decode cM_init 77 = .ok (.bipush 56, 2) := by decide +kernel
theorem dM_init_79 : decode cM_init 79 = .ok (.newarray .int, 2) := by decide +kernel
theorem dM_init_81 : decode cM_init 81 = .ok (.putfield 38, 3) := by decide +kernel
theorem dM_init_84 : decode cM_init 84 = .ok (.aload_n 0, 1) := by decide +kernel
theorem dM_init_85 : decode cM_init 85 = .ok (.bipush 14, 2) := by decide +kernel
theorem dM_init_87 : decode cM_init 87 = .ok (.newarray .int, 2) := by decide +kernel
theorem dM_init_89 : decode cM_init 89 = .ok (.putfield 41, 3) := by decide +kernel
theorem dM_init_92 : decode cM_init 92 = .ok (.aload_n 0, 1) := by decide +kernel
theorem dM_init_93 : decode cM_init 93 = .ok (.bipush 14, 2) := by decide +kernel
theorem dM_init_95 : decode cM_init 95 = .ok (.newarray .int, 2) := by decide +kernel
theorem dM_init_97 : decode cM_init 97 = .ok (.putfield 44, 3) := by decide +kernel
theorem dM_init_100 : decode cM_init 100 = .ok (.aload_n 0, 1) := by decide +kernel
theorem dM_init_101 : decode cM_init 101 = .ok (.iconst (-1), 1) := by decide +kernel
theorem dM_init_102 : decode cM_init 102 = .ok (.putfield 47, 3) := by decide +kernel
theorem dM_init_105 : decode cM_init 105 = .ok (.aload_n 0, 1) := by decide +kernel
theorem dM_init_106 : decode cM_init 106 = .ok (.iconst 4, 1) := by decide +kernel
theorem dM_init_107 : decode cM_init 107 = .ok (.newarray .int, 2) := by decide +kernel
theorem dM_init_109 : decode cM_init 109 = .ok (.putfield 51, 3) := by decide +kernel
theorem dM_init_112 : decode cM_init 112 = .ok (.return_, 1) := by decide +kernel
theorem dM_read_0 : decode cM_read 0 = .ok (.aload_n 0, 1) := by decide +kernel
theorem dM_read_1 : decode cM_read 1 = .ok (.iload_n 1, 1) := by decide +kernel
theorem dM_read_2 : decode cM_read 2 = .ok (.iload_n 2, 1) := by decide +kernel
theorem dM_read_3 : decode cM_read 3 = .ok (.invokevirtual 75, 3) := by decide +kernel
theorem dM_read_6 : decode cM_read 6 = .ok (.ifCond .eq 17, 3) := by decide +kernel
theorem dM_read_9 : decode cM_read 9 = .ok (.aload_n 0, 1) := by decide +kernel
theorem dM_read_10 : decode cM_read 10 = .ok (.getfield 7, 3) := by decide +kernel
theorem dM_read_13 : decode cM_read 13 = .ok (.iconst 4, 1) := by decide +kernel
theorem dM_read_14 : decode cM_read 14 = .ok (.iload_n 1, 1) := by decide +kernel
theorem dM_read_15 : decode cM_read 15 = .ok (.imul, 1) := by decide +kernel
theorem dM_read_16 : decode cM_read 16 = .ok (.iload_n 2, 1) := by decide +kernel
theorem dM_read_17 : decode cM_read 17 = .ok (.iadd, 1) := by decide +kernel
theorem dM_read_18 : decode cM_read 18 = .ok (.iaload, 1) := by decide +kernel
theorem dM_read_19 : decode cM_read 19 = .ok (.i2l, 1) := by decide +kernel
theorem dM_read_20 : decode cM_read 20 = .ok (.goto 6, 3) := by decide +kernel
theorem dM_read_23 : decode cM_read 23 = .ok (.ldc2_w 79, 3) := by decide +kernel
theorem dM_read_26 : decode cM_read 26 = .ok (.lreturn, 1) := by decide +kernel
theorem dM_touch_0 : decode cM_touch 0 = .ok (.iload_n 1, 1) := by decide +kernel
theorem dM_touch_1 : decode cM_touch 1 = .ok (.invokestatic 54, 3) := by decide +kernel
theorem dM_touch_4 : decode cM_touch 4 = .ok (.ifCond .eq 12, 3) := by decide +kernel
theorem dM_touch_7 : decode cM_touch 7 = .ok (.iload_n 2, 1) := by decide +kernel
theorem dM_touch_8 : decode cM_touch 8 = .ok (.ifCond .lt 8, 3) := by decide +kernel
theorem dM_touch_11 : decode cM_touch 11 = .ok (.iload_n 2, 1) := by decide +kernel
theorem dM_touch_12 : decode cM_touch 12 = .ok (.iconst 3, 1) := by decide +kernel
theorem dM_touch_13 : decode cM_touch 13 = .ok (.if_icmp .le 5, 3) := by decide +kernel
theorem dM_touch_16 : decode cM_touch 16 = .ok (.iconst 0, 1) := by decide +kernel
theorem dM_touch_17 : decode cM_touch 17 = .ok (.ireturn, 1) := by decide +kernel
theorem dM_touch_18 : decode cM_touch 18 = .ok (.aload_n 0, 1) := by decide +kernel
theorem dM_touch_19 : decode cM_touch 19 = .ok (.getfield 29, 3) := by decide +kernel
theorem dM_touch_22 : decode cM_touch 22 = .ok (.iload_n 1, 1) := by decide +kernel
theorem dM_touch_23 : decode cM_touch 23 = .ok (.baload, 1) := by decide +kernel
theorem dM_touch_24 : decode cM_touch 24 = .ok (.ifCond .ne 24, 3) := by decide +kernel
theorem dM_touch_27 : decode cM_touch 27 = .ok (.aload_n 0, 1) := by decide +kernel
theorem dM_touch_28 : decode cM_touch 28 = .ok (.dup, 1) := by decide +kernel
theorem dM_touch_29 : decode cM_touch 29 = .ok (.getfield 72, 3) := by decide +kernel
theorem dM_touch_32 : decode cM_touch 32 = .ok (.iconst 1, 1) := by decide +kernel
theorem dM_touch_33 : decode cM_touch 33 = .ok (.iadd, 1) := by decide +kernel
theorem dM_touch_34 : decode cM_touch 34 = .ok (.putfield 72, 3) := by decide +kernel
theorem dM_touch_37 : decode cM_touch 37 = .ok (.aload_n 0, 1) := by decide +kernel
theorem dM_touch_38 : decode cM_touch 38 = .ok (.getfield 29, 3) := by decide +kernel
theorem dM_touch_41 : decode cM_touch 41 = .ok (.iload_n 1, 1) := by decide +kernel
theorem dM_touch_42 : decode cM_touch 42 = .ok (.aload_n 0, 1) := by decide +kernel
theorem dM_touch_43 : decode cM_touch 43 = .ok (.iload_n 1, 1) := by decide +kernel
theorem dM_touch_44 : decode cM_touch 44 = .ok (.invokevirtual 61, 3) := by decide +kernel
theorem dM_touch_47 : decode cM_touch 47 = .ok (.bastore, 1) := by decide +kernel
theorem dM_touch_48 : decode cM_touch 48 = .ok (.aload_n 0, 1) := by decide +kernel
theorem dM_touch_49 : decode cM_touch 49 = .ok (.getfield 29, 3) := by decide +kernel
theorem dM_touch_52 : decode cM_touch 52 = .ok (.iload_n 1, 1) := by decide +kernel
theorem dM_touch_53 : decode cM_touch 53 = .ok (.baload, 1) := by decide +kernel
theorem dM_touch_54 : decode cM_touch 54 = .ok (.ireturn, 1) := by decide +kernel
theorem dM_isPage_0 : decode cM_isPage 0 = .ok (.iload_n 0, 1) := by decide +kernel
theorem dM_isPage_1 : decode cM_isPage 1 = .ok (.ifCond .lt 13, 3) := by decide +kernel
theorem dM_isPage_4 : decode cM_isPage 4 = .ok (.iload_n 0, 1) := by decide +kernel
theorem dM_isPage_5 : decode cM_isPage 5 = .ok (.bipush 24, 2) := by decide +kernel
theorem dM_isPage_7 : decode cM_isPage 7 = .ok (.if_icmp .ge 7, 3) := by decide +kernel
theorem dM_isPage_10 : decode cM_isPage 10 = .ok (.iconst 1, 1) := by decide +kernel
theorem dM_isPage_11 : decode cM_isPage 11 = .ok (.goto 4, 3) := by decide +kernel
theorem dM_isPage_14 : decode cM_isPage 14 = .ok (.iconst 0, 1) := by decide +kernel
theorem dM_isPage_15 : decode cM_isPage 15 = .ok (.ireturn, 1) := by decide +kernel
theorem dM_hostMay_0 : decode cM_hostMay 0 = .ok (.aload_n 0, 1) := by decide +kernel
theorem dM_hostMay_1 : decode cM_hostMay 1 = .ok (.getfield 13, 3) := by decide +kernel
theorem dM_hostMay_4 : decode cM_hostMay 4 = .ok (.iload_n 1, 1) := by decide +kernel
theorem dM_hostMay_5 : decode cM_hostMay 5 = .ok (.iaload, 1) := by decide +kernel
theorem dM_hostMay_6 : decode cM_hostMay 6 = .ok (.ifCond .eq 12, 3) := by decide +kernel
theorem dM_hostMay_9 : decode cM_hostMay 9 = .ok (.aload_n 0, 1) := by decide +kernel
theorem dM_hostMay_10 : decode cM_hostMay 10 = .ok (.getfield 25, 3) := by decide +kernel
theorem dM_hostMay_13 : decode cM_hostMay 13 = .ok (.iload_n 1, 1) := by decide +kernel
theorem dM_hostMay_14 : decode cM_hostMay 14 = .ok (.baload, 1) := by decide +kernel
theorem dM_hostMay_15 : decode cM_hostMay 15 = .ok (.ifCond .eq 7, 3) := by decide +kernel
theorem dM_hostMay_18 : decode cM_hostMay 18 = .ok (.iconst 1, 1) := by decide +kernel
theorem dM_hostMay_19 : decode cM_hostMay 19 = .ok (.goto 4, 3) := by decide +kernel
theorem dM_hostMay_22 : decode cM_hostMay 22 = .ok (.iconst 0, 1) := by decide +kernel
theorem dM_hostMay_23 : decode cM_hostMay 23 = .ok (.ireturn, 1) := by decide +kernel
theorem dM_write_0 : decode cM_write 0 = .ok (.aload_n 0, 1) := by decide +kernel
theorem dM_write_1 : decode cM_write 1 = .ok (.iload_n 1, 1) := by decide +kernel
theorem dM_write_2 : decode cM_write 2 = .ok (.iload_n 2, 1) := by decide +kernel
theorem dM_write_3 : decode cM_write 3 = .ok (.invokevirtual 75, 3) := by decide +kernel
theorem dM_write_6 : decode cM_write 6 = .ok (.istore 4, 2) := by decide +kernel
theorem dM_write_8 : decode cM_write 8 = .ok (.iload 4, 2) := by decide +kernel
theorem dM_write_10 : decode cM_write 10 = .ok (.ifCond .eq 14, 3) := by decide +kernel
theorem dM_write_13 : decode cM_write 13 = .ok (.aload_n 0, 1) := by decide +kernel
theorem dM_write_14 : decode cM_write 14 = .ok (.getfield 7, 3) := by decide +kernel
theorem dM_write_17 : decode cM_write 17 = .ok (.iconst 4, 1) := by decide +kernel
theorem dM_write_18 : decode cM_write 18 = .ok (.iload_n 1, 1) := by decide +kernel
theorem dM_write_19 : decode cM_write 19 = .ok (.imul, 1) := by decide +kernel
theorem dM_write_20 : decode cM_write 20 = .ok (.iload_n 2, 1) := by decide +kernel
theorem dM_write_21 : decode cM_write 21 = .ok (.iadd, 1) := by decide +kernel
theorem dM_write_22 : decode cM_write 22 = .ok (.iload_n 3, 1) := by decide +kernel
theorem dM_write_23 : decode cM_write 23 = .ok (.iastore, 1) := by decide +kernel
theorem dM_write_24 : decode cM_write 24 = .ok (.iload 4, 2) := by decide +kernel
theorem dM_write_26 : decode cM_write 26 = .ok (.ireturn, 1) := by decide +kernel
theorem dM_faults_0 : decode cM_faults 0 = .ok (.aload_n 0, 1) := by decide +kernel
theorem dM_faults_1 : decode cM_faults 1 = .ok (.getfield 72, 3) := by decide +kernel
theorem dM_faults_4 : decode cM_faults 4 = .ok (.ireturn, 1) := by decide +kernel
theorem dM_create_0 : decode cM_create 0 = .ok (.aload_n 0, 1) := by decide +kernel
theorem dM_create_1 : decode cM_create 1 = .ok (.iload_n 1, 1) := by decide +kernel
theorem dM_create_2 : decode cM_create 2 = .ok (.invokevirtual 88, 3) := by decide +kernel
theorem dM_create_5 : decode cM_create 5 = .ok (.ifCond .ne 5, 3) := by decide +kernel
theorem dM_create_8 : decode cM_create 8 = .ok (.iconst (-1), 1) := by decide +kernel
theorem dM_create_9 : decode cM_create 9 = .ok (.ireturn, 1) := by decide +kernel
theorem dM_create_10 : decode cM_create 10 = .ok (.aload_n 0, 1) := by decide +kernel
theorem dM_create_11 : decode cM_create 11 = .ok (.getfield 58, 3) := by decide +kernel
theorem dM_create_14 : decode cM_create 14 = .ok (.bipush 6, 2) := by decide +kernel
theorem dM_create_16 : decode cM_create 16 = .ok (.if_icmp .lt 6, 3) := by decide +kernel
theorem dM_create_19 : decode cM_create 19 = .ok (.bipush (-2), 2) := by decide +kernel
theorem dM_create_21 : decode cM_create 21 = .ok (.ireturn, 1) := by decide +kernel
theorem dM_create_22 : decode cM_create 22 = .ok (.aload_n 0, 1) := by decide +kernel
theorem dM_create_23 : decode cM_create 23 = .ok (.dup, 1) := by decide +kernel
theorem dM_create_24 : decode cM_create 24 = .ok (.getfield 58, 3) := by decide +kernel
theorem dM_create_27 : decode cM_create 27 = .ok (.iconst 1, 1) := by decide +kernel
theorem dM_create_28 : decode cM_create 28 = .ok (.iadd, 1) := by decide +kernel
theorem dM_create_29 : decode cM_create 29 = .ok (.putfield 58, 3) := by decide +kernel
theorem dM_create_32 : decode cM_create 32 = .ok (.aload_n 0, 1) := by decide +kernel
theorem dM_create_33 : decode cM_create 33 = .ok (.getfield 32, 3) := by decide +kernel
theorem dM_create_36 : decode cM_create 36 = .ok (.aload_n 0, 1) := by decide +kernel
theorem dM_create_37 : decode cM_create 37 = .ok (.getfield 58, 3) := by decide +kernel
theorem dM_create_40 : decode cM_create 40 = .ok (.iconst 1, 1) := by decide +kernel
theorem dM_create_41 : decode cM_create 41 = .ok (.bastore, 1) := by decide +kernel
theorem dM_create_42 : decode cM_create 42 = .ok (.aload_n 0, 1) := by decide +kernel
theorem dM_create_43 : decode cM_create 43 = .ok (.iload_n 1, 1) := by decide +kernel
theorem dM_create_44 : decode cM_create 44 = .ok (.aload_n 0, 1) := by decide +kernel
theorem dM_create_45 : decode cM_create 45 = .ok (.getfield 58, 3) := by decide +kernel
theorem dM_create_48 : decode cM_create 48 = .ok (.invokevirtual 91, 3) := by decide +kernel
theorem dM_create_51 : decode cM_create 51 = .ok (.aload_n 0, 1) := by decide +kernel
theorem dM_create_52 : decode cM_create 52 = .ok (.getfield 58, 3) := by decide +kernel
theorem dM_create_55 : decode cM_create 55 = .ok (.ireturn, 1) := by decide +kernel
theorem dM_isFree_0 : decode cM_isFree 0 = .ok (.iload_n 1, 1) := by decide +kernel
theorem dM_isFree_1 : decode cM_isFree 1 = .ok (.invokestatic 54, 3) := by decide +kernel
theorem dM_isFree_4 : decode cM_isFree 4 = .ok (.ifCond .eq 25, 3) := by decide +kernel
theorem dM_isFree_7 : decode cM_isFree 7 = .ok (.aload_n 0, 1) := by decide +kernel
theorem dM_isFree_8 : decode cM_isFree 8 = .ok (.getfield 13, 3) := by decide +kernel
theorem dM_isFree_11 : decode cM_isFree 11 = .ok (.iload_n 1, 1) := by decide +kernel
theorem dM_isFree_12 : decode cM_isFree 12 = .ok (.iaload, 1) := by decide +kernel
theorem dM_isFree_13 : decode cM_isFree 13 = .ok (.ifCond .ne 16, 3) := by decide +kernel
theorem dM_isFree_16 : decode cM_isFree 16 = .ok (.aload_n 0, 1) := by decide +kernel
theorem dM_isFree_17 : decode cM_isFree 17 = .ok (.getfield 19, 3) := by decide +kernel
theorem dM_isFree_20 : decode cM_isFree 20 = .ok (.iload_n 1, 1) := by decide +kernel
theorem dM_isFree_21 : decode cM_isFree 21 = .ok (.iaload, 1) := by decide +kernel
theorem dM_isFree_22 : decode cM_isFree 22 = .ok (.ifCond .ne 7, 3) := by decide +kernel
theorem dM_isFree_25 : decode cM_isFree 25 = .ok (.iconst 1, 1) := by decide +kernel
theorem dM_isFree_26 : decode cM_isFree 26 = .ok (.goto 4, 3) := by decide +kernel
theorem dM_isFree_29 : decode cM_isFree 29 = .ok (.iconst 0, 1) := by decide +kernel
theorem dM_isFree_30 : decode cM_isFree 30 = .ok (.ireturn, 1) := by decide +kernel
theorem dM_keep_0 : decode cM_keep 0 = .ok (.aload_n 0, 1) := by decide +kernel
theorem dM_keep_1 : decode cM_keep 1 = .ok (.getfield 13, 3) := by decide +kernel
theorem dM_keep_4 : decode cM_keep 4 = .ok (.iload_n 1, 1) := by decide +kernel
theorem dM_keep_5 : decode cM_keep 5 = .ok (.bipush 7, 2) := by decide +kernel
theorem dM_keep_7 : decode cM_keep 7 = .ok (.iastore, 1) := by decide +kernel
theorem dM_keep_8 : decode cM_keep 8 = .ok (.aload_n 0, 1) := by decide +kernel
theorem dM_keep_9 : decode cM_keep 9 = .ok (.getfield 16, 3) := by decide +kernel
theorem dM_keep_12 : decode cM_keep 12 = .ok (.iload_n 1, 1) := by decide +kernel
theorem dM_keep_13 : decode cM_keep 13 = .ok (.iload_n 2, 1) := by decide +kernel
theorem dM_keep_14 : decode cM_keep 14 = .ok (.iastore, 1) := by decide +kernel
theorem dM_keep_15 : decode cM_keep 15 = .ok (.aload_n 0, 1) := by decide +kernel
theorem dM_keep_16 : decode cM_keep 16 = .ok (.iload_n 1, 1) := by decide +kernel
theorem dM_keep_17 : decode cM_keep 17 = .ok (.invokevirtual 81, 3) := by decide +kernel
theorem dM_keep_20 : decode cM_keep 20 = .ok (.aload_n 0, 1) := by decide +kernel
theorem dM_keep_21 : decode cM_keep 21 = .ok (.iload_n 1, 1) := by decide +kernel
theorem dM_keep_22 : decode cM_keep 22 = .ok (.invokevirtual 85, 3) := by decide +kernel
theorem dM_keep_25 : decode cM_keep 25 = .ok (.return_, 1) := by decide +kernel
theorem dM_wipe_0 : decode cM_wipe 0 = .ok (.iconst 0, 1) := by decide +kernel
theorem dM_wipe_1 : decode cM_wipe 1 = .ok (.istore_n 2, 1) := by decide +kernel
theorem dM_wipe_2 : decode cM_wipe 2 = .ok (.iload_n 2, 1) := by decide +kernel
theorem dM_wipe_3 : decode cM_wipe 3 = .ok (.iconst 4, 1) := by decide +kernel
theorem dM_wipe_4 : decode cM_wipe 4 = .ok (.if_icmp .ge 20, 3) := by decide +kernel
theorem dM_wipe_7 : decode cM_wipe 7 = .ok (.aload_n 0, 1) := by decide +kernel
theorem dM_wipe_8 : decode cM_wipe 8 = .ok (.getfield 7, 3) := by decide +kernel
theorem dM_wipe_11 : decode cM_wipe 11 = .ok (.iconst 4, 1) := by decide +kernel
theorem dM_wipe_12 : decode cM_wipe 12 = .ok (.iload_n 1, 1) := by decide +kernel
theorem dM_wipe_13 : decode cM_wipe 13 = .ok (.imul, 1) := by decide +kernel
theorem dM_wipe_14 : decode cM_wipe 14 = .ok (.iload_n 2, 1) := by decide +kernel
theorem dM_wipe_15 : decode cM_wipe 15 = .ok (.iadd, 1) := by decide +kernel
theorem dM_wipe_16 : decode cM_wipe 16 = .ok (.iconst 0, 1) := by decide +kernel
theorem dM_wipe_17 : decode cM_wipe 17 = .ok (.iastore, 1) := by decide +kernel
theorem dM_wipe_18 : decode cM_wipe 18 = .ok (.iinc 2 1, 3) := by decide +kernel
theorem dM_wipe_21 : decode cM_wipe 21 = .ok (.goto (-19), 3) := by decide +kernel
theorem dM_wipe_24 : decode cM_wipe 24 = .ok (.return_, 1) := by decide +kernel
theorem dM_look_0 : decode cM_look 0 = .ok (.aload_n 0, 1) := by decide +kernel
theorem dM_look_1 : decode cM_look 1 = .ok (.getfield 29, 3) := by decide +kernel
theorem dM_look_4 : decode cM_look 4 = .ok (.iload_n 1, 1) := by decide +kernel
theorem dM_look_5 : decode cM_look 5 = .ok (.aload_n 0, 1) := by decide +kernel
theorem dM_look_6 : decode cM_look 6 = .ok (.getfield 29, 3) := by decide +kernel
theorem dM_look_9 : decode cM_look 9 = .ok (.iload_n 1, 1) := by decide +kernel
theorem dM_look_10 : decode cM_look 10 = .ok (.baload, 1) := by decide +kernel
theorem dM_look_11 : decode cM_look 11 = .ok (.ifCond .eq 15, 3) := by decide +kernel
theorem dM_look_14 : decode cM_look 14 = .ok (.aload_n 0, 1) := by decide +kernel
theorem dM_look_15 : decode cM_look 15 = .ok (.iload_n 1, 1) := by decide +kernel
theorem dM_look_16 : decode cM_look 16 = .ok (.invokevirtual 61, 3) := by decide +kernel
theorem dM_look_19 : decode cM_look 19 = .ok (.ifCond .eq 7, 3) := by decide +kernel
theorem dM_look_22 : decode cM_look 22 = .ok (.iconst 1, 1) := by decide +kernel
theorem dM_look_23 : decode cM_look 23 = .ok (.goto 4, 3) := by decide +kernel
theorem dM_look_26 : decode cM_look 26 = .ok (.iconst 0, 1) := by decide +kernel
theorem dM_look_27 : decode cM_look 27 = .ok (.bastore, 1) := by decide +kernel
theorem dM_look_28 : decode cM_look 28 = .ok (.return_, 1) := by decide +kernel
theorem dM_feed_0 : decode cM_feed 0 = .ok (.aload_n 0, 1) := by decide +kernel
theorem dM_feed_1 : decode cM_feed 1 = .ok (.iload_n 1, 1) := by decide +kernel
theorem dM_feed_2 : decode cM_feed 2 = .ok (.invokevirtual 95, 3) := by decide +kernel
theorem dM_feed_5 : decode cM_feed 5 = .ok (.ifCond .ne 5, 3) := by decide +kernel
theorem dM_feed_8 : decode cM_feed 8 = .ok (.iconst (-1), 1) := by decide +kernel
theorem dM_feed_9 : decode cM_feed 9 = .ok (.ireturn, 1) := by decide +kernel
theorem dM_feed_10 : decode cM_feed 10 = .ok (.aload_n 0, 1) := by decide +kernel
theorem dM_feed_11 : decode cM_feed 11 = .ok (.iload_n 2, 1) := by decide +kernel
theorem dM_feed_12 : decode cM_feed 12 = .ok (.invokevirtual 88, 3) := by decide +kernel
theorem dM_feed_15 : decode cM_feed 15 = .ok (.ifCond .ne 6, 3) := by decide +kernel
theorem dM_feed_18 : decode cM_feed 18 = .ok (.bipush (-2), 2) := by decide +kernel
theorem dM_feed_20 : decode cM_feed 20 = .ok (.ireturn, 1) := by decide +kernel
theorem dM_feed_21 : decode cM_feed 21 = .ok (.aload_n 0, 1) := by decide +kernel
theorem dM_feed_22 : decode cM_feed 22 = .ok (.iload_n 2, 1) := by decide +kernel
theorem dM_feed_23 : decode cM_feed 23 = .ok (.iload_n 1, 1) := by decide +kernel
theorem dM_feed_24 : decode cM_feed 24 = .ok (.invokevirtual 91, 3) := by decide +kernel
theorem dM_feed_27 : decode cM_feed 27 = .ok (.aload_n 0, 1) := by decide +kernel
theorem dM_feed_28 : decode cM_feed 28 = .ok (.iload_n 1, 1) := by decide +kernel
theorem dM_feed_29 : decode cM_feed 29 = .ok (.invokevirtual 98, 3) := by decide +kernel
theorem dM_feed_32 : decode cM_feed 32 = .ok (.ireturn, 1) := by decide +kernel
theorem dM_isGuest_0 : decode cM_isGuest 0 = .ok (.iload_n 1, 1) := by decide +kernel
theorem dM_isGuest_1 : decode cM_isGuest 1 = .ok (.iconst 1, 1) := by decide +kernel
theorem dM_isGuest_2 : decode cM_isGuest 2 = .ok (.if_icmp .lt 24, 3) := by decide +kernel
theorem dM_isGuest_5 : decode cM_isGuest 5 = .ok (.iload_n 1, 1) := by decide +kernel
theorem dM_isGuest_6 : decode cM_isGuest 6 = .ok (.aload_n 0, 1) := by decide +kernel
theorem dM_isGuest_7 : decode cM_isGuest 7 = .ok (.getfield 58, 3) := by decide +kernel
theorem dM_isGuest_10 : decode cM_isGuest 10 = .ok (.if_icmp .gt 16, 3) := by decide +kernel
theorem dM_isGuest_13 : decode cM_isGuest 13 = .ok (.aload_n 0, 1) := by decide +kernel
theorem dM_isGuest_14 : decode cM_isGuest 14 = .ok (.getfield 32, 3) := by decide +kernel
theorem dM_isGuest_17 : decode cM_isGuest 17 = .ok (.iload_n 1, 1) := by decide +kernel
theorem dM_isGuest_18 : decode cM_isGuest 18 = .ok (.baload, 1) := by decide +kernel
theorem dM_isGuest_19 : decode cM_isGuest 19 = .ok (.ifCond .eq 7, 3) := by decide +kernel
theorem dM_isGuest_22 : decode cM_isGuest 22 = .ok (.iconst 1, 1) := by decide +kernel
theorem dM_isGuest_23 : decode cM_isGuest 23 = .ok (.goto 4, 3) := by decide +kernel
theorem dM_isGuest_26 : decode cM_isGuest 26 = .ok (.iconst 0, 1) := by decide +kernel
theorem dM_isGuest_27 : decode cM_isGuest 27 = .ok (.ireturn, 1) := by decide +kernel
theorem dM_rest_0 : decode cM_rest 0 = .ok (.iconst 0, 1) := by decide +kernel
theorem dM_rest_1 : decode cM_rest 1 = .ok (.istore_n 2, 1) := by decide +kernel
theorem dM_rest_2 : decode cM_rest 2 = .ok (.iconst 0, 1) := by decide +kernel
theorem dM_rest_3 : decode cM_rest 3 = .ok (.istore_n 3, 1) := by decide +kernel
theorem dM_rest_4 : decode cM_rest 4 = .ok (.iload_n 3, 1) := by decide +kernel
theorem dM_rest_5 : decode cM_rest 5 = .ok (.bipush 24, 2) := by decide +kernel
theorem dM_rest_7 : decode cM_rest 7 = .ok (.if_icmp .ge 38, 3) := by decide +kernel
theorem dM_rest_10 : decode cM_rest 10 = .ok (.aload_n 0, 1) := by decide +kernel
theorem dM_rest_11 : decode cM_rest 11 = .ok (.getfield 13, 3) := by decide +kernel
theorem dM_rest_14 : decode cM_rest 14 = .ok (.iload_n 3, 1) := by decide +kernel
theorem dM_rest_15 : decode cM_rest 15 = .ok (.iaload, 1) := by decide +kernel
theorem dM_rest_16 : decode cM_rest 16 = .ok (.bipush 7, 2) := by decide +kernel
theorem dM_rest_18 : decode cM_rest 18 = .ok (.if_icmp .ne 19, 3) := by decide +kernel
theorem dM_rest_21 : decode cM_rest 21 = .ok (.aload_n 0, 1) := by decide +kernel
theorem dM_rest_22 : decode cM_rest 22 = .ok (.getfield 16, 3) := by decide +kernel
theorem dM_rest_25 : decode cM_rest 25 = .ok (.iload_n 3, 1) := by decide +kernel
end
section
theorem dM_rest_26 : decode cM_rest 26 = .ok (.iaload, 1) := by decide +kernel
theorem dM_rest_27 : decode cM_rest 27 = .ok (.iload_n 1, 1) := by decide +kernel
theorem dM_rest_28 : decode cM_rest 28 = .ok (.if_icmp .ne 9, 3) := by decide +kernel
theorem dM_rest_31 : decode cM_rest 31 = .ok (.iload_n 2, 1) := by decide +kernel
theorem dM_rest_32 : decode cM_rest 32 = .ok (.iconst 1, 1) := by decide +kernel
theorem dM_rest_33 : decode cM_rest 33 = .ok (.iadd, 1) := by decide +kernel
theorem dM_rest_34 : decode cM_rest 34 = .ok (.goto 4, 3) := by decide +kernel
theorem dM_rest_37 : decode cM_rest 37 = .ok (.iload_n 2, 1) := by decide +kernel
theorem dM_rest_38 : decode cM_rest 38 = .ok (.istore_n 2, 1) := by decide +kernel
theorem dM_rest_39 : decode cM_rest 39 = .ok (.iinc 3 1, 3) := by decide +kernel
theorem dM_rest_42 : decode cM_rest 42 = .ok (.goto (-38), 3) := by decide +kernel
theorem dM_rest_45 : decode cM_rest 45 = .ok (.iload_n 2, 1) := by decide +kernel
theorem dM_rest_46 : decode cM_rest 46 = .ok (.iconst 1, 1) := by decide +kernel
theorem dM_rest_47 : decode cM_rest 47 = .ok (.isub, 1) := by decide +kernel
theorem dM_rest_48 : decode cM_rest 48 = .ok (.aload_n 0, 1) := by decide +kernel
theorem dM_rest_49 : decode cM_rest 49 = .ok (.iload_n 1, 1) := by decide +kernel
theorem dM_rest_50 : decode cM_rest 50 = .ok (.iconst (-1), 1) := by decide +kernel
theorem dM_rest_51 : decode cM_rest 51 = .ok (.invokevirtual 68, 3) := by decide +kernel
theorem dM_rest_54 : decode cM_rest 54 = .ok (.isub, 1) := by decide +kernel
theorem dM_rest_55 : decode cM_rest 55 = .ok (.ireturn, 1) := by decide +kernel
theorem dM_count_0 : decode cM_count 0 = .ok (.iconst 0, 1) := by decide +kernel
theorem dM_count_1 : decode cM_count 1 = .ok (.istore_n 3, 1) := by decide +kernel
theorem dM_count_2 : decode cM_count 2 = .ok (.iconst 4, 1) := by decide +kernel
theorem dM_count_3 : decode cM_count 3 = .ok (.istore 4, 2) := by decide +kernel
theorem dM_count_5 : decode cM_count 5 = .ok (.iload 4, 2) := by decide +kernel
theorem dM_count_7 : decode cM_count 7 = .ok (.bipush 16, 2) := by decide +kernel
theorem dM_count_9 : decode cM_count 9 = .ok (.if_icmp .gt 114, 3) := by decide +kernel
theorem dM_count_12 : decode cM_count 12 = .ok (.iconst 0, 1) := by decide +kernel
theorem dM_count_13 : decode cM_count 13 = .ok (.istore 5, 2) := by decide +kernel
theorem dM_count_15 : decode cM_count 15 = .ok (.iload 5, 2) := by decide +kernel
theorem dM_count_17 : decode cM_count 17 = .ok (.bipush 64, 2) := by decide +kernel
theorem dM_count_19 : decode cM_count 19 = .ok (.iload 4, 2) := by decide +kernel
theorem dM_count_21 : decode cM_count 21 = .ok (.idiv, 1) := by decide +kernel
theorem dM_count_22 : decode cM_count 22 = .ok (.if_icmp .ge 95, 3) := by decide +kernel
theorem dM_count_25 : decode cM_count 25 = .ok (.iload_n 2, 1) := by decide +kernel
theorem dM_count_26 : decode cM_count 26 = .ok (.ifCond .lt 16, 3) := by decide +kernel
theorem dM_count_29 : decode cM_count 29 = .ok (.iload_n 2, 1) := by decide +kernel
theorem dM_count_30 : decode cM_count 30 = .ok (.iload 4, 2) := by decide +kernel
theorem dM_count_32 : decode cM_count 32 = .ok (.idiv, 1) := by decide +kernel
theorem dM_count_33 : decode cM_count 33 = .ok (.iload 5, 2) := by decide +kernel
theorem dM_count_35 : decode cM_count 35 = .ok (.if_icmp .ne 7, 3) := by decide +kernel
theorem dM_count_38 : decode cM_count 38 = .ok (.iconst 1, 1) := by decide +kernel
theorem dM_count_39 : decode cM_count 39 = .ok (.goto 4, 3) := by decide +kernel
theorem dM_count_42 : decode cM_count 42 = .ok (.iconst 0, 1) := by decide +kernel
theorem dM_count_43 : decode cM_count 43 = .ok (.istore 6, 2) := by decide +kernel
theorem dM_count_45 : decode cM_count 45 = .ok (.iconst 0, 1) := by decide +kernel
theorem dM_count_46 : decode cM_count 46 = .ok (.istore 7, 2) := by decide +kernel
theorem dM_count_48 : decode cM_count 48 = .ok (.iload 7, 2) := by decide +kernel
theorem dM_count_50 : decode cM_count 50 = .ok (.bipush 24, 2) := by decide +kernel
theorem dM_count_52 : decode cM_count 52 = .ok (.if_icmp .ge 46, 3) := by decide +kernel
theorem dM_count_55 : decode cM_count 55 = .ok (.iload 6, 2) := by decide +kernel
theorem dM_count_57 : decode cM_count 57 = .ok (.ifCond .ne 28, 3) := by decide +kernel
theorem dM_count_60 : decode cM_count 60 = .ok (.aload_n 0, 1) := by decide +kernel
theorem dM_count_61 : decode cM_count 61 = .ok (.iload 7, 2) := by decide +kernel
theorem dM_count_63 : decode cM_count 63 = .ok (.invokevirtual 64, 3) := by decide +kernel
theorem dM_count_66 : decode cM_count 66 = .ok (.iload_n 1, 1) := by decide +kernel
theorem dM_count_67 : decode cM_count 67 = .ok (.if_icmp .ne 22, 3) := by decide +kernel
theorem dM_count_70 : decode cM_count 70 = .ok (.aload_n 0, 1) := by decide +kernel
theorem dM_count_71 : decode cM_count 71 = .ok (.getfield 22, 3) := by decide +kernel
theorem dM_count_74 : decode cM_count 74 = .ok (.iload 7, 2) := by decide +kernel
theorem dM_count_76 : decode cM_count 76 = .ok (.iaload, 1) := by decide +kernel
theorem dM_count_77 : decode cM_count 77 = .ok (.iload 4, 2) := by decide +kernel
theorem dM_count_79 : decode cM_count 79 = .ok (.idiv, 1) := by decide +kernel
theorem dM_count_80 : decode cM_count 80 = .ok (.iload 5, 2) := by decide +kernel
theorem dM_count_82 : decode cM_count 82 = .ok (.if_icmp .ne 7, 3) := by decide +kernel
theorem dM_count_85 : decode cM_count 85 = .ok (.iconst 1, 1) := by decide +kernel
theorem dM_count_86 : decode cM_count 86 = .ok (.goto 4, 3) := by decide +kernel
theorem dM_count_89 : decode cM_count 89 = .ok (.iconst 0, 1) := by decide +kernel
theorem dM_count_90 : decode cM_count 90 = .ok (.istore 6, 2) := by decide +kernel
theorem dM_count_92 : decode cM_count 92 = .ok (.iinc 7 1, 3) := by decide +kernel
theorem dM_count_95 : decode cM_count 95 = .ok (.goto (-47), 3) := by decide +kernel
theorem dM_count_98 : decode cM_count 98 = .ok (.iload 6, 2) := by decide +kernel
theorem dM_count_100 : decode cM_count 100 = .ok (.ifCond .eq 9, 3) := by decide +kernel
theorem dM_count_103 : decode cM_count 103 = .ok (.iload_n 3, 1) := by decide +kernel
theorem dM_count_104 : decode cM_count 104 = .ok (.iconst 1, 1) := by decide +kernel
theorem dM_count_105 : decode cM_count 105 = .ok (.iadd, 1) := by decide +kernel
theorem dM_count_106 : decode cM_count 106 = .ok (.goto 4, 3) := by decide +kernel
theorem dM_count_109 : decode cM_count 109 = .ok (.iload_n 3, 1) := by decide +kernel
theorem dM_count_110 : decode cM_count 110 = .ok (.istore_n 3, 1) := by decide +kernel
theorem dM_count_111 : decode cM_count 111 = .ok (.iinc 5 1, 3) := by decide +kernel
theorem dM_count_114 : decode cM_count 114 = .ok (.goto (-99), 3) := by decide +kernel
theorem dM_count_117 : decode cM_count 117 = .ok (.iinc 4 12, 3) := by decide +kernel
theorem dM_count_120 : decode cM_count 120 = .ok (.goto (-115), 3) := by decide +kernel
theorem dM_count_123 : decode cM_count 123 = .ok (.iload_n 3, 1) := by decide +kernel
theorem dM_count_124 : decode cM_count 124 = .ok (.ireturn, 1) := by decide +kernel
theorem dM_holder_0 : decode cM_holder 0 = .ok (.aload_n 0, 1) := by decide +kernel
theorem dM_holder_1 : decode cM_holder 1 = .ok (.getfield 19, 3) := by decide +kernel
theorem dM_holder_4 : decode cM_holder 4 = .ok (.iload_n 1, 1) := by decide +kernel
theorem dM_holder_5 : decode cM_holder 5 = .ok (.iaload, 1) := by decide +kernel
theorem dM_holder_6 : decode cM_holder 6 = .ok (.ifCond .le 12, 3) := by decide +kernel
theorem dM_holder_9 : decode cM_holder 9 = .ok (.aload_n 0, 1) := by decide +kernel
theorem dM_holder_10 : decode cM_holder 10 = .ok (.getfield 19, 3) := by decide +kernel
theorem dM_holder_13 : decode cM_holder 13 = .ok (.iload_n 1, 1) := by decide +kernel
theorem dM_holder_14 : decode cM_holder 14 = .ok (.iaload, 1) := by decide +kernel
theorem dM_holder_15 : decode cM_holder 15 = .ok (.goto 34, 3) := by decide +kernel
theorem dM_holder_18 : decode cM_holder 18 = .ok (.aload_n 0, 1) := by decide +kernel
theorem dM_holder_19 : decode cM_holder 19 = .ok (.getfield 13, 3) := by decide +kernel
theorem dM_holder_22 : decode cM_holder 22 = .ok (.iload_n 1, 1) := by decide +kernel
theorem dM_holder_23 : decode cM_holder 23 = .ok (.iaload, 1) := by decide +kernel
theorem dM_holder_24 : decode cM_holder 24 = .ok (.iconst 1, 1) := by decide +kernel
theorem dM_holder_25 : decode cM_holder 25 = .ok (.if_icmp .lt 23, 3) := by decide +kernel
theorem dM_holder_28 : decode cM_holder 28 = .ok (.aload_n 0, 1) := by decide +kernel
theorem dM_holder_29 : decode cM_holder 29 = .ok (.getfield 13, 3) := by decide +kernel
theorem dM_holder_32 : decode cM_holder 32 = .ok (.iload_n 1, 1) := by decide +kernel
theorem dM_holder_33 : decode cM_holder 33 = .ok (.iaload, 1) := by decide +kernel
theorem dM_holder_34 : decode cM_holder 34 = .ok (.bipush 6, 2) := by decide +kernel
theorem dM_holder_36 : decode cM_holder 36 = .ok (.if_icmp .gt 12, 3) := by decide +kernel
theorem dM_holder_39 : decode cM_holder 39 = .ok (.aload_n 0, 1) := by decide +kernel
theorem dM_holder_40 : decode cM_holder 40 = .ok (.getfield 13, 3) := by decide +kernel
theorem dM_holder_43 : decode cM_holder 43 = .ok (.iload_n 1, 1) := by decide +kernel
theorem dM_holder_44 : decode cM_holder 44 = .ok (.iaload, 1) := by decide +kernel
theorem dM_holder_45 : decode cM_holder 45 = .ok (.goto 4, 3) := by decide +kernel
theorem dM_holder_48 : decode cM_holder 48 = .ok (.iconst 0, 1) := by decide +kernel
theorem dM_holder_49 : decode cM_holder 49 = .ok (.ireturn, 1) := by decide +kernel
theorem dM_donate_0 : decode cM_donate 0 = .ok (.aload_n 0, 1) := by decide +kernel
theorem dM_donate_1 : decode cM_donate 1 = .ok (.iload_n 1, 1) := by decide +kernel
theorem dM_donate_2 : decode cM_donate 2 = .ok (.iload_n 2, 1) := by decide +kernel
theorem dM_donate_3 : decode cM_donate 3 = .ok (.iload_n 3, 1) := by decide +kernel
theorem dM_donate_4 : decode cM_donate 4 = .ok (.invokevirtual 104, 3) := by decide +kernel
theorem dM_donate_7 : decode cM_donate 7 = .ok (.istore 4, 2) := by decide +kernel
theorem dM_donate_9 : decode cM_donate 9 = .ok (.iload 4, 2) := by decide +kernel
theorem dM_donate_11 : decode cM_donate 11 = .ok (.ifCond .ge 6, 3) := by decide +kernel
theorem dM_donate_14 : decode cM_donate 14 = .ok (.iload 4, 2) := by decide +kernel
theorem dM_donate_16 : decode cM_donate 16 = .ok (.ireturn, 1) := by decide +kernel
theorem dM_donate_17 : decode cM_donate 17 = .ok (.aload_n 0, 1) := by decide +kernel
theorem dM_donate_18 : decode cM_donate 18 = .ok (.getfield 13, 3) := by decide +kernel
theorem dM_donate_21 : decode cM_donate 21 = .ok (.iload_n 2, 1) := by decide +kernel
theorem dM_donate_22 : decode cM_donate 22 = .ok (.iload_n 1, 1) := by decide +kernel
theorem dM_donate_23 : decode cM_donate 23 = .ok (.iastore, 1) := by decide +kernel
theorem dM_donate_24 : decode cM_donate 24 = .ok (.aload_n 0, 1) := by decide +kernel
theorem dM_donate_25 : decode cM_donate 25 = .ok (.getfield 22, 3) := by decide +kernel
theorem dM_donate_28 : decode cM_donate 28 = .ok (.iload_n 2, 1) := by decide +kernel
theorem dM_donate_29 : decode cM_donate 29 = .ok (.iload_n 3, 1) := by decide +kernel
theorem dM_donate_30 : decode cM_donate 30 = .ok (.iastore, 1) := by decide +kernel
theorem dM_donate_31 : decode cM_donate 31 = .ok (.aload_n 0, 1) := by decide +kernel
theorem dM_donate_32 : decode cM_donate 32 = .ok (.getfield 25, 3) := by decide +kernel
theorem dM_donate_35 : decode cM_donate 35 = .ok (.iload_n 2, 1) := by decide +kernel
theorem dM_donate_36 : decode cM_donate 36 = .ok (.iconst 0, 1) := by decide +kernel
theorem dM_donate_37 : decode cM_donate 37 = .ok (.bastore, 1) := by decide +kernel
theorem dM_donate_38 : decode cM_donate 38 = .ok (.aload_n 0, 1) := by decide +kernel
theorem dM_donate_39 : decode cM_donate 39 = .ok (.getfield 35, 3) := by decide +kernel
theorem dM_donate_42 : decode cM_donate 42 = .ok (.iload_n 1, 1) := by decide +kernel
theorem dM_donate_43 : decode cM_donate 43 = .ok (.baload, 1) := by decide +kernel
theorem dM_donate_44 : decode cM_donate 44 = .ok (.ifCond .eq 8, 3) := by decide +kernel
theorem dM_donate_47 : decode cM_donate 47 = .ok (.aload_n 0, 1) := by decide +kernel
theorem dM_donate_48 : decode cM_donate 48 = .ok (.iload_n 2, 1) := by decide +kernel
theorem dM_donate_49 : decode cM_donate 49 = .ok (.invokevirtual 81, 3) := by decide +kernel
theorem dM_donate_52 : decode cM_donate 52 = .ok (.aload_n 0, 1) := by decide +kernel
theorem dM_donate_53 : decode cM_donate 53 = .ok (.iload_n 2, 1) := by decide +kernel
theorem dM_donate_54 : decode cM_donate 54 = .ok (.invokevirtual 85, 3) := by decide +kernel
theorem dM_donate_57 : decode cM_donate 57 = .ok (.iconst 0, 1) := by decide +kernel
theorem dM_donate_58 : decode cM_donate 58 = .ok (.ireturn, 1) := by decide +kernel
theorem dM_refusal_0 : decode cM_refusal 0 = .ok (.aload_n 0, 1) := by decide +kernel
theorem dM_refusal_1 : decode cM_refusal 1 = .ok (.iload_n 1, 1) := by decide +kernel
theorem dM_refusal_2 : decode cM_refusal 2 = .ok (.invokevirtual 95, 3) := by decide +kernel
theorem dM_refusal_5 : decode cM_refusal 5 = .ok (.ifCond .ne 5, 3) := by decide +kernel
theorem dM_refusal_8 : decode cM_refusal 8 = .ok (.iconst (-1), 1) := by decide +kernel
theorem dM_refusal_9 : decode cM_refusal 9 = .ok (.ireturn, 1) := by decide +kernel
theorem dM_refusal_10 : decode cM_refusal 10 = .ok (.aload_n 0, 1) := by decide +kernel
theorem dM_refusal_11 : decode cM_refusal 11 = .ok (.iload_n 2, 1) := by decide +kernel
theorem dM_refusal_12 : decode cM_refusal 12 = .ok (.invokevirtual 88, 3) := by decide +kernel
theorem dM_refusal_15 : decode cM_refusal 15 = .ok (.ifCond .ne 6, 3) := by decide +kernel
theorem dM_refusal_18 : decode cM_refusal 18 = .ok (.bipush (-2), 2) := by decide +kernel
theorem dM_refusal_20 : decode cM_refusal 20 = .ok (.ireturn, 1) := by decide +kernel
theorem dM_refusal_21 : decode cM_refusal 21 = .ok (.iload_n 3, 1) := by decide +kernel
theorem dM_refusal_22 : decode cM_refusal 22 = .ok (.ifCond .lt 18, 3) := by decide +kernel
theorem dM_refusal_25 : decode cM_refusal 25 = .ok (.iload_n 3, 1) := by decide +kernel
theorem dM_refusal_26 : decode cM_refusal 26 = .ok (.bipush 63, 2) := by decide +kernel
theorem dM_refusal_28 : decode cM_refusal 28 = .ok (.if_icmp .gt 12, 3) := by decide +kernel
theorem dM_refusal_31 : decode cM_refusal 31 = .ok (.aload_n 0, 1) := by decide +kernel
theorem dM_refusal_32 : decode cM_refusal 32 = .ok (.iload_n 1, 1) := by decide +kernel
theorem dM_refusal_33 : decode cM_refusal 33 = .ok (.iload_n 3, 1) := by decide +kernel
theorem dM_refusal_34 : decode cM_refusal 34 = .ok (.invokevirtual 101, 3) := by decide +kernel
theorem dM_refusal_37 : decode cM_refusal 37 = .ok (.ifCond .lt 6, 3) := by decide +kernel
theorem dM_refusal_40 : decode cM_refusal 40 = .ok (.bipush (-3), 2) := by decide +kernel
theorem dM_refusal_42 : decode cM_refusal 42 = .ok (.ireturn, 1) := by decide +kernel
theorem dM_refusal_43 : decode cM_refusal 43 = .ok (.aload_n 0, 1) := by decide +kernel
theorem dM_refusal_44 : decode cM_refusal 44 = .ok (.iload_n 1, 1) := by decide +kernel
theorem dM_refusal_45 : decode cM_refusal 45 = .ok (.iload_n 3, 1) := by decide +kernel
theorem dM_refusal_46 : decode cM_refusal 46 = .ok (.invokevirtual 68, 3) := by decide +kernel
theorem dM_refusal_49 : decode cM_refusal 49 = .ok (.aload_n 0, 1) := by decide +kernel
theorem dM_refusal_50 : decode cM_refusal 50 = .ok (.iload_n 1, 1) := by decide +kernel
theorem dM_refusal_51 : decode cM_refusal 51 = .ok (.iconst (-1), 1) := by decide +kernel
theorem dM_refusal_52 : decode cM_refusal 52 = .ok (.invokevirtual 68, 3) := by decide +kernel
theorem dM_refusal_55 : decode cM_refusal 55 = .ok (.isub, 1) := by decide +kernel
theorem dM_refusal_56 : decode cM_refusal 56 = .ok (.istore 4, 2) := by decide +kernel
theorem dM_refusal_58 : decode cM_refusal 58 = .ok (.iload 4, 2) := by decide +kernel
theorem dM_refusal_60 : decode cM_refusal 60 = .ok (.aload_n 0, 1) := by decide +kernel
theorem dM_refusal_61 : decode cM_refusal 61 = .ok (.iload_n 1, 1) := by decide +kernel
theorem dM_refusal_62 : decode cM_refusal 62 = .ok (.invokevirtual 98, 3) := by decide +kernel
theorem dM_refusal_65 : decode cM_refusal 65 = .ok (.if_icmp .le 8, 3) := by decide +kernel
theorem dM_refusal_68 : decode cM_refusal 68 = .ok (.bipush (-4), 2) := by decide +kernel
theorem dM_refusal_70 : decode cM_refusal 70 = .ok (.goto 4, 3) := by decide +kernel
theorem dM_refusal_73 : decode cM_refusal 73 = .ok (.iconst 0, 1) := by decide +kernel
theorem dM_refusal_74 : decode cM_refusal 74 = .ok (.ireturn, 1) := by decide +kernel
theorem dM_held_0 : decode cM_held 0 = .ok (.iconst 0, 1) := by decide +kernel
theorem dM_held_1 : decode cM_held 1 = .ok (.istore_n 3, 1) := by decide +kernel
theorem dM_held_2 : decode cM_held 2 = .ok (.iload_n 3, 1) := by decide +kernel
theorem dM_held_3 : decode cM_held 3 = .ok (.bipush 24, 2) := by decide +kernel
theorem dM_held_5 : decode cM_held 5 = .ok (.if_icmp .ge 30, 3) := by decide +kernel
theorem dM_held_8 : decode cM_held 8 = .ok (.aload_n 0, 1) := by decide +kernel
theorem dM_held_9 : decode cM_held 9 = .ok (.iload_n 3, 1) := by decide +kernel
theorem dM_held_10 : decode cM_held 10 = .ok (.invokevirtual 64, 3) := by decide +kernel
theorem dM_held_13 : decode cM_held 13 = .ok (.iload_n 1, 1) := by decide +kernel
theorem dM_held_14 : decode cM_held 14 = .ok (.if_icmp .ne 15, 3) := by decide +kernel
theorem dM_held_17 : decode cM_held 17 = .ok (.aload_n 0, 1) := by decide +kernel
theorem dM_held_18 : decode cM_held 18 = .ok (.getfield 22, 3) := by decide +kernel
theorem dM_held_21 : decode cM_held 21 = .ok (.iload_n 3, 1) := by decide +kernel
theorem dM_held_22 : decode cM_held 22 = .ok (.iaload, 1) := by decide +kernel
theorem dM_held_23 : decode cM_held 23 = .ok (.iload_n 2, 1) := by decide +kernel
theorem dM_held_24 : decode cM_held 24 = .ok (.if_icmp .ne 5, 3) := by decide +kernel
theorem dM_held_27 : decode cM_held 27 = .ok (.iload_n 3, 1) := by decide +kernel
theorem dM_held_28 : decode cM_held 28 = .ok (.ireturn, 1) := by decide +kernel
theorem dM_held_29 : decode cM_held 29 = .ok (.iinc 3 1, 3) := by decide +kernel
theorem dM_held_32 : decode cM_held 32 = .ok (.goto (-30), 3) := by decide +kernel
theorem dM_held_35 : decode cM_held 35 = .ok (.iconst (-1), 1) := by decide +kernel
theorem dM_held_36 : decode cM_held 36 = .ok (.ireturn, 1) := by decide +kernel
theorem dM_lend_0 : decode cM_lend 0 = .ok (.aload_n 0, 1) := by decide +kernel
theorem dM_lend_1 : decode cM_lend 1 = .ok (.iload_n 1, 1) := by decide +kernel
theorem dM_lend_2 : decode cM_lend 2 = .ok (.iload_n 2, 1) := by decide +kernel
theorem dM_lend_3 : decode cM_lend 3 = .ok (.iload_n 3, 1) := by decide +kernel
theorem dM_lend_4 : decode cM_lend 4 = .ok (.invokevirtual 104, 3) := by decide +kernel
theorem dM_lend_7 : decode cM_lend 7 = .ok (.istore 4, 2) := by decide +kernel
theorem dM_lend_9 : decode cM_lend 9 = .ok (.iload 4, 2) := by decide +kernel
theorem dM_lend_11 : decode cM_lend 11 = .ok (.ifCond .ne 17, 3) := by decide +kernel
theorem dM_lend_14 : decode cM_lend 14 = .ok (.aload_n 0, 1) := by decide +kernel
theorem dM_lend_15 : decode cM_lend 15 = .ok (.getfield 19, 3) := by decide +kernel
theorem dM_lend_18 : decode cM_lend 18 = .ok (.iload_n 2, 1) := by decide +kernel
theorem dM_lend_19 : decode cM_lend 19 = .ok (.iload_n 1, 1) := by decide +kernel
theorem dM_lend_20 : decode cM_lend 20 = .ok (.iastore, 1) := by decide +kernel
theorem dM_lend_21 : decode cM_lend 21 = .ok (.aload_n 0, 1) := by decide +kernel
theorem dM_lend_22 : decode cM_lend 22 = .ok (.getfield 22, 3) := by decide +kernel
theorem dM_lend_25 : decode cM_lend 25 = .ok (.iload_n 2, 1) := by decide +kernel
theorem dM_lend_26 : decode cM_lend 26 = .ok (.iload_n 3, 1) := by decide +kernel
theorem dM_lend_27 : decode cM_lend 27 = .ok (.iastore, 1) := by decide +kernel
theorem dM_lend_28 : decode cM_lend 28 = .ok (.iload 4, 2) := by decide +kernel
theorem dM_lend_30 : decode cM_lend 30 = .ok (.ireturn, 1) := by decide +kernel
theorem dM_takeBack_0 : decode cM_takeBack 0 = .ok (.iload_n 1, 1) := by decide +kernel
theorem dM_takeBack_1 : decode cM_takeBack 1 = .ok (.invokestatic 54, 3) := by decide +kernel
theorem dM_takeBack_4 : decode cM_takeBack 4 = .ok (.ifCond .eq 12, 3) := by decide +kernel
theorem dM_takeBack_7 : decode cM_takeBack 7 = .ok (.aload_n 0, 1) := by decide +kernel
theorem dM_takeBack_8 : decode cM_takeBack 8 = .ok (.getfield 19, 3) := by decide +kernel
theorem dM_takeBack_11 : decode cM_takeBack 11 = .ok (.iload_n 1, 1) := by decide +kernel
theorem dM_takeBack_12 : decode cM_takeBack 12 = .ok (.iaload, 1) := by decide +kernel
theorem dM_takeBack_13 : decode cM_takeBack 13 = .ok (.ifCond .ne 5, 3) := by decide +kernel
theorem dM_takeBack_16 : decode cM_takeBack 16 = .ok (.iconst 0, 1) := by decide +kernel
theorem dM_takeBack_17 : decode cM_takeBack 17 = .ok (.ireturn, 1) := by decide +kernel
theorem dM_takeBack_18 : decode cM_takeBack 18 = .ok (.aload_n 0, 1) := by decide +kernel
theorem dM_takeBack_19 : decode cM_takeBack 19 = .ok (.getfield 19, 3) := by decide +kernel
theorem dM_takeBack_22 : decode cM_takeBack 22 = .ok (.iload_n 1, 1) := by decide +kernel
theorem dM_takeBack_23 : decode cM_takeBack 23 = .ok (.iconst 0, 1) := by decide +kernel
theorem dM_takeBack_24 : decode cM_takeBack 24 = .ok (.iastore, 1) := by decide +kernel
theorem dM_takeBack_25 : decode cM_takeBack 25 = .ok (.iconst 1, 1) := by decide +kernel
theorem dM_takeBack_26 : decode cM_takeBack 26 = .ok (.ireturn, 1) := by decide +kernel
theorem dM_destroy_0 : decode cM_destroy 0 = .ok (.aload_n 0, 1) := by decide +kernel
theorem dM_destroy_1 : decode cM_destroy 1 = .ok (.iload_n 1, 1) := by decide +kernel
theorem dM_destroy_2 : decode cM_destroy 2 = .ok (.invokevirtual 95, 3) := by decide +kernel
theorem dM_destroy_5 : decode cM_destroy 5 = .ok (.ifCond .eq 20, 3) := by decide +kernel
theorem dM_destroy_8 : decode cM_destroy 8 = .ok (.aload_n 0, 1) := by decide +kernel
theorem dM_destroy_9 : decode cM_destroy 9 = .ok (.getfield 47, 3) := by decide +kernel
theorem dM_destroy_12 : decode cM_destroy 12 = .ok (.ifCond .lt 15, 3) := by decide +kernel
theorem dM_destroy_15 : decode cM_destroy 15 = .ok (.aload_n 0, 1) := by decide +kernel
theorem dM_destroy_16 : decode cM_destroy 16 = .ok (.getfield 47, 3) := by decide +kernel
theorem dM_destroy_19 : decode cM_destroy 19 = .ok (.iconst 2, 1) := by decide +kernel
theorem dM_destroy_20 : decode cM_destroy 20 = .ok (.idiv, 1) := by decide +kernel
theorem dM_destroy_21 : decode cM_destroy 21 = .ok (.iload_n 1, 1) := by decide +kernel
theorem dM_destroy_22 : decode cM_destroy 22 = .ok (.if_icmp .ne 5, 3) := by decide +kernel
theorem dM_destroy_25 : decode cM_destroy 25 = .ok (.iconst 0, 1) := by decide +kernel
theorem dM_destroy_26 : decode cM_destroy 26 = .ok (.ireturn, 1) := by decide +kernel
theorem dM_destroy_27 : decode cM_destroy 27 = .ok (.aload_n 0, 1) := by decide +kernel
theorem dM_destroy_28 : decode cM_destroy 28 = .ok (.getfield 32, 3) := by decide +kernel
theorem dM_destroy_31 : decode cM_destroy 31 = .ok (.iload_n 1, 1) := by decide +kernel
theorem dM_destroy_32 : decode cM_destroy 32 = .ok (.iconst 0, 1) := by decide +kernel
theorem dM_destroy_33 : decode cM_destroy 33 = .ok (.bastore, 1) := by decide +kernel
theorem dM_destroy_34 : decode cM_destroy 34 = .ok (.iconst 0, 1) := by decide +kernel
theorem dM_destroy_35 : decode cM_destroy 35 = .ok (.istore_n 2, 1) := by decide +kernel
theorem dM_destroy_36 : decode cM_destroy 36 = .ok (.iload_n 2, 1) := by decide +kernel
theorem dM_destroy_37 : decode cM_destroy 37 = .ok (.bipush 24, 2) := by decide +kernel
theorem dM_destroy_39 : decode cM_destroy 39 = .ok (.if_icmp .ge 86, 3) := by decide +kernel
theorem dM_destroy_42 : decode cM_destroy 42 = .ok (.aload_n 0, 1) := by decide +kernel
theorem dM_destroy_43 : decode cM_destroy 43 = .ok (.getfield 13, 3) := by decide +kernel
theorem dM_destroy_46 : decode cM_destroy 46 = .ok (.iload_n 2, 1) := by decide +kernel
theorem dM_destroy_47 : decode cM_destroy 47 = .ok (.iaload, 1) := by decide +kernel
theorem dM_destroy_48 : decode cM_destroy 48 = .ok (.iload_n 1, 1) := by decide +kernel
theorem dM_destroy_49 : decode cM_destroy 49 = .ok (.if_icmp .eq 24, 3) := by decide +kernel
theorem dM_destroy_52 : decode cM_destroy 52 = .ok (.aload_n 0, 1) := by decide +kernel
theorem dM_destroy_53 : decode cM_destroy 53 = .ok (.getfield 13, 3) := by decide +kernel
theorem dM_destroy_56 : decode cM_destroy 56 = .ok (.iload_n 2, 1) := by decide +kernel
theorem dM_destroy_57 : decode cM_destroy 57 = .ok (.iaload, 1) := by decide +kernel
theorem dM_destroy_58 : decode cM_destroy 58 = .ok (.bipush 7, 2) := by decide +kernel
theorem dM_destroy_60 : decode cM_destroy 60 = .ok (.if_icmp .ne 33, 3) := by decide +kernel
theorem dM_destroy_63 : decode cM_destroy 63 = .ok (.aload_n 0, 1) := by decide +kernel
theorem dM_destroy_64 : decode cM_destroy 64 = .ok (.getfield 16, 3) := by decide +kernel
theorem dM_destroy_67 : decode cM_destroy 67 = .ok (.iload_n 2, 1) := by decide +kernel
theorem dM_destroy_68 : decode cM_destroy 68 = .ok (.iaload, 1) := by decide +kernel
theorem dM_destroy_69 : decode cM_destroy 69 = .ok (.iload_n 1, 1) := by decide +kernel
theorem dM_destroy_70 : decode cM_destroy 70 = .ok (.if_icmp .ne 23, 3) := by decide +kernel
theorem dM_destroy_73 : decode cM_destroy 73 = .ok (.aload_n 0, 1) := by decide +kernel
theorem dM_destroy_74 : decode cM_destroy 74 = .ok (.getfield 13, 3) := by decide +kernel
theorem dM_destroy_77 : decode cM_destroy 77 = .ok (.iload_n 2, 1) := by decide +kernel
theorem dM_destroy_78 : decode cM_destroy 78 = .ok (.bipush 8, 2) := by decide +kernel
theorem dM_destroy_80 : decode cM_destroy 80 = .ok (.iastore, 1) := by decide +kernel
theorem dM_destroy_81 : decode cM_destroy 81 = .ok (.aload_n 0, 1) := by decide +kernel
theorem dM_destroy_82 : decode cM_destroy 82 = .ok (.getfield 25, 3) := by decide +kernel
theorem dM_destroy_85 : decode cM_destroy 85 = .ok (.iload_n 2, 1) := by decide +kernel
theorem dM_destroy_86 : decode cM_destroy 86 = .ok (.iconst 0, 1) := by decide +kernel
theorem dM_destroy_87 : decode cM_destroy 87 = .ok (.bastore, 1) := by decide +kernel
theorem dM_destroy_88 : decode cM_destroy 88 = .ok (.aload_n 0, 1) := by decide +kernel
theorem dM_destroy_89 : decode cM_destroy 89 = .ok (.iload_n 2, 1) := by decide +kernel
theorem dM_destroy_90 : decode cM_destroy 90 = .ok (.invokevirtual 85, 3) := by decide +kernel
theorem dM_destroy_93 : decode cM_destroy 93 = .ok (.aload_n 0, 1) := by decide +kernel
theorem dM_destroy_94 : decode cM_destroy 94 = .ok (.getfield 19, 3) := by decide +kernel
theorem dM_destroy_97 : decode cM_destroy 97 = .ok (.iload_n 2, 1) := by decide +kernel
theorem dM_destroy_98 : decode cM_destroy 98 = .ok (.aload_n 0, 1) := by decide +kernel
theorem dM_destroy_99 : decode cM_destroy 99 = .ok (.getfield 19, 3) := by decide +kernel
theorem dM_destroy_102 : decode cM_destroy 102 = .ok (.iload_n 2, 1) := by decide +kernel
theorem dM_destroy_103 : decode cM_destroy 103 = .ok (.iaload, 1) := by decide +kernel
theorem dM_destroy_104 : decode cM_destroy 104 = .ok (.iload_n 1, 1) := by decide +kernel
theorem dM_destroy_105 : decode cM_destroy 105 = .ok (.if_icmp .ne 7, 3) := by decide +kernel
theorem dM_destroy_108 : decode cM_destroy 108 = .ok (.iconst 0, 1) := by decide +kernel
theorem dM_destroy_109 : decode cM_destroy 109 = .ok (.goto 9, 3) := by decide +kernel
theorem dM_destroy_112 : decode cM_destroy 112 = .ok (.aload_n 0, 1) := by decide +kernel
theorem dM_destroy_113 : decode cM_destroy 113 = .ok (.getfield 19, 3) := by decide +kernel
theorem dM_destroy_116 : decode cM_destroy 116 = .ok (.iload_n 2, 1) := by decide +kernel
theorem dM_destroy_117 : decode cM_destroy 117 = .ok (.iaload, 1) := by decide +kernel
theorem dM_destroy_118 : decode cM_destroy 118 = .ok (.iastore, 1) := by decide +kernel
theorem dM_destroy_119 : decode cM_destroy 119 = .ok (.iinc 2 1, 3) := by decide +kernel
theorem dM_destroy_122 : decode cM_destroy 122 = .ok (.goto (-86), 3) := by decide +kernel
theorem dM_destroy_125 : decode cM_destroy 125 = .ok (.iconst 1, 1) := by decide +kernel
theorem dM_destroy_126 : decode cM_destroy 126 = .ok (.ireturn, 1) := by decide +kernel
theorem dM_reclaim_0 : decode cM_reclaim 0 = .ok (.iload_n 1, 1) := by decide +kernel
theorem dM_reclaim_1 : decode cM_reclaim 1 = .ok (.invokestatic 54, 3) := by decide +kernel
theorem dM_reclaim_4 : decode cM_reclaim 4 = .ok (.ifCond .eq 14, 3) := by decide +kernel
theorem dM_reclaim_7 : decode cM_reclaim 7 = .ok (.aload_n 0, 1) := by decide +kernel
theorem dM_reclaim_8 : decode cM_reclaim 8 = .ok (.getfield 13, 3) := by decide +kernel
theorem dM_reclaim_11 : decode cM_reclaim 11 = .ok (.iload_n 1, 1) := by decide +kernel
theorem dM_reclaim_12 : decode cM_reclaim 12 = .ok (.iaload, 1) := by decide +kernel
theorem dM_reclaim_13 : decode cM_reclaim 13 = .ok (.bipush 8, 2) := by decide +kernel
theorem dM_reclaim_15 : decode cM_reclaim 15 = .ok (.if_icmp .eq 5, 3) := by decide +kernel
theorem dM_reclaim_18 : decode cM_reclaim 18 = .ok (.iconst 0, 1) := by decide +kernel
theorem dM_reclaim_19 : decode cM_reclaim 19 = .ok (.ireturn, 1) := by decide +kernel
theorem dM_reclaim_20 : decode cM_reclaim 20 = .ok (.aload_n 0, 1) := by decide +kernel
theorem dM_reclaim_21 : decode cM_reclaim 21 = .ok (.getfield 13, 3) := by decide +kernel
theorem dM_reclaim_24 : decode cM_reclaim 24 = .ok (.iload_n 1, 1) := by decide +kernel
theorem dM_reclaim_25 : decode cM_reclaim 25 = .ok (.iconst 0, 1) := by decide +kernel
theorem dM_reclaim_26 : decode cM_reclaim 26 = .ok (.iastore, 1) := by decide +kernel
theorem dM_reclaim_27 : decode cM_reclaim 27 = .ok (.aload_n 0, 1) := by decide +kernel
theorem dM_reclaim_28 : decode cM_reclaim 28 = .ok (.iload_n 1, 1) := by decide +kernel
theorem dM_reclaim_29 : decode cM_reclaim 29 = .ok (.invokevirtual 81, 3) := by decide +kernel
theorem dM_reclaim_32 : decode cM_reclaim 32 = .ok (.iconst 1, 1) := by decide +kernel
theorem dM_reclaim_33 : decode cM_reclaim 33 = .ok (.ireturn, 1) := by decide +kernel
theorem dM_load_0 : decode cM_load 0 = .ok (.aload_n 0, 1) := by decide +kernel
theorem dM_load_1 : decode cM_load 1 = .ok (.getfield 47, 3) := by decide +kernel
theorem dM_load_4 : decode cM_load 4 = .ok (.ifCond .ge 20, 3) := by decide +kernel
theorem dM_load_7 : decode cM_load 7 = .ok (.aload_n 0, 1) := by decide +kernel
theorem dM_load_8 : decode cM_load 8 = .ok (.iload_n 1, 1) := by decide +kernel
theorem dM_load_9 : decode cM_load 9 = .ok (.invokevirtual 95, 3) := by decide +kernel
theorem dM_load_12 : decode cM_load 12 = .ok (.ifCond .eq 12, 3) := by decide +kernel
theorem dM_load_15 : decode cM_load 15 = .ok (.iload_n 2, 1) := by decide +kernel
theorem dM_load_16 : decode cM_load 16 = .ok (.ifCond .lt 8, 3) := by decide +kernel
theorem dM_load_19 : decode cM_load 19 = .ok (.iload_n 2, 1) := by decide +kernel
theorem dM_load_20 : decode cM_load 20 = .ok (.iconst 1, 1) := by decide +kernel
theorem dM_load_21 : decode cM_load 21 = .ok (.if_icmp .le 5, 3) := by decide +kernel
theorem dM_load_24 : decode cM_load 24 = .ok (.iconst 0, 1) := by decide +kernel
theorem dM_load_25 : decode cM_load 25 = .ok (.ireturn, 1) := by decide +kernel
theorem dM_load_26 : decode cM_load 26 = .ok (.aload_n 0, 1) := by decide +kernel
theorem dM_load_27 : decode cM_load 27 = .ok (.iconst 2, 1) := by decide +kernel
theorem dM_load_28 : decode cM_load 28 = .ok (.iload_n 1, 1) := by decide +kernel
theorem dM_load_29 : decode cM_load 29 = .ok (.imul, 1) := by decide +kernel
theorem dM_load_30 : decode cM_load 30 = .ok (.iload_n 2, 1) := by decide +kernel
theorem dM_load_31 : decode cM_load 31 = .ok (.iadd, 1) := by decide +kernel
theorem dM_load_32 : decode cM_load 32 = .ok (.putfield 47, 3) := by decide +kernel
theorem dM_load_35 : decode cM_load 35 = .ok (.aload_n 0, 1) := by decide +kernel
theorem dM_load_36 : decode cM_load 36 = .ok (.getfield 35, 3) := by decide +kernel
theorem dM_load_39 : decode cM_load 39 = .ok (.iload_n 1, 1) := by decide +kernel
theorem dM_load_40 : decode cM_load 40 = .ok (.iconst 1, 1) := by decide +kernel
theorem dM_load_41 : decode cM_load 41 = .ok (.bastore, 1) := by decide +kernel
theorem dM_load_42 : decode cM_load 42 = .ok (.iconst 1, 1) := by decide +kernel
theorem dM_load_43 : decode cM_load 43 = .ok (.ireturn, 1) := by decide +kernel
theorem dM_put_0 : decode cM_put 0 = .ok (.aload_n 0, 1) := by decide +kernel
theorem dM_put_1 : decode cM_put 1 = .ok (.getfield 47, 3) := by decide +kernel
theorem dM_put_4 : decode cM_put 4 = .ok (.ifCond .lt 7, 3) := by decide +kernel
theorem dM_put_7 : decode cM_put 7 = .ok (.iconst 1, 1) := by decide +kernel
theorem dM_put_8 : decode cM_put 8 = .ok (.goto 4, 3) := by decide +kernel
theorem dM_put_11 : decode cM_put 11 = .ok (.iconst 0, 1) := by decide +kernel
theorem dM_put_12 : decode cM_put 12 = .ok (.istore_n 1, 1) := by decide +kernel
theorem dM_put_13 : decode cM_put 13 = .ok (.aload_n 0, 1) := by decide +kernel
theorem dM_put_14 : decode cM_put 14 = .ok (.iconst (-1), 1) := by decide +kernel
theorem dM_put_15 : decode cM_put 15 = .ok (.putfield 47, 3) := by decide +kernel
theorem dM_put_18 : decode cM_put 18 = .ok (.iload_n 1, 1) := by decide +kernel
theorem dM_put_19 : decode cM_put 19 = .ok (.ireturn, 1) := by decide +kernel
theorem dM_run_0 : decode cM_run 0 = .ok (.aload_n 0, 1) := by decide +kernel
theorem dM_run_1 : decode cM_run 1 = .ok (.getfield 47, 3) := by decide +kernel
theorem dM_run_4 : decode cM_run 4 = .ok (.ifCond .lt 14, 3) := by decide +kernel
theorem dM_run_7 : decode cM_run 7 = .ok (.iload_n 1, 1) := by decide +kernel
theorem dM_run_8 : decode cM_run 8 = .ok (.iconst 1, 1) := by decide +kernel
theorem dM_run_9 : decode cM_run 9 = .ok (.if_icmp .lt 9, 3) := by decide +kernel
theorem dM_run_12 : decode cM_run 12 = .ok (.iload_n 1, 1) := by decide +kernel
theorem dM_run_13 : decode cM_run 13 = .ok (.bipush 64, 2) := by decide +kernel
theorem dM_run_15 : decode cM_run 15 = .ok (.if_icmp .le 5, 3) := by decide +kernel
theorem dM_run_18 : decode cM_run 18 = .ok (.iconst (-1), 1) := by decide +kernel
theorem dM_run_19 : decode cM_run 19 = .ok (.ireturn, 1) := by decide +kernel
theorem dM_run_20 : decode cM_run 20 = .ok (.aload_n 0, 1) := by decide +kernel
theorem dM_run_21 : decode cM_run 21 = .ok (.getfield 47, 3) := by decide +kernel
theorem dM_run_24 : decode cM_run 24 = .ok (.istore_n 3, 1) := by decide +kernel
theorem dM_run_25 : decode cM_run 25 = .ok (.aload_n 0, 1) := by decide +kernel
theorem dM_run_26 : decode cM_run 26 = .ok (.getfield 44, 3) := by decide +kernel
theorem dM_run_29 : decode cM_run 29 = .ok (.iload_n 3, 1) := by decide +kernel
theorem dM_run_30 : decode cM_run 30 = .ok (.iaload, 1) := by decide +kernel
theorem dM_run_31 : decode cM_run 31 = .ok (.ifCond .le 28, 3) := by decide +kernel
theorem dM_run_34 : decode cM_run 34 = .ok (.aload_n 0, 1) := by decide +kernel
theorem dM_run_35 : decode cM_run 35 = .ok (.getfield 38, 3) := by decide +kernel
theorem dM_run_38 : decode cM_run 38 = .ok (.iconst 4, 1) := by decide +kernel
theorem dM_run_39 : decode cM_run 39 = .ok (.iload_n 3, 1) := by decide +kernel
theorem dM_run_40 : decode cM_run 40 = .ok (.imul, 1) := by decide +kernel
theorem dM_run_41 : decode cM_run 41 = .ok (.aload_n 0, 1) := by decide +kernel
theorem dM_run_42 : decode cM_run 42 = .ok (.getfield 44, 3) := by decide +kernel
theorem dM_run_45 : decode cM_run 45 = .ok (.iload_n 3, 1) := by decide +kernel
theorem dM_run_46 : decode cM_run 46 = .ok (.iaload, 1) := by decide +kernel
theorem dM_run_47 : decode cM_run 47 = .ok (.iadd, 1) := by decide +kernel
theorem dM_run_48 : decode cM_run 48 = .ok (.iconst 1, 1) := by decide +kernel
theorem dM_run_49 : decode cM_run 49 = .ok (.isub, 1) := by decide +kernel
theorem dM_run_50 : decode cM_run 50 = .ok (.iload_n 2, 1) := by decide +kernel
theorem dM_run_51 : decode cM_run 51 = .ok (.iastore, 1) := by decide +kernel
theorem dM_run_52 : decode cM_run 52 = .ok (.aload_n 0, 1) := by decide +kernel
theorem dM_run_53 : decode cM_run 53 = .ok (.getfield 44, 3) := by decide +kernel
theorem dM_run_56 : decode cM_run 56 = .ok (.iload_n 3, 1) := by decide +kernel
theorem dM_run_57 : decode cM_run 57 = .ok (.iconst 0, 1) := by decide +kernel
theorem dM_run_58 : decode cM_run 58 = .ok (.iastore, 1) := by decide +kernel
theorem dM_run_59 : decode cM_run 59 = .ok (.aload_n 0, 1) := by decide +kernel
theorem dM_run_60 : decode cM_run 60 = .ok (.iconst 0, 1) := by decide +kernel
theorem dM_run_61 : decode cM_run 61 = .ok (.putfield 108, 3) := by decide +kernel
theorem dM_run_64 : decode cM_run 64 = .ok (.iconst 0, 1) := by decide +kernel
theorem dM_run_65 : decode cM_run 65 = .ok (.istore 4, 2) := by decide +kernel
theorem dM_run_67 : decode cM_run 67 = .ok (.iconst 0, 1) := by decide +kernel
theorem dM_run_68 : decode cM_run 68 = .ok (.istore 5, 2) := by decide +kernel
theorem dM_run_70 : decode cM_run 70 = .ok (.iload 5, 2) := by decide +kernel
theorem dM_run_72 : decode cM_run 72 = .ok (.iload_n 1, 1) := by decide +kernel
theorem dM_run_73 : decode cM_run 73 = .ok (.if_icmp .ge 21, 3) := by decide +kernel
theorem dM_run_76 : decode cM_run 76 = .ok (.iload 4, 2) := by decide +kernel
theorem dM_run_78 : decode cM_run 78 = .ok (.ifCond .ne 16, 3) := by decide +kernel
theorem dM_run_81 : decode cM_run 81 = .ok (.aload_n 0, 1) := by decide +kernel
theorem dM_run_82 : decode cM_run 82 = .ok (.iload_n 3, 1) := by decide +kernel
theorem dM_run_83 : decode cM_run 83 = .ok (.invokevirtual 111, 3) := by decide +kernel
theorem dM_run_86 : decode cM_run 86 = .ok (.istore 4, 2) := by decide +kernel
theorem dM_run_88 : decode cM_run 88 = .ok (.iinc 5 1, 3) := by decide +kernel
theorem dM_run_91 : decode cM_run 91 = .ok (.goto (-21), 3) := by decide +kernel
theorem dM_run_94 : decode cM_run 94 = .ok (.iload 4, 2) := by decide +kernel
theorem dM_run_96 : decode cM_run 96 = .ok (.ireturn, 1) := by decide +kernel
theorem dM_step_0 : decode cM_step 0 = .ok (.iload_n 1, 1) := by decide +kernel
theorem dM_step_1 : decode cM_step 1 = .ok (.iconst 2, 1) := by decide +kernel
theorem dM_step_2 : decode cM_step 2 = .ok (.idiv, 1) := by decide +kernel
theorem dM_step_3 : decode cM_step 3 = .ok (.istore_n 2, 1) := by decide +kernel
theorem dM_step_4 : decode cM_step 4 = .ok (.aload_n 0, 1) := by decide +kernel
theorem dM_step_5 : decode cM_step 5 = .ok (.iload_n 2, 1) := by decide +kernel
theorem dM_step_6 : decode cM_step 6 = .ok (.aload_n 0, 1) := by decide +kernel
theorem dM_step_7 : decode cM_step 7 = .ok (.getfield 41, 3) := by decide +kernel
theorem dM_step_10 : decode cM_step 10 = .ok (.iload_n 1, 1) := by decide +kernel
theorem dM_step_11 : decode cM_step 11 = .ok (.iaload, 1) := by decide +kernel
theorem dM_step_12 : decode cM_step 12 = .ok (.invokevirtual 114, 3) := by decide +kernel
theorem dM_step_15 : decode cM_step 15 = .ok (.istore_n 3, 1) := by decide +kernel
theorem dM_step_16 : decode cM_step 16 = .ok (.iload_n 3, 1) := by decide +kernel
theorem dM_step_17 : decode cM_step 17 = .ok (.ifCond .ge 5, 3) := by decide +kernel
theorem dM_step_20 : decode cM_step 20 = .ok (.iconst 1, 1) := by decide +kernel
theorem dM_step_21 : decode cM_step 21 = .ok (.ireturn, 1) := by decide +kernel
theorem dM_step_22 : decode cM_step 22 = .ok (.aload_n 0, 1) := by decide +kernel
theorem dM_step_23 : decode cM_step 23 = .ok (.getfield 7, 3) := by decide +kernel
theorem dM_step_26 : decode cM_step 26 = .ok (.iload_n 3, 1) := by decide +kernel
theorem dM_step_27 : decode cM_step 27 = .ok (.iaload, 1) := by decide +kernel
theorem dM_step_28 : decode cM_step 28 = .ok (.istore 4, 2) := by decide +kernel
theorem dM_step_30 : decode cM_step 30 = .ok (.iload 4, 2) := by decide +kernel
theorem dM_step_32 : decode cM_step 32 = .ok (.bipush 15, 2) := by decide +kernel
theorem dM_step_34 : decode cM_step 34 = .ok (.iand, 1) := by decide +kernel
theorem dM_step_35 : decode cM_step 35 = .ok (.istore 5, 2) := by decide +kernel
theorem dM_step_37 : decode cM_step 37 = .ok (.iconst 4, 1) := by decide +kernel
theorem dM_step_38 : decode cM_step 38 = .ok (.iload_n 1, 1) := by decide +kernel
theorem dM_step_39 : decode cM_step 39 = .ok (.imul, 1) := by decide +kernel
theorem dM_step_40 : decode cM_step 40 = .ok (.iload 4, 2) := by decide +kernel
theorem dM_step_42 : decode cM_step 42 = .ok (.iconst 4, 1) := by decide +kernel
theorem dM_step_43 : decode cM_step 43 = .ok (.ishr, 1) := by decide +kernel
theorem dM_step_44 : decode cM_step 44 = .ok (.iconst 3, 1) := by decide +kernel
theorem dM_step_45 : decode cM_step 45 = .ok (.iand, 1) := by decide +kernel
theorem dM_step_46 : decode cM_step 46 = .ok (.iadd, 1) := by decide +kernel
theorem dM_step_47 : decode cM_step 47 = .ok (.istore 6, 2) := by decide +kernel
theorem dM_step_49 : decode cM_step 49 = .ok (.aload_n 0, 1) := by decide +kernel
theorem dM_step_50 : decode cM_step 50 = .ok (.getfield 38, 3) := by decide +kernel
theorem dM_step_53 : decode cM_step 53 = .ok (.iconst 4, 1) := by decide +kernel
theorem dM_step_54 : decode cM_step 54 = .ok (.iload_n 1, 1) := by decide +kernel
theorem dM_step_55 : decode cM_step 55 = .ok (.imul, 1) := by decide +kernel
theorem dM_step_56 : decode cM_step 56 = .ok (.iload 4, 2) := by decide +kernel
theorem dM_step_58 : decode cM_step 58 = .ok (.bipush 6, 2) := by decide +kernel
theorem dM_step_60 : decode cM_step 60 = .ok (.ishr, 1) := by decide +kernel
theorem dM_step_61 : decode cM_step 61 = .ok (.iconst 3, 1) := by decide +kernel
theorem dM_step_62 : decode cM_step 62 = .ok (.iand, 1) := by decide +kernel
theorem dM_step_63 : decode cM_step 63 = .ok (.iadd, 1) := by decide +kernel
theorem dM_step_64 : decode cM_step 64 = .ok (.iaload, 1) := by decide +kernel
theorem dM_step_65 : decode cM_step 65 = .ok (.istore 7, 2) := by decide +kernel
theorem dM_step_67 : decode cM_step 67 = .ok (.iload 4, 2) := by decide +kernel
theorem dM_step_69 : decode cM_step 69 = .ok (.bipush 8, 2) := by decide +kernel
theorem dM_step_71 : decode cM_step 71 = .ok (.ishr, 1) := by decide +kernel
theorem dM_step_72 : decode cM_step 72 = .ok (.istore 8, 2) := by decide +kernel
theorem dM_step_74 : decode cM_step 74 = .ok (.iload 5, 2) := by decide +kernel
theorem dM_step_76 : decode cM_step 76 = .ok (.bipush 10, 2) := by decide +kernel
theorem dM_step_78 : decode cM_step 78 = .ok (.if_icmp .le 5, 3) := by decide +kernel
theorem dM_step_81 : decode cM_step 81 = .ok (.iconst 5, 1) := by decide +kernel
theorem dM_step_82 : decode cM_step 82 = .ok (.ireturn, 1) := by decide +kernel
theorem dM_step_83 : decode cM_step 83 = .ok (.aload_n 0, 1) := by decide +kernel
theorem dM_step_84 : decode cM_step 84 = .ok (.getfield 41, 3) := by decide +kernel
theorem dM_step_87 : decode cM_step 87 = .ok (.iload_n 1, 1) := by decide +kernel
theorem dM_step_88 : decode cM_step 88 = .ok (.iaload, 1) := by decide +kernel
theorem dM_step_89 : decode cM_step 89 = .ok (.iconst 1, 1) := by decide +kernel
theorem dM_step_90 : decode cM_step 90 = .ok (.iadd, 1) := by decide +kernel
theorem dM_step_91 : decode cM_step 91 = .ok (.sipush 255, 3) := by decide +kernel
theorem dM_step_94 : decode cM_step 94 = .ok (.iand, 1) := by decide +kernel
theorem dM_step_95 : decode cM_step 95 = .ok (.istore 9, 2) := by decide +kernel
theorem dM_step_97 : decode cM_step 97 = .ok (.iload 5, 2) := by decide +kernel
theorem dM_step_99 : decode cM_step 99 = .ok (.iconst 3, 1) := by decide +kernel
theorem dM_step_100 : decode cM_step 100 = .ok (.if_icmp .eq 9, 3) := by decide +kernel
theorem dM_step_103 : decode cM_step 103 = .ok (.iload 5, 2) := by decide +kernel
theorem dM_step_105 : decode cM_step 105 = .ok (.iconst 4, 1) := by decide +kernel
theorem dM_step_106 : decode cM_step 106 = .ok (.if_icmp .ne 66, 3) := by decide +kernel
theorem dM_step_109 : decode cM_step 109 = .ok (.aload_n 0, 1) := by decide +kernel
theorem dM_step_110 : decode cM_step 110 = .ok (.iload_n 2, 1) := by decide +kernel
theorem dM_step_111 : decode cM_step 111 = .ok (.iload 7, 2) := by decide +kernel
theorem dM_step_113 : decode cM_step 113 = .ok (.iload 8, 2) := by decide +kernel
theorem dM_step_115 : decode cM_step 115 = .ok (.iadd, 1) := by decide +kernel
theorem dM_step_116 : decode cM_step 116 = .ok (.sipush 255, 3) := by decide +kernel
theorem dM_step_119 : decode cM_step 119 = .ok (.iand, 1) := by decide +kernel
theorem dM_step_120 : decode cM_step 120 = .ok (.invokevirtual 114, 3) := by decide +kernel
theorem dM_step_123 : decode cM_step 123 = .ok (.istore 10, 2) := by decide +kernel
theorem dM_step_125 : decode cM_step 125 = .ok (.iload 10, 2) := by decide +kernel
theorem dM_step_127 : decode cM_step 127 = .ok (.ifCond .ge 5, 3) := by decide +kernel
theorem dM_step_130 : decode cM_step 130 = .ok (.iconst 1, 1) := by decide +kernel
theorem dM_step_131 : decode cM_step 131 = .ok (.ireturn, 1) := by decide +kernel
theorem dM_step_132 : decode cM_step 132 = .ok (.iload 5, 2) := by decide +kernel
theorem dM_step_134 : decode cM_step 134 = .ok (.iconst 3, 1) := by decide +kernel
theorem dM_step_135 : decode cM_step 135 = .ok (.if_icmp .ne 20, 3) := by decide +kernel
theorem dM_step_138 : decode cM_step 138 = .ok (.aload_n 0, 1) := by decide +kernel
theorem dM_step_139 : decode cM_step 139 = .ok (.getfield 38, 3) := by decide +kernel
theorem dM_step_142 : decode cM_step 142 = .ok (.iload 6, 2) := by decide +kernel
theorem dM_step_144 : decode cM_step 144 = .ok (.aload_n 0, 1) := by decide +kernel
theorem dM_step_145 : decode cM_step 145 = .ok (.getfield 7, 3) := by decide +kernel
theorem dM_step_148 : decode cM_step 148 = .ok (.iload 10, 2) := by decide +kernel
theorem dM_step_150 : decode cM_step 150 = .ok (.iaload, 1) := by decide +kernel
theorem dM_step_151 : decode cM_step 151 = .ok (.iastore, 1) := by decide +kernel
theorem dM_step_152 : decode cM_step 152 = .ok (.goto 17, 3) := by decide +kernel
theorem dM_step_155 : decode cM_step 155 = .ok (.aload_n 0, 1) := by decide +kernel
theorem dM_step_156 : decode cM_step 156 = .ok (.getfield 7, 3) := by decide +kernel
theorem dM_step_159 : decode cM_step 159 = .ok (.iload 10, 2) := by decide +kernel
theorem dM_step_161 : decode cM_step 161 = .ok (.aload_n 0, 1) := by decide +kernel
theorem dM_step_162 : decode cM_step 162 = .ok (.getfield 38, 3) := by decide +kernel
theorem dM_step_165 : decode cM_step 165 = .ok (.iload 6, 2) := by decide +kernel
theorem dM_step_167 : decode cM_step 167 = .ok (.iaload, 1) := by decide +kernel
theorem dM_step_168 : decode cM_step 168 = .ok (.iastore, 1) := by decide +kernel
theorem dM_step_169 : decode cM_step 169 = .ok (.goto 152, 3) := by decide +kernel
theorem dM_step_172 : decode cM_step 172 = .ok (.iload 5, 2) := by decide +kernel
theorem dM_step_174 : decode cM_step 174 = .ok (.bipush 6, 2) := by decide +kernel
theorem dM_step_176 : decode cM_step 176 = .ok (.if_icmp .eq 10, 3) := by decide +kernel
theorem dM_step_179 : decode cM_step 179 = .ok (.iload 5, 2) := by decide +kernel
theorem dM_step_181 : decode cM_step 181 = .ok (.bipush 7, 2) := by decide +kernel
theorem dM_step_183 : decode cM_step 183 = .ok (.if_icmp .ne 48, 3) := by decide +kernel
theorem dM_step_186 : decode cM_step 186 = .ok (.aload_n 0, 1) := by decide +kernel
theorem dM_step_187 : decode cM_step 187 = .ok (.getfield 38, 3) := by decide +kernel
theorem dM_step_190 : decode cM_step 190 = .ok (.iload 6, 2) := by decide +kernel
theorem dM_step_192 : decode cM_step 192 = .ok (.aload_n 0, 1) := by decide +kernel
theorem dM_step_193 : decode cM_step 193 = .ok (.iload_n 2, 1) := by decide +kernel
theorem dM_step_194 : decode cM_step 194 = .ok (.aload_n 0, 1) := by decide +kernel
theorem dM_step_195 : decode cM_step 195 = .ok (.getfield 38, 3) := by decide +kernel
theorem dM_step_198 : decode cM_step 198 = .ok (.iload 6, 2) := by decide +kernel
theorem dM_step_200 : decode cM_step 200 = .ok (.iaload, 1) := by decide +kernel
theorem dM_step_201 : decode cM_step 201 = .ok (.bipush 63, 2) := by decide +kernel
theorem dM_step_203 : decode cM_step 203 = .ok (.iand, 1) := by decide +kernel
theorem dM_step_204 : decode cM_step 204 = .ok (.iload 5, 2) := by decide +kernel
theorem dM_step_206 : decode cM_step 206 = .ok (.bipush 6, 2) := by decide +kernel
theorem dM_step_208 : decode cM_step 208 = .ok (.if_icmp .ne 7, 3) := by decide +kernel
theorem dM_step_211 : decode cM_step 211 = .ok (.iconst 1, 1) := by decide +kernel
theorem dM_step_212 : decode cM_step 212 = .ok (.goto 4, 3) := by decide +kernel
theorem dM_step_215 : decode cM_step 215 = .ok (.iconst 0, 1) := by decide +kernel
theorem dM_step_216 : decode cM_step 216 = .ok (.invokevirtual 117, 3) := by decide +kernel
theorem dM_step_219 : decode cM_step 219 = .ok (.ifCond .eq 7, 3) := by decide +kernel
theorem dM_step_222 : decode cM_step 222 = .ok (.iconst 1, 1) := by decide +kernel
theorem dM_step_223 : decode cM_step 223 = .ok (.goto 4, 3) := by decide +kernel
theorem dM_step_226 : decode cM_step 226 = .ok (.iconst 0, 1) := by decide +kernel
theorem dM_step_227 : decode cM_step 227 = .ok (.iastore, 1) := by decide +kernel
theorem dM_step_228 : decode cM_step 228 = .ok (.goto 93, 3) := by decide +kernel
theorem dM_step_231 : decode cM_step 231 = .ok (.iload 5, 2) := by decide +kernel
theorem dM_step_233 : decode cM_step 233 = .ok (.iconst 5, 1) := by decide +kernel
theorem dM_step_234 : decode cM_step 234 = .ok (.if_icmp .ne 29, 3) := by decide +kernel
theorem dM_step_237 : decode cM_step 237 = .ok (.aload_n 0, 1) := by decide +kernel
theorem dM_step_238 : decode cM_step 238 = .ok (.getfield 38, 3) := by decide +kernel
theorem dM_step_241 : decode cM_step 241 = .ok (.iload 6, 2) := by decide +kernel
theorem dM_step_243 : decode cM_step 243 = .ok (.iaload, 1) := by decide +kernel
theorem dM_step_244 : decode cM_step 244 = .ok (.ifCond .eq 12, 3) := by decide +kernel
theorem dM_step_247 : decode cM_step 247 = .ok (.iload 8, 2) := by decide +kernel
theorem dM_step_249 : decode cM_step 249 = .ok (.sipush 255, 3) := by decide +kernel
theorem dM_step_252 : decode cM_step 252 = .ok (.iand, 1) := by decide +kernel
theorem dM_step_253 : decode cM_step 253 = .ok (.goto 5, 3) := by decide +kernel
theorem dM_step_256 : decode cM_step 256 = .ok (.iload 9, 2) := by decide +kernel
theorem dM_step_258 : decode cM_step 258 = .ok (.istore 9, 2) := by decide +kernel
theorem dM_step_260 : decode cM_step 260 = .ok (.goto 61, 3) := by decide +kernel
theorem dM_step_263 : decode cM_step 263 = .ok (.iload 5, 2) := by decide +kernel
theorem dM_step_265 : decode cM_step 265 = .ok (.iconst 1, 1) := by decide +kernel
theorem dM_step_266 : decode cM_step 266 = .ok (.if_icmp .ne 15, 3) := by decide +kernel
theorem dM_step_269 : decode cM_step 269 = .ok (.aload_n 0, 1) := by decide +kernel
theorem dM_step_270 : decode cM_step 270 = .ok (.getfield 38, 3) := by decide +kernel
theorem dM_step_273 : decode cM_step 273 = .ok (.iload 6, 2) := by decide +kernel
theorem dM_step_275 : decode cM_step 275 = .ok (.iload 8, 2) := by decide +kernel
theorem dM_step_277 : decode cM_step 277 = .ok (.iastore, 1) := by decide +kernel
theorem dM_step_278 : decode cM_step 278 = .ok (.goto 43, 3) := by decide +kernel
theorem dM_step_281 : decode cM_step 281 = .ok (.iload 5, 2) := by decide +kernel
theorem dM_step_283 : decode cM_step 283 = .ok (.iconst 2, 1) := by decide +kernel
theorem dM_step_284 : decode cM_step 284 = .ok (.if_icmp .ne 18, 3) := by decide +kernel
theorem dM_step_287 : decode cM_step 287 = .ok (.aload_n 0, 1) := by decide +kernel
theorem dM_step_288 : decode cM_step 288 = .ok (.getfield 38, 3) := by decide +kernel
theorem dM_step_291 : decode cM_step 291 = .ok (.iload 6, 2) := by decide +kernel
theorem dM_step_293 : decode cM_step 293 = .ok (.dup2, 1) := by decide +kernel
theorem dM_step_294 : decode cM_step 294 = .ok (.iaload, 1) := by decide +kernel
theorem dM_step_295 : decode cM_step 295 = .ok (.iload 7, 2) := by decide +kernel
theorem dM_step_297 : decode cM_step 297 = .ok (.iadd, 1) := by decide +kernel
theorem dM_step_298 : decode cM_step 298 = .ok (.iastore, 1) := by decide +kernel
theorem dM_step_299 : decode cM_step 299 = .ok (.goto 22, 3) := by decide +kernel
theorem dM_step_302 : decode cM_step 302 = .ok (.iload 5, 2) := by decide +kernel
theorem dM_step_304 : decode cM_step 304 = .ok (.bipush 10, 2) := by decide +kernel
theorem dM_step_306 : decode cM_step 306 = .ok (.if_icmp .ne 15, 3) := by decide +kernel
theorem dM_step_309 : decode cM_step 309 = .ok (.aload_n 0, 1) := by decide +kernel
theorem dM_step_310 : decode cM_step 310 = .ok (.getfield 38, 3) := by decide +kernel
theorem dM_step_313 : decode cM_step 313 = .ok (.iload 6, 2) := by decide +kernel
theorem dM_step_315 : decode cM_step 315 = .ok (.dup2, 1) := by decide +kernel
theorem dM_step_316 : decode cM_step 316 = .ok (.iaload, 1) := by decide +kernel
theorem dM_step_317 : decode cM_step 317 = .ok (.iload 7, 2) := by decide +kernel
theorem dM_step_319 : decode cM_step 319 = .ok (.ixor, 1) := by decide +kernel
theorem dM_step_320 : decode cM_step 320 = .ok (.iastore, 1) := by decide +kernel
theorem dM_step_321 : decode cM_step 321 = .ok (.aload_n 0, 1) := by decide +kernel
theorem dM_step_322 : decode cM_step 322 = .ok (.getfield 41, 3) := by decide +kernel
theorem dM_step_325 : decode cM_step 325 = .ok (.iload_n 1, 1) := by decide +kernel
theorem dM_step_326 : decode cM_step 326 = .ok (.iload 9, 2) := by decide +kernel
theorem dM_step_328 : decode cM_step 328 = .ok (.iastore, 1) := by decide +kernel
theorem dM_step_329 : decode cM_step 329 = .ok (.aload_n 0, 1) := by decide +kernel
theorem dM_step_330 : decode cM_step 330 = .ok (.iload 5, 2) := by decide +kernel
theorem dM_step_332 : decode cM_step 332 = .ok (.bipush 8, 2) := by decide +kernel
theorem dM_step_334 : decode cM_step 334 = .ok (.if_icmp .ne 13, 3) := by decide +kernel
theorem dM_step_337 : decode cM_step 337 = .ok (.aload_n 0, 1) := by decide +kernel
theorem dM_step_338 : decode cM_step 338 = .ok (.getfield 38, 3) := by decide +kernel
theorem dM_step_341 : decode cM_step 341 = .ok (.iload 6, 2) := by decide +kernel
theorem dM_step_343 : decode cM_step 343 = .ok (.iaload, 1) := by decide +kernel
theorem dM_step_344 : decode cM_step 344 = .ok (.goto 4, 3) := by decide +kernel
theorem dM_step_347 : decode cM_step 347 = .ok (.iconst 0, 1) := by decide +kernel
theorem dM_step_348 : decode cM_step 348 = .ok (.putfield 108, 3) := by decide +kernel
theorem dM_step_351 : decode cM_step 351 = .ok (.aload_n 0, 1) := by decide +kernel
theorem dM_step_352 : decode cM_step 352 = .ok (.getfield 44, 3) := by decide +kernel
theorem dM_step_355 : decode cM_step 355 = .ok (.iload_n 1, 1) := by decide +kernel
theorem dM_step_356 : decode cM_step 356 = .ok (.iload 5, 2) := by decide +kernel
theorem dM_step_358 : decode cM_step 358 = .ok (.bipush 9, 2) := by decide +kernel
theorem dM_step_360 : decode cM_step 360 = .ok (.if_icmp .ne 14, 3) := by decide +kernel
theorem dM_step_363 : decode cM_step 363 = .ok (.iconst 1, 1) := by decide +kernel
theorem dM_step_364 : decode cM_step 364 = .ok (.iload 4, 2) := by decide +kernel
theorem dM_step_366 : decode cM_step 366 = .ok (.iconst 4, 1) := by decide +kernel
theorem dM_step_367 : decode cM_step 367 = .ok (.ishr, 1) := by decide +kernel
theorem dM_step_368 : decode cM_step 368 = .ok (.iconst 3, 1) := by decide +kernel
theorem dM_step_369 : decode cM_step 369 = .ok (.iand, 1) := by decide +kernel
theorem dM_step_370 : decode cM_step 370 = .ok (.iadd, 1) := by decide +kernel
theorem dM_step_371 : decode cM_step 371 = .ok (.goto 4, 3) := by decide +kernel
theorem dM_step_374 : decode cM_step 374 = .ok (.iconst 0, 1) := by decide +kernel
theorem dM_step_375 : decode cM_step 375 = .ok (.iastore, 1) := by decide +kernel
theorem dM_step_376 : decode cM_step 376 = .ok (.iload 5, 2) := by decide +kernel
theorem dM_step_378 : decode cM_step 378 = .ok (.bipush 8, 2) := by decide +kernel
theorem dM_step_380 : decode cM_step 380 = .ok (.if_icmp .ne 7, 3) := by decide +kernel
theorem dM_step_383 : decode cM_step 383 = .ok (.iconst 2, 1) := by decide +kernel
theorem dM_step_384 : decode cM_step 384 = .ok (.goto 24, 3) := by decide +kernel
theorem dM_step_387 : decode cM_step 387 = .ok (.iload 5, 2) := by decide +kernel
theorem dM_step_389 : decode cM_step 389 = .ok (.bipush 9, 2) := by decide +kernel
theorem dM_step_391 : decode cM_step 391 = .ok (.if_icmp .ne 7, 3) := by decide +kernel
theorem dM_step_394 : decode cM_step 394 = .ok (.iconst 3, 1) := by decide +kernel
theorem dM_step_395 : decode cM_step 395 = .ok (.goto 13, 3) := by decide +kernel
theorem dM_step_398 : decode cM_step 398 = .ok (.iload 5, 2) := by decide +kernel
theorem dM_step_400 : decode cM_step 400 = .ok (.ifCond .ne 7, 3) := by decide +kernel
theorem dM_step_403 : decode cM_step 403 = .ok (.iconst 4, 1) := by decide +kernel
theorem dM_step_404 : decode cM_step 404 = .ok (.goto 4, 3) := by decide +kernel
theorem dM_step_407 : decode cM_step 407 = .ok (.iconst 0, 1) := by decide +kernel
theorem dM_step_408 : decode cM_step 408 = .ok (.ireturn, 1) := by decide +kernel
theorem dM_word_0 : decode cM_word 0 = .ok (.aload_n 0, 1) := by decide +kernel
theorem dM_word_1 : decode cM_word 1 = .ok (.iload_n 1, 1) := by decide +kernel
theorem dM_word_2 : decode cM_word 2 = .ok (.iload_n 2, 1) := by decide +kernel
theorem dM_word_3 : decode cM_word 3 = .ok (.iconst 4, 1) := by decide +kernel
theorem dM_word_4 : decode cM_word 4 = .ok (.idiv, 1) := by decide +kernel
theorem dM_word_5 : decode cM_word 5 = .ok (.invokevirtual 101, 3) := by decide +kernel
theorem dM_word_8 : decode cM_word 8 = .ok (.istore_n 3, 1) := by decide +kernel
theorem dM_word_9 : decode cM_word 9 = .ok (.iload_n 3, 1) := by decide +kernel
theorem dM_word_10 : decode cM_word 10 = .ok (.ifCond .ge 10, 3) := by decide +kernel
theorem dM_word_13 : decode cM_word 13 = .ok (.aload_n 0, 1) := by decide +kernel
theorem dM_word_14 : decode cM_word 14 = .ok (.iload_n 2, 1) := by decide +kernel
theorem dM_word_15 : decode cM_word 15 = .ok (.putfield 108, 3) := by decide +kernel
theorem dM_word_18 : decode cM_word 18 = .ok (.iconst (-1), 1) := by decide +kernel
theorem dM_word_19 : decode cM_word 19 = .ok (.ireturn, 1) := by decide +kernel
theorem dM_word_20 : decode cM_word 20 = .ok (.iconst 4, 1) := by decide +kernel
theorem dM_word_21 : decode cM_word 21 = .ok (.iload_n 3, 1) := by decide +kernel
theorem dM_word_22 : decode cM_word 22 = .ok (.imul, 1) := by decide +kernel
theorem dM_word_23 : decode cM_word 23 = .ok (.iload_n 2, 1) := by decide +kernel
theorem dM_word_24 : decode cM_word 24 = .ok (.iconst 4, 1) := by decide +kernel
theorem dM_word_25 : decode cM_word 25 = .ok (.irem, 1) := by decide +kernel
end
section
theorem dM_word_26 : decode cM_word 26 = .ok (.iadd, 1) := by decide +kernel
theorem dM_word_27 : decode cM_word 27 = .ok (.ireturn, 1) := by decide +kernel
theorem dM_turn_0 : decode cM_turn 0 = .ok (.aload_n 0, 1) := by decide +kernel
theorem dM_turn_1 : decode cM_turn 1 = .ok (.iload_n 1, 1) := by decide +kernel
theorem dM_turn_2 : decode cM_turn 2 = .ok (.iload_n 2, 1) := by decide +kernel
theorem dM_turn_3 : decode cM_turn 3 = .ok (.invokevirtual 101, 3) := by decide +kernel
theorem dM_turn_6 : decode cM_turn 6 = .ok (.istore 4, 2) := by decide +kernel
theorem dM_turn_8 : decode cM_turn 8 = .ok (.iload 4, 2) := by decide +kernel
theorem dM_turn_10 : decode cM_turn 10 = .ok (.ifCond .lt 25, 3) := by decide +kernel
theorem dM_turn_13 : decode cM_turn 13 = .ok (.aload_n 0, 1) := by decide +kernel
theorem dM_turn_14 : decode cM_turn 14 = .ok (.getfield 13, 3) := by decide +kernel
theorem dM_turn_17 : decode cM_turn 17 = .ok (.iload 4, 2) := by decide +kernel
theorem dM_turn_19 : decode cM_turn 19 = .ok (.iaload, 1) := by decide +kernel
theorem dM_turn_20 : decode cM_turn 20 = .ok (.iload_n 1, 1) := by decide +kernel
theorem dM_turn_21 : decode cM_turn 21 = .ok (.if_icmp .ne 14, 3) := by decide +kernel
theorem dM_turn_24 : decode cM_turn 24 = .ok (.aload_n 0, 1) := by decide +kernel
theorem dM_turn_25 : decode cM_turn 25 = .ok (.getfield 25, 3) := by decide +kernel
theorem dM_turn_28 : decode cM_turn 28 = .ok (.iload 4, 2) := by decide +kernel
theorem dM_turn_30 : decode cM_turn 30 = .ok (.baload, 1) := by decide +kernel
theorem dM_turn_31 : decode cM_turn 31 = .ok (.iload_n 3, 1) := by decide +kernel
theorem dM_turn_32 : decode cM_turn 32 = .ok (.if_icmp .ne 5, 3) := by decide +kernel
theorem dM_turn_35 : decode cM_turn 35 = .ok (.iconst 0, 1) := by decide +kernel
theorem dM_turn_36 : decode cM_turn 36 = .ok (.ireturn, 1) := by decide +kernel
theorem dM_turn_37 : decode cM_turn 37 = .ok (.aload_n 0, 1) := by decide +kernel
theorem dM_turn_38 : decode cM_turn 38 = .ok (.getfield 25, 3) := by decide +kernel
theorem dM_turn_41 : decode cM_turn 41 = .ok (.iload 4, 2) := by decide +kernel
theorem dM_turn_43 : decode cM_turn 43 = .ok (.iload_n 3, 1) := by decide +kernel
theorem dM_turn_44 : decode cM_turn 44 = .ok (.bastore, 1) := by decide +kernel
theorem dM_turn_45 : decode cM_turn 45 = .ok (.aload_n 0, 1) := by decide +kernel
theorem dM_turn_46 : decode cM_turn 46 = .ok (.iload 4, 2) := by decide +kernel
theorem dM_turn_48 : decode cM_turn 48 = .ok (.invokevirtual 85, 3) := by decide +kernel
theorem dM_turn_51 : decode cM_turn 51 = .ok (.iconst 1, 1) := by decide +kernel
theorem dM_turn_52 : decode cM_turn 52 = .ok (.ireturn, 1) := by decide +kernel
theorem dM_info_0 : decode cM_info 0 = .ok (.aload_n 0, 1) := by decide +kernel
theorem dM_info_1 : decode cM_info 1 = .ok (.getfield 108, 3) := by decide +kernel
theorem dM_info_4 : decode cM_info 4 = .ok (.ireturn, 1) := by decide +kernel
theorem dM_set_0 : decode cM_set 0 = .ok (.iload_n 1, 1) := by decide +kernel
theorem dM_set_1 : decode cM_set 1 = .ok (.ifCond .lt 15, 3) := by decide +kernel
theorem dM_set_4 : decode cM_set 4 = .ok (.iload_n 1, 1) := by decide +kernel
theorem dM_set_5 : decode cM_set 5 = .ok (.iconst 3, 1) := by decide +kernel
theorem dM_set_6 : decode cM_set 6 = .ok (.if_icmp .gt 10, 3) := by decide +kernel
theorem dM_set_9 : decode cM_set 9 = .ok (.aload_n 0, 1) := by decide +kernel
theorem dM_set_10 : decode cM_set 10 = .ok (.getfield 47, 3) := by decide +kernel
theorem dM_set_13 : decode cM_set 13 = .ok (.ifCond .lt 5, 3) := by decide +kernel
theorem dM_set_16 : decode cM_set 16 = .ok (.iconst 0, 1) := by decide +kernel
theorem dM_set_17 : decode cM_set 17 = .ok (.ireturn, 1) := by decide +kernel
theorem dM_set_18 : decode cM_set 18 = .ok (.aload_n 0, 1) := by decide +kernel
theorem dM_set_19 : decode cM_set 19 = .ok (.getfield 51, 3) := by decide +kernel
theorem dM_set_22 : decode cM_set 22 = .ok (.iload_n 1, 1) := by decide +kernel
theorem dM_set_23 : decode cM_set 23 = .ok (.iload_n 2, 1) := by decide +kernel
theorem dM_set_24 : decode cM_set 24 = .ok (.iastore, 1) := by decide +kernel
theorem dM_set_25 : decode cM_set 25 = .ok (.iconst 1, 1) := by decide +kernel
theorem dM_set_26 : decode cM_set 26 = .ok (.ireturn, 1) := by decide +kernel
theorem dM_register_0 : decode cM_register 0 = .ok (.iload_n 1, 1) := by decide +kernel
theorem dM_register_1 : decode cM_register 1 = .ok (.ifCond .lt 15, 3) := by decide +kernel
theorem dM_register_4 : decode cM_register 4 = .ok (.iload_n 1, 1) := by decide +kernel
theorem dM_register_5 : decode cM_register 5 = .ok (.iconst 3, 1) := by decide +kernel
theorem dM_register_6 : decode cM_register 6 = .ok (.if_icmp .gt 10, 3) := by decide +kernel
theorem dM_register_9 : decode cM_register 9 = .ok (.aload_n 0, 1) := by decide +kernel
theorem dM_register_10 : decode cM_register 10 = .ok (.getfield 47, 3) := by decide +kernel
theorem dM_register_13 : decode cM_register 13 = .ok (.ifCond .lt 7, 3) := by decide +kernel
theorem dM_register_16 : decode cM_register 16 = .ok (.iconst 0, 1) := by decide +kernel
theorem dM_register_17 : decode cM_register 17 = .ok (.goto 9, 3) := by decide +kernel
theorem dM_register_20 : decode cM_register 20 = .ok (.aload_n 0, 1) := by decide +kernel
theorem dM_register_21 : decode cM_register 21 = .ok (.getfield 51, 3) := by decide +kernel
theorem dM_register_24 : decode cM_register 24 = .ok (.iload_n 1, 1) := by decide +kernel
theorem dM_register_25 : decode cM_register 25 = .ok (.iaload, 1) := by decide +kernel
theorem dM_register_26 : decode cM_register 26 = .ok (.ireturn, 1) := by decide +kernel
theorem dM_owner_0 : decode cM_owner 0 = .ok (.iload_n 1, 1) := by decide +kernel
theorem dM_owner_1 : decode cM_owner 1 = .ok (.invokestatic 54, 3) := by decide +kernel
theorem dM_owner_4 : decode cM_owner 4 = .ok (.ifCond .eq 12, 3) := by decide +kernel
theorem dM_owner_7 : decode cM_owner 7 = .ok (.aload_n 0, 1) := by decide +kernel
theorem dM_owner_8 : decode cM_owner 8 = .ok (.getfield 13, 3) := by decide +kernel
theorem dM_owner_11 : decode cM_owner 11 = .ok (.iload_n 1, 1) := by decide +kernel
theorem dM_owner_12 : decode cM_owner 12 = .ok (.iaload, 1) := by decide +kernel
theorem dM_owner_13 : decode cM_owner 13 = .ok (.goto 4, 3) := by decide +kernel
theorem dM_owner_16 : decode cM_owner 16 = .ok (.iconst (-1), 1) := by decide +kernel
theorem dM_owner_17 : decode cM_owner 17 = .ok (.ireturn, 1) := by decide +kernel
theorem dM_state_0 : decode cM_state 0 = .ok (.iload_n 1, 1) := by decide +kernel
theorem dM_state_1 : decode cM_state 1 = .ok (.invokestatic 54, 3) := by decide +kernel
theorem dM_state_4 : decode cM_state 4 = .ok (.ifCond .ne 5, 3) := by decide +kernel
theorem dM_state_7 : decode cM_state 7 = .ok (.iconst (-1), 1) := by decide +kernel
theorem dM_state_8 : decode cM_state 8 = .ok (.ireturn, 1) := by decide +kernel
theorem dM_state_9 : decode cM_state 9 = .ok (.aload_n 0, 1) := by decide +kernel
theorem dM_state_10 : decode cM_state 10 = .ok (.getfield 19, 3) := by decide +kernel
theorem dM_state_13 : decode cM_state 13 = .ok (.iload_n 1, 1) := by decide +kernel
theorem dM_state_14 : decode cM_state 14 = .ok (.iaload, 1) := by decide +kernel
theorem dM_state_15 : decode cM_state 15 = .ok (.ifCond .gt 12, 3) := by decide +kernel
theorem dM_state_18 : decode cM_state 18 = .ok (.aload_n 0, 1) := by decide +kernel
theorem dM_state_19 : decode cM_state 19 = .ok (.getfield 25, 3) := by decide +kernel
theorem dM_state_22 : decode cM_state 22 = .ok (.iload_n 1, 1) := by decide +kernel
theorem dM_state_23 : decode cM_state 23 = .ok (.baload, 1) := by decide +kernel
theorem dM_state_24 : decode cM_state 24 = .ok (.ifCond .eq 7, 3) := by decide +kernel
theorem dM_state_27 : decode cM_state 27 = .ok (.iconst 1, 1) := by decide +kernel
theorem dM_state_28 : decode cM_state 28 = .ok (.goto 4, 3) := by decide +kernel
theorem dM_state_31 : decode cM_state 31 = .ok (.iconst 0, 1) := by decide +kernel
theorem dM_state_32 : decode cM_state 32 = .ok (.aload_n 0, 1) := by decide +kernel
theorem dM_state_33 : decode cM_state 33 = .ok (.getfield 29, 3) := by decide +kernel
theorem dM_state_36 : decode cM_state 36 = .ok (.iload_n 1, 1) := by decide +kernel
theorem dM_state_37 : decode cM_state 37 = .ok (.baload, 1) := by decide +kernel
theorem dM_state_38 : decode cM_state 38 = .ok (.ifCond .eq 7, 3) := by decide +kernel
theorem dM_state_41 : decode cM_state 41 = .ok (.iconst 2, 1) := by decide +kernel
theorem dM_state_42 : decode cM_state 42 = .ok (.goto 4, 3) := by decide +kernel
theorem dM_state_45 : decode cM_state 45 = .ok (.iconst 0, 1) := by decide +kernel
theorem dM_state_46 : decode cM_state 46 = .ok (.iadd, 1) := by decide +kernel
theorem dM_state_47 : decode cM_state 47 = .ok (.ireturn, 1) := by decide +kernel
theorem dM_pool_0 : decode cM_pool 0 = .ok (.aload_n 0, 1) := by decide +kernel
theorem dM_pool_1 : decode cM_pool 1 = .ok (.iload_n 1, 1) := by decide +kernel
theorem dM_pool_2 : decode cM_pool 2 = .ok (.invokevirtual 95, 3) := by decide +kernel
theorem dM_pool_5 : decode cM_pool 5 = .ok (.ifCond .eq 11, 3) := by decide +kernel
theorem dM_pool_8 : decode cM_pool 8 = .ok (.aload_n 0, 1) := by decide +kernel
theorem dM_pool_9 : decode cM_pool 9 = .ok (.iload_n 1, 1) := by decide +kernel
theorem dM_pool_10 : decode cM_pool 10 = .ok (.invokevirtual 98, 3) := by decide +kernel
theorem dM_pool_13 : decode cM_pool 13 = .ok (.goto 4, 3) := by decide +kernel
theorem dM_pool_16 : decode cM_pool 16 = .ok (.iconst (-1), 1) := by decide +kernel
theorem dM_pool_17 : decode cM_pool 17 = .ok (.ireturn, 1) := by decide +kernel
theorem dM_tables_0 : decode cM_tables 0 = .ok (.aload_n 0, 1) := by decide +kernel
theorem dM_tables_1 : decode cM_tables 1 = .ok (.iload_n 1, 1) := by decide +kernel
theorem dM_tables_2 : decode cM_tables 2 = .ok (.invokevirtual 95, 3) := by decide +kernel
theorem dM_tables_5 : decode cM_tables 5 = .ok (.ifCond .eq 12, 3) := by decide +kernel
theorem dM_tables_8 : decode cM_tables 8 = .ok (.aload_n 0, 1) := by decide +kernel
theorem dM_tables_9 : decode cM_tables 9 = .ok (.iload_n 1, 1) := by decide +kernel
theorem dM_tables_10 : decode cM_tables 10 = .ok (.iconst (-1), 1) := by decide +kernel
theorem dM_tables_11 : decode cM_tables 11 = .ok (.invokevirtual 68, 3) := by decide +kernel
theorem dM_tables_14 : decode cM_tables 14 = .ok (.goto 4, 3) := by decide +kernel
theorem dM_tables_17 : decode cM_tables 17 = .ok (.iconst (-1), 1) := by decide +kernel
theorem dM_tables_18 : decode cM_tables 18 = .ok (.ireturn, 1) := by decide +kernel
theorem dL_law_0 : decode code 0 = .ok (.new 7, 3) := by decide +kernel
theorem dL_law_3 : decode code 3 = .ok (.dup, 1) := by decide +kernel
theorem dL_law_4 : decode code 4 = .ok (.invokespecial 9, 3) := by decide +kernel
theorem dL_law_7 : decode code 7 = .ok (.astore_n 1, 1) := by decide +kernel
theorem dL_law_8 : decode code 8 = .ok (.new 10, 3) := by decide +kernel
theorem dL_law_11 : decode code 11 = .ok (.dup, 1) := by decide +kernel
theorem dL_law_12 : decode code 12 = .ok (.invokespecial 12, 3) := by decide +kernel
theorem dL_law_15 : decode code 15 = .ok (.astore_n 2, 1) := by decide +kernel
theorem dL_law_16 : decode code 16 = .ok (.iconst 0, 1) := by decide +kernel
theorem dL_law_17 : decode code 17 = .ok (.istore_n 3, 1) := by decide +kernel
theorem dL_law_18 : decode code 18 = .ok (.iload_n 3, 1) := by decide +kernel
theorem dL_law_19 : decode code 19 = .ok (.aload_n 0, 1) := by decide +kernel
theorem dL_law_20 : decode code 20 = .ok (.arraylength, 1) := by decide +kernel
theorem dL_law_21 : decode code 21 = .ok (.iconst 4, 1) := by decide +kernel
theorem dL_law_22 : decode code 22 = .ok (.isub, 1) := by decide +kernel
theorem dL_law_23 : decode code 23 = .ok (.if_icmp .gt 652, 3) := by decide +kernel
theorem dL_law_26 : decode code 26 = .ok (.aload_n 0, 1) := by decide +kernel
theorem dL_law_27 : decode code 27 = .ok (.iload_n 3, 1) := by decide +kernel
theorem dL_law_28 : decode code 28 = .ok (.iaload, 1) := by decide +kernel
theorem dL_law_29 : decode code 29 = .ok (.bipush 31, 2) := by decide +kernel
theorem dL_law_31 : decode code 31 = .ok (.iand, 1) := by decide +kernel
theorem dL_law_32 : decode code 32 = .ok (.tableswitch 637 0 19 #[96, 130, 173, 186, 209, 242, 285, 328, 351, 374, 397, 430, 443, 476, 489, 522, 545, 568, 591, 614], 96) := by decide +kernel
theorem dL_law_128 : decode code 128 = .ok (.aload_n 1, 1) := by decide +kernel
theorem dL_law_129 : decode code 129 = .ok (.aload_n 0, 1) := by decide +kernel
theorem dL_law_130 : decode code 130 = .ok (.iload_n 3, 1) := by decide +kernel
theorem dL_law_131 : decode code 131 = .ok (.iconst 1, 1) := by decide +kernel
theorem dL_law_132 : decode code 132 = .ok (.iadd, 1) := by decide +kernel
theorem dL_law_133 : decode code 133 = .ok (.iaload, 1) := by decide +kernel
theorem dL_law_134 : decode code 134 = .ok (.aload_n 0, 1) := by decide +kernel
theorem dL_law_135 : decode code 135 = .ok (.iload_n 3, 1) := by decide +kernel
theorem dL_law_136 : decode code 136 = .ok (.iconst 2, 1) := by decide +kernel
theorem dL_law_137 : decode code 137 = .ok (.iadd, 1) := by decide +kernel
theorem dL_law_138 : decode code 138 = .ok (.iaload, 1) := by decide +kernel
theorem dL_law_139 : decode code 139 = .ok (.invokevirtual 13, 3) := by decide +kernel
theorem dL_law_142 : decode code 142 = .ok (.aload_n 2, 1) := by decide +kernel
theorem dL_law_143 : decode code 143 = .ok (.aload_n 0, 1) := by decide +kernel
theorem dL_law_144 : decode code 144 = .ok (.iload_n 3, 1) := by decide +kernel
theorem dL_law_145 : decode code 145 = .ok (.iconst 1, 1) := by decide +kernel
theorem dL_law_146 : decode code 146 = .ok (.iadd, 1) := by decide +kernel
theorem dL_law_147 : decode code 147 = .ok (.iaload, 1) := by decide +kernel
theorem dL_law_148 : decode code 148 = .ok (.aload_n 0, 1) := by decide +kernel
theorem dL_law_149 : decode code 149 = .ok (.iload_n 3, 1) := by decide +kernel
theorem dL_law_150 : decode code 150 = .ok (.iconst 2, 1) := by decide +kernel
theorem dL_law_151 : decode code 151 = .ok (.iadd, 1) := by decide +kernel
theorem dL_law_152 : decode code 152 = .ok (.iaload, 1) := by decide +kernel
theorem dL_law_153 : decode code 153 = .ok (.invokevirtual 17, 3) := by decide +kernel
theorem dL_law_156 : decode code 156 = .ok (.lcmp, 1) := by decide +kernel
theorem dL_law_157 : decode code 157 = .ok (.ifCond .eq 512, 3) := by decide +kernel
theorem dL_law_160 : decode code 160 = .ok (.iconst 0, 1) := by decide +kernel
theorem dL_law_161 : decode code 161 = .ok (.ireturn, 1) := by decide +kernel
theorem dL_law_162 : decode code 162 = .ok (.aload_n 1, 1) := by decide +kernel
theorem dL_law_163 : decode code 163 = .ok (.aload_n 0, 1) := by decide +kernel
theorem dL_law_164 : decode code 164 = .ok (.iload_n 3, 1) := by decide +kernel
theorem dL_law_165 : decode code 165 = .ok (.iconst 1, 1) := by decide +kernel
theorem dL_law_166 : decode code 166 = .ok (.iadd, 1) := by decide +kernel
theorem dL_law_167 : decode code 167 = .ok (.iaload, 1) := by decide +kernel
theorem dL_law_168 : decode code 168 = .ok (.aload_n 0, 1) := by decide +kernel
theorem dL_law_169 : decode code 169 = .ok (.iload_n 3, 1) := by decide +kernel
theorem dL_law_170 : decode code 170 = .ok (.iconst 2, 1) := by decide +kernel
theorem dL_law_171 : decode code 171 = .ok (.iadd, 1) := by decide +kernel
theorem dL_law_172 : decode code 172 = .ok (.iaload, 1) := by decide +kernel
theorem dL_law_173 : decode code 173 = .ok (.aload_n 0, 1) := by decide +kernel
theorem dL_law_174 : decode code 174 = .ok (.iload_n 3, 1) := by decide +kernel
theorem dL_law_175 : decode code 175 = .ok (.iconst 3, 1) := by decide +kernel
theorem dL_law_176 : decode code 176 = .ok (.iadd, 1) := by decide +kernel
theorem dL_law_177 : decode code 177 = .ok (.iaload, 1) := by decide +kernel
theorem dL_law_178 : decode code 178 = .ok (.invokevirtual 18, 3) := by decide +kernel
theorem dL_law_181 : decode code 181 = .ok (.aload_n 2, 1) := by decide +kernel
theorem dL_law_182 : decode code 182 = .ok (.aload_n 0, 1) := by decide +kernel
theorem dL_law_183 : decode code 183 = .ok (.iload_n 3, 1) := by decide +kernel
theorem dL_law_184 : decode code 184 = .ok (.iconst 1, 1) := by decide +kernel
theorem dL_law_185 : decode code 185 = .ok (.iadd, 1) := by decide +kernel
theorem dL_law_186 : decode code 186 = .ok (.iaload, 1) := by decide +kernel
theorem dL_law_187 : decode code 187 = .ok (.aload_n 0, 1) := by decide +kernel
theorem dL_law_188 : decode code 188 = .ok (.iload_n 3, 1) := by decide +kernel
theorem dL_law_189 : decode code 189 = .ok (.iconst 2, 1) := by decide +kernel
theorem dL_law_190 : decode code 190 = .ok (.iadd, 1) := by decide +kernel
theorem dL_law_191 : decode code 191 = .ok (.iaload, 1) := by decide +kernel
theorem dL_law_192 : decode code 192 = .ok (.aload_n 0, 1) := by decide +kernel
theorem dL_law_193 : decode code 193 = .ok (.iload_n 3, 1) := by decide +kernel
theorem dL_law_194 : decode code 194 = .ok (.iconst 3, 1) := by decide +kernel
theorem dL_law_195 : decode code 195 = .ok (.iadd, 1) := by decide +kernel
theorem dL_law_196 : decode code 196 = .ok (.iaload, 1) := by decide +kernel
theorem dL_law_197 : decode code 197 = .ok (.invokevirtual 22, 3) := by decide +kernel
theorem dL_law_200 : decode code 200 = .ok (.if_icmp .eq 469, 3) := by decide +kernel
theorem dL_law_203 : decode code 203 = .ok (.iconst 0, 1) := by decide +kernel
theorem dL_law_204 : decode code 204 = .ok (.ireturn, 1) := by decide +kernel
theorem dL_law_205 : decode code 205 = .ok (.aload_n 1, 1) := by decide +kernel
theorem dL_law_206 : decode code 206 = .ok (.invokevirtual 23, 3) := by decide +kernel
theorem dL_law_209 : decode code 209 = .ok (.aload_n 2, 1) := by decide +kernel
theorem dL_law_210 : decode code 210 = .ok (.invokevirtual 27, 3) := by decide +kernel
theorem dL_law_213 : decode code 213 = .ok (.if_icmp .eq 456, 3) := by decide +kernel
theorem dL_law_216 : decode code 216 = .ok (.iconst 0, 1) := by decide +kernel
theorem dL_law_217 : decode code 217 = .ok (.ireturn, 1) := by decide +kernel
theorem dL_law_218 : decode code 218 = .ok (.aload_n 1, 1) := by decide +kernel
theorem dL_law_219 : decode code 219 = .ok (.aload_n 0, 1) := by decide +kernel
theorem dL_law_220 : decode code 220 = .ok (.iload_n 3, 1) := by decide +kernel
theorem dL_law_221 : decode code 221 = .ok (.iconst 1, 1) := by decide +kernel
theorem dL_law_222 : decode code 222 = .ok (.iadd, 1) := by decide +kernel
theorem dL_law_223 : decode code 223 = .ok (.iaload, 1) := by decide +kernel
theorem dL_law_224 : decode code 224 = .ok (.invokevirtual 28, 3) := by decide +kernel
theorem dL_law_227 : decode code 227 = .ok (.aload_n 2, 1) := by decide +kernel
theorem dL_law_228 : decode code 228 = .ok (.aload_n 0, 1) := by decide +kernel
theorem dL_law_229 : decode code 229 = .ok (.iload_n 3, 1) := by decide +kernel
theorem dL_law_230 : decode code 230 = .ok (.iconst 1, 1) := by decide +kernel
theorem dL_law_231 : decode code 231 = .ok (.iadd, 1) := by decide +kernel
theorem dL_law_232 : decode code 232 = .ok (.iaload, 1) := by decide +kernel
theorem dL_law_233 : decode code 233 = .ok (.invokevirtual 32, 3) := by decide +kernel
theorem dL_law_236 : decode code 236 = .ok (.if_icmp .eq 433, 3) := by decide +kernel
theorem dL_law_239 : decode code 239 = .ok (.iconst 0, 1) := by decide +kernel
theorem dL_law_240 : decode code 240 = .ok (.ireturn, 1) := by decide +kernel
theorem dL_law_241 : decode code 241 = .ok (.aload_n 1, 1) := by decide +kernel
theorem dL_law_242 : decode code 242 = .ok (.aload_n 0, 1) := by decide +kernel
theorem dL_law_243 : decode code 243 = .ok (.iload_n 3, 1) := by decide +kernel
theorem dL_law_244 : decode code 244 = .ok (.iconst 1, 1) := by decide +kernel
theorem dL_law_245 : decode code 245 = .ok (.iadd, 1) := by decide +kernel
theorem dL_law_246 : decode code 246 = .ok (.iaload, 1) := by decide +kernel
theorem dL_law_247 : decode code 247 = .ok (.aload_n 0, 1) := by decide +kernel
theorem dL_law_248 : decode code 248 = .ok (.iload_n 3, 1) := by decide +kernel
theorem dL_law_249 : decode code 249 = .ok (.iconst 2, 1) := by decide +kernel
theorem dL_law_250 : decode code 250 = .ok (.iadd, 1) := by decide +kernel
theorem dL_law_251 : decode code 251 = .ok (.iaload, 1) := by decide +kernel
theorem dL_law_252 : decode code 252 = .ok (.invokevirtual 33, 3) := by decide +kernel
theorem dL_law_255 : decode code 255 = .ok (.aload_n 2, 1) := by decide +kernel
theorem dL_law_256 : decode code 256 = .ok (.aload_n 0, 1) := by decide +kernel
theorem dL_law_257 : decode code 257 = .ok (.iload_n 3, 1) := by decide +kernel
theorem dL_law_258 : decode code 258 = .ok (.iconst 1, 1) := by decide +kernel
theorem dL_law_259 : decode code 259 = .ok (.iadd, 1) := by decide +kernel
theorem dL_law_260 : decode code 260 = .ok (.iaload, 1) := by decide +kernel
theorem dL_law_261 : decode code 261 = .ok (.aload_n 0, 1) := by decide +kernel
theorem dL_law_262 : decode code 262 = .ok (.iload_n 3, 1) := by decide +kernel
theorem dL_law_263 : decode code 263 = .ok (.iconst 2, 1) := by decide +kernel
theorem dL_law_264 : decode code 264 = .ok (.iadd, 1) := by decide +kernel
theorem dL_law_265 : decode code 265 = .ok (.iaload, 1) := by decide +kernel
theorem dL_law_266 : decode code 266 = .ok (.invokevirtual 37, 3) := by decide +kernel
theorem dL_law_269 : decode code 269 = .ok (.if_icmp .eq 400, 3) := by decide +kernel
theorem dL_law_272 : decode code 272 = .ok (.iconst 0, 1) := by decide +kernel
theorem dL_law_273 : decode code 273 = .ok (.ireturn, 1) := by decide +kernel
theorem dL_law_274 : decode code 274 = .ok (.aload_n 1, 1) := by decide +kernel
theorem dL_law_275 : decode code 275 = .ok (.aload_n 0, 1) := by decide +kernel
theorem dL_law_276 : decode code 276 = .ok (.iload_n 3, 1) := by decide +kernel
theorem dL_law_277 : decode code 277 = .ok (.iconst 1, 1) := by decide +kernel
theorem dL_law_278 : decode code 278 = .ok (.iadd, 1) := by decide +kernel
theorem dL_law_279 : decode code 279 = .ok (.iaload, 1) := by decide +kernel
theorem dL_law_280 : decode code 280 = .ok (.aload_n 0, 1) := by decide +kernel
theorem dL_law_281 : decode code 281 = .ok (.iload_n 3, 1) := by decide +kernel
theorem dL_law_282 : decode code 282 = .ok (.iconst 2, 1) := by decide +kernel
theorem dL_law_283 : decode code 283 = .ok (.iadd, 1) := by decide +kernel
theorem dL_law_284 : decode code 284 = .ok (.iaload, 1) := by decide +kernel
theorem dL_law_285 : decode code 285 = .ok (.aload_n 0, 1) := by decide +kernel
theorem dL_law_286 : decode code 286 = .ok (.iload_n 3, 1) := by decide +kernel
theorem dL_law_287 : decode code 287 = .ok (.iconst 3, 1) := by decide +kernel
theorem dL_law_288 : decode code 288 = .ok (.iadd, 1) := by decide +kernel
theorem dL_law_289 : decode code 289 = .ok (.iaload, 1) := by decide +kernel
theorem dL_law_290 : decode code 290 = .ok (.invokevirtual 38, 3) := by decide +kernel
theorem dL_law_293 : decode code 293 = .ok (.aload_n 2, 1) := by decide +kernel
theorem dL_law_294 : decode code 294 = .ok (.aload_n 0, 1) := by decide +kernel
theorem dL_law_295 : decode code 295 = .ok (.iload_n 3, 1) := by decide +kernel
theorem dL_law_296 : decode code 296 = .ok (.iconst 1, 1) := by decide +kernel
theorem dL_law_297 : decode code 297 = .ok (.iadd, 1) := by decide +kernel
theorem dL_law_298 : decode code 298 = .ok (.iaload, 1) := by decide +kernel
theorem dL_law_299 : decode code 299 = .ok (.aload_n 0, 1) := by decide +kernel
theorem dL_law_300 : decode code 300 = .ok (.iload_n 3, 1) := by decide +kernel
theorem dL_law_301 : decode code 301 = .ok (.iconst 2, 1) := by decide +kernel
theorem dL_law_302 : decode code 302 = .ok (.iadd, 1) := by decide +kernel
theorem dL_law_303 : decode code 303 = .ok (.iaload, 1) := by decide +kernel
theorem dL_law_304 : decode code 304 = .ok (.aload_n 0, 1) := by decide +kernel
theorem dL_law_305 : decode code 305 = .ok (.iload_n 3, 1) := by decide +kernel
theorem dL_law_306 : decode code 306 = .ok (.iconst 3, 1) := by decide +kernel
theorem dL_law_307 : decode code 307 = .ok (.iadd, 1) := by decide +kernel
theorem dL_law_308 : decode code 308 = .ok (.iaload, 1) := by decide +kernel
theorem dL_law_309 : decode code 309 = .ok (.invokevirtual 42, 3) := by decide +kernel
theorem dL_law_312 : decode code 312 = .ok (.if_icmp .eq 357, 3) := by decide +kernel
theorem dL_law_315 : decode code 315 = .ok (.iconst 0, 1) := by decide +kernel
theorem dL_law_316 : decode code 316 = .ok (.ireturn, 1) := by decide +kernel
theorem dL_law_317 : decode code 317 = .ok (.aload_n 1, 1) := by decide +kernel
theorem dL_law_318 : decode code 318 = .ok (.aload_n 0, 1) := by decide +kernel
theorem dL_law_319 : decode code 319 = .ok (.iload_n 3, 1) := by decide +kernel
theorem dL_law_320 : decode code 320 = .ok (.iconst 1, 1) := by decide +kernel
theorem dL_law_321 : decode code 321 = .ok (.iadd, 1) := by decide +kernel
theorem dL_law_322 : decode code 322 = .ok (.iaload, 1) := by decide +kernel
theorem dL_law_323 : decode code 323 = .ok (.aload_n 0, 1) := by decide +kernel
theorem dL_law_324 : decode code 324 = .ok (.iload_n 3, 1) := by decide +kernel
theorem dL_law_325 : decode code 325 = .ok (.iconst 2, 1) := by decide +kernel
theorem dL_law_326 : decode code 326 = .ok (.iadd, 1) := by decide +kernel
theorem dL_law_327 : decode code 327 = .ok (.iaload, 1) := by decide +kernel
theorem dL_law_328 : decode code 328 = .ok (.aload_n 0, 1) := by decide +kernel
theorem dL_law_329 : decode code 329 = .ok (.iload_n 3, 1) := by decide +kernel
theorem dL_law_330 : decode code 330 = .ok (.iconst 3, 1) := by decide +kernel
theorem dL_law_331 : decode code 331 = .ok (.iadd, 1) := by decide +kernel
theorem dL_law_332 : decode code 332 = .ok (.iaload, 1) := by decide +kernel
theorem dL_law_333 : decode code 333 = .ok (.invokevirtual 43, 3) := by decide +kernel
theorem dL_law_336 : decode code 336 = .ok (.aload_n 2, 1) := by decide +kernel
theorem dL_law_337 : decode code 337 = .ok (.aload_n 0, 1) := by decide +kernel
theorem dL_law_338 : decode code 338 = .ok (.iload_n 3, 1) := by decide +kernel
theorem dL_law_339 : decode code 339 = .ok (.iconst 1, 1) := by decide +kernel
theorem dL_law_340 : decode code 340 = .ok (.iadd, 1) := by decide +kernel
theorem dL_law_341 : decode code 341 = .ok (.iaload, 1) := by decide +kernel
theorem dL_law_342 : decode code 342 = .ok (.aload_n 0, 1) := by decide +kernel
theorem dL_law_343 : decode code 343 = .ok (.iload_n 3, 1) := by decide +kernel
theorem dL_law_344 : decode code 344 = .ok (.iconst 2, 1) := by decide +kernel
theorem dL_law_345 : decode code 345 = .ok (.iadd, 1) := by decide +kernel
theorem dL_law_346 : decode code 346 = .ok (.iaload, 1) := by decide +kernel
theorem dL_law_347 : decode code 347 = .ok (.aload_n 0, 1) := by decide +kernel
theorem dL_law_348 : decode code 348 = .ok (.iload_n 3, 1) := by decide +kernel
theorem dL_law_349 : decode code 349 = .ok (.iconst 3, 1) := by decide +kernel
theorem dL_law_350 : decode code 350 = .ok (.iadd, 1) := by decide +kernel
theorem dL_law_351 : decode code 351 = .ok (.iaload, 1) := by decide +kernel
theorem dL_law_352 : decode code 352 = .ok (.invokevirtual 46, 3) := by decide +kernel
theorem dL_law_355 : decode code 355 = .ok (.if_icmp .eq 314, 3) := by decide +kernel
theorem dL_law_358 : decode code 358 = .ok (.iconst 0, 1) := by decide +kernel
theorem dL_law_359 : decode code 359 = .ok (.ireturn, 1) := by decide +kernel
theorem dL_law_360 : decode code 360 = .ok (.aload_n 1, 1) := by decide +kernel
theorem dL_law_361 : decode code 361 = .ok (.aload_n 0, 1) := by decide +kernel
theorem dL_law_362 : decode code 362 = .ok (.iload_n 3, 1) := by decide +kernel
theorem dL_law_363 : decode code 363 = .ok (.iconst 1, 1) := by decide +kernel
theorem dL_law_364 : decode code 364 = .ok (.iadd, 1) := by decide +kernel
theorem dL_law_365 : decode code 365 = .ok (.iaload, 1) := by decide +kernel
theorem dL_law_366 : decode code 366 = .ok (.invokevirtual 47, 3) := by decide +kernel
theorem dL_law_369 : decode code 369 = .ok (.aload_n 2, 1) := by decide +kernel
theorem dL_law_370 : decode code 370 = .ok (.aload_n 0, 1) := by decide +kernel
theorem dL_law_371 : decode code 371 = .ok (.iload_n 3, 1) := by decide +kernel
theorem dL_law_372 : decode code 372 = .ok (.iconst 1, 1) := by decide +kernel
theorem dL_law_373 : decode code 373 = .ok (.iadd, 1) := by decide +kernel
theorem dL_law_374 : decode code 374 = .ok (.iaload, 1) := by decide +kernel
theorem dL_law_375 : decode code 375 = .ok (.invokevirtual 51, 3) := by decide +kernel
theorem dL_law_378 : decode code 378 = .ok (.if_icmp .eq 291, 3) := by decide +kernel
theorem dL_law_381 : decode code 381 = .ok (.iconst 0, 1) := by decide +kernel
theorem dL_law_382 : decode code 382 = .ok (.ireturn, 1) := by decide +kernel
theorem dL_law_383 : decode code 383 = .ok (.aload_n 1, 1) := by decide +kernel
theorem dL_law_384 : decode code 384 = .ok (.aload_n 0, 1) := by decide +kernel
theorem dL_law_385 : decode code 385 = .ok (.iload_n 3, 1) := by decide +kernel
theorem dL_law_386 : decode code 386 = .ok (.iconst 1, 1) := by decide +kernel
theorem dL_law_387 : decode code 387 = .ok (.iadd, 1) := by decide +kernel
theorem dL_law_388 : decode code 388 = .ok (.iaload, 1) := by decide +kernel
theorem dL_law_389 : decode code 389 = .ok (.invokevirtual 52, 3) := by decide +kernel
theorem dL_law_392 : decode code 392 = .ok (.aload_n 2, 1) := by decide +kernel
theorem dL_law_393 : decode code 393 = .ok (.aload_n 0, 1) := by decide +kernel
theorem dL_law_394 : decode code 394 = .ok (.iload_n 3, 1) := by decide +kernel
theorem dL_law_395 : decode code 395 = .ok (.iconst 1, 1) := by decide +kernel
theorem dL_law_396 : decode code 396 = .ok (.iadd, 1) := by decide +kernel
theorem dL_law_397 : decode code 397 = .ok (.iaload, 1) := by decide +kernel
theorem dL_law_398 : decode code 398 = .ok (.invokevirtual 55, 3) := by decide +kernel
theorem dL_law_401 : decode code 401 = .ok (.if_icmp .eq 268, 3) := by decide +kernel
theorem dL_law_404 : decode code 404 = .ok (.iconst 0, 1) := by decide +kernel
theorem dL_law_405 : decode code 405 = .ok (.ireturn, 1) := by decide +kernel
theorem dL_law_406 : decode code 406 = .ok (.aload_n 1, 1) := by decide +kernel
theorem dL_law_407 : decode code 407 = .ok (.aload_n 0, 1) := by decide +kernel
theorem dL_law_408 : decode code 408 = .ok (.iload_n 3, 1) := by decide +kernel
theorem dL_law_409 : decode code 409 = .ok (.iconst 1, 1) := by decide +kernel
theorem dL_law_410 : decode code 410 = .ok (.iadd, 1) := by decide +kernel
theorem dL_law_411 : decode code 411 = .ok (.iaload, 1) := by decide +kernel
theorem dL_law_412 : decode code 412 = .ok (.invokevirtual 56, 3) := by decide +kernel
theorem dL_law_415 : decode code 415 = .ok (.aload_n 2, 1) := by decide +kernel
theorem dL_law_416 : decode code 416 = .ok (.aload_n 0, 1) := by decide +kernel
theorem dL_law_417 : decode code 417 = .ok (.iload_n 3, 1) := by decide +kernel
theorem dL_law_418 : decode code 418 = .ok (.iconst 1, 1) := by decide +kernel
theorem dL_law_419 : decode code 419 = .ok (.iadd, 1) := by decide +kernel
theorem dL_law_420 : decode code 420 = .ok (.iaload, 1) := by decide +kernel
theorem dL_law_421 : decode code 421 = .ok (.invokevirtual 59, 3) := by decide +kernel
theorem dL_law_424 : decode code 424 = .ok (.if_icmp .eq 245, 3) := by decide +kernel
theorem dL_law_427 : decode code 427 = .ok (.iconst 0, 1) := by decide +kernel
theorem dL_law_428 : decode code 428 = .ok (.ireturn, 1) := by decide +kernel
theorem dL_law_429 : decode code 429 = .ok (.aload_n 1, 1) := by decide +kernel
theorem dL_law_430 : decode code 430 = .ok (.aload_n 0, 1) := by decide +kernel
theorem dL_law_431 : decode code 431 = .ok (.iload_n 3, 1) := by decide +kernel
theorem dL_law_432 : decode code 432 = .ok (.iconst 1, 1) := by decide +kernel
theorem dL_law_433 : decode code 433 = .ok (.iadd, 1) := by decide +kernel
theorem dL_law_434 : decode code 434 = .ok (.iaload, 1) := by decide +kernel
theorem dL_law_435 : decode code 435 = .ok (.aload_n 0, 1) := by decide +kernel
theorem dL_law_436 : decode code 436 = .ok (.iload_n 3, 1) := by decide +kernel
theorem dL_law_437 : decode code 437 = .ok (.iconst 2, 1) := by decide +kernel
theorem dL_law_438 : decode code 438 = .ok (.iadd, 1) := by decide +kernel
theorem dL_law_439 : decode code 439 = .ok (.iaload, 1) := by decide +kernel
theorem dL_law_440 : decode code 440 = .ok (.invokevirtual 60, 3) := by decide +kernel
theorem dL_law_443 : decode code 443 = .ok (.aload_n 2, 1) := by decide +kernel
theorem dL_law_444 : decode code 444 = .ok (.aload_n 0, 1) := by decide +kernel
theorem dL_law_445 : decode code 445 = .ok (.iload_n 3, 1) := by decide +kernel
theorem dL_law_446 : decode code 446 = .ok (.iconst 1, 1) := by decide +kernel
theorem dL_law_447 : decode code 447 = .ok (.iadd, 1) := by decide +kernel
theorem dL_law_448 : decode code 448 = .ok (.iaload, 1) := by decide +kernel
theorem dL_law_449 : decode code 449 = .ok (.aload_n 0, 1) := by decide +kernel
theorem dL_law_450 : decode code 450 = .ok (.iload_n 3, 1) := by decide +kernel
theorem dL_law_451 : decode code 451 = .ok (.iconst 2, 1) := by decide +kernel
theorem dL_law_452 : decode code 452 = .ok (.iadd, 1) := by decide +kernel
theorem dL_law_453 : decode code 453 = .ok (.iaload, 1) := by decide +kernel
theorem dL_law_454 : decode code 454 = .ok (.invokevirtual 64, 3) := by decide +kernel
theorem dL_law_457 : decode code 457 = .ok (.if_icmp .eq 212, 3) := by decide +kernel
theorem dL_law_460 : decode code 460 = .ok (.iconst 0, 1) := by decide +kernel
theorem dL_law_461 : decode code 461 = .ok (.ireturn, 1) := by decide +kernel
theorem dL_law_462 : decode code 462 = .ok (.aload_n 1, 1) := by decide +kernel
theorem dL_law_463 : decode code 463 = .ok (.invokevirtual 65, 3) := by decide +kernel
theorem dL_law_466 : decode code 466 = .ok (.aload_n 2, 1) := by decide +kernel
theorem dL_law_467 : decode code 467 = .ok (.invokevirtual 69, 3) := by decide +kernel
theorem dL_law_470 : decode code 470 = .ok (.if_icmp .eq 199, 3) := by decide +kernel
theorem dL_law_473 : decode code 473 = .ok (.iconst 0, 1) := by decide +kernel
theorem dL_law_474 : decode code 474 = .ok (.ireturn, 1) := by decide +kernel
theorem dL_law_475 : decode code 475 = .ok (.aload_n 1, 1) := by decide +kernel
theorem dL_law_476 : decode code 476 = .ok (.aload_n 0, 1) := by decide +kernel
theorem dL_law_477 : decode code 477 = .ok (.iload_n 3, 1) := by decide +kernel
theorem dL_law_478 : decode code 478 = .ok (.iconst 1, 1) := by decide +kernel
theorem dL_law_479 : decode code 479 = .ok (.iadd, 1) := by decide +kernel
theorem dL_law_480 : decode code 480 = .ok (.iaload, 1) := by decide +kernel
theorem dL_law_481 : decode code 481 = .ok (.aload_n 0, 1) := by decide +kernel
theorem dL_law_482 : decode code 482 = .ok (.iload_n 3, 1) := by decide +kernel
theorem dL_law_483 : decode code 483 = .ok (.iconst 2, 1) := by decide +kernel
theorem dL_law_484 : decode code 484 = .ok (.iadd, 1) := by decide +kernel
theorem dL_law_485 : decode code 485 = .ok (.iaload, 1) := by decide +kernel
theorem dL_law_486 : decode code 486 = .ok (.invokevirtual 70, 3) := by decide +kernel
theorem dL_law_489 : decode code 489 = .ok (.aload_n 2, 1) := by decide +kernel
theorem dL_law_490 : decode code 490 = .ok (.aload_n 0, 1) := by decide +kernel
theorem dL_law_491 : decode code 491 = .ok (.iload_n 3, 1) := by decide +kernel
theorem dL_law_492 : decode code 492 = .ok (.iconst 1, 1) := by decide +kernel
theorem dL_law_493 : decode code 493 = .ok (.iadd, 1) := by decide +kernel
theorem dL_law_494 : decode code 494 = .ok (.iaload, 1) := by decide +kernel
theorem dL_law_495 : decode code 495 = .ok (.aload_n 0, 1) := by decide +kernel
theorem dL_law_496 : decode code 496 = .ok (.iload_n 3, 1) := by decide +kernel
theorem dL_law_497 : decode code 497 = .ok (.iconst 2, 1) := by decide +kernel
theorem dL_law_498 : decode code 498 = .ok (.iadd, 1) := by decide +kernel
theorem dL_law_499 : decode code 499 = .ok (.iaload, 1) := by decide +kernel
theorem dL_law_500 : decode code 500 = .ok (.invokevirtual 73, 3) := by decide +kernel
theorem dL_law_503 : decode code 503 = .ok (.if_icmp .eq 166, 3) := by decide +kernel
theorem dL_law_506 : decode code 506 = .ok (.iconst 0, 1) := by decide +kernel
theorem dL_law_507 : decode code 507 = .ok (.ireturn, 1) := by decide +kernel
theorem dL_law_508 : decode code 508 = .ok (.aload_n 1, 1) := by decide +kernel
theorem dL_law_509 : decode code 509 = .ok (.invokevirtual 74, 3) := by decide +kernel
theorem dL_law_512 : decode code 512 = .ok (.aload_n 2, 1) := by decide +kernel
theorem dL_law_513 : decode code 513 = .ok (.invokevirtual 77, 3) := by decide +kernel
theorem dL_law_516 : decode code 516 = .ok (.if_icmp .eq 153, 3) := by decide +kernel
theorem dL_law_519 : decode code 519 = .ok (.iconst 0, 1) := by decide +kernel
theorem dL_law_520 : decode code 520 = .ok (.ireturn, 1) := by decide +kernel
theorem dL_law_521 : decode code 521 = .ok (.aload_n 1, 1) := by decide +kernel
theorem dL_law_522 : decode code 522 = .ok (.aload_n 0, 1) := by decide +kernel
theorem dL_law_523 : decode code 523 = .ok (.iload_n 3, 1) := by decide +kernel
theorem dL_law_524 : decode code 524 = .ok (.iconst 1, 1) := by decide +kernel
theorem dL_law_525 : decode code 525 = .ok (.iadd, 1) := by decide +kernel
theorem dL_law_526 : decode code 526 = .ok (.iaload, 1) := by decide +kernel
theorem dL_law_527 : decode code 527 = .ok (.aload_n 0, 1) := by decide +kernel
theorem dL_law_528 : decode code 528 = .ok (.iload_n 3, 1) := by decide +kernel
theorem dL_law_529 : decode code 529 = .ok (.iconst 2, 1) := by decide +kernel
theorem dL_law_530 : decode code 530 = .ok (.iadd, 1) := by decide +kernel
theorem dL_law_531 : decode code 531 = .ok (.iaload, 1) := by decide +kernel
theorem dL_law_532 : decode code 532 = .ok (.invokevirtual 78, 3) := by decide +kernel
theorem dL_law_535 : decode code 535 = .ok (.aload_n 2, 1) := by decide +kernel
theorem dL_law_536 : decode code 536 = .ok (.aload_n 0, 1) := by decide +kernel
theorem dL_law_537 : decode code 537 = .ok (.iload_n 3, 1) := by decide +kernel
theorem dL_law_538 : decode code 538 = .ok (.iconst 1, 1) := by decide +kernel
theorem dL_law_539 : decode code 539 = .ok (.iadd, 1) := by decide +kernel
theorem dL_law_540 : decode code 540 = .ok (.iaload, 1) := by decide +kernel
theorem dL_law_541 : decode code 541 = .ok (.aload_n 0, 1) := by decide +kernel
theorem dL_law_542 : decode code 542 = .ok (.iload_n 3, 1) := by decide +kernel
theorem dL_law_543 : decode code 543 = .ok (.iconst 2, 1) := by decide +kernel
theorem dL_law_544 : decode code 544 = .ok (.iadd, 1) := by decide +kernel
theorem dL_law_545 : decode code 545 = .ok (.iaload, 1) := by decide +kernel
theorem dL_law_546 : decode code 546 = .ok (.invokevirtual 81, 3) := by decide +kernel
theorem dL_law_549 : decode code 549 = .ok (.if_icmp .eq 120, 3) := by decide +kernel
theorem dL_law_552 : decode code 552 = .ok (.iconst 0, 1) := by decide +kernel
theorem dL_law_553 : decode code 553 = .ok (.ireturn, 1) := by decide +kernel
theorem dL_law_554 : decode code 554 = .ok (.aload_n 1, 1) := by decide +kernel
theorem dL_law_555 : decode code 555 = .ok (.aload_n 0, 1) := by decide +kernel
theorem dL_law_556 : decode code 556 = .ok (.iload_n 3, 1) := by decide +kernel
theorem dL_law_557 : decode code 557 = .ok (.iconst 1, 1) := by decide +kernel
theorem dL_law_558 : decode code 558 = .ok (.iadd, 1) := by decide +kernel
theorem dL_law_559 : decode code 559 = .ok (.iaload, 1) := by decide +kernel
theorem dL_law_560 : decode code 560 = .ok (.invokevirtual 82, 3) := by decide +kernel
theorem dL_law_563 : decode code 563 = .ok (.aload_n 2, 1) := by decide +kernel
theorem dL_law_564 : decode code 564 = .ok (.aload_n 0, 1) := by decide +kernel
theorem dL_law_565 : decode code 565 = .ok (.iload_n 3, 1) := by decide +kernel
theorem dL_law_566 : decode code 566 = .ok (.iconst 1, 1) := by decide +kernel
theorem dL_law_567 : decode code 567 = .ok (.iadd, 1) := by decide +kernel
theorem dL_law_568 : decode code 568 = .ok (.iaload, 1) := by decide +kernel
theorem dL_law_569 : decode code 569 = .ok (.invokevirtual 85, 3) := by decide +kernel
theorem dL_law_572 : decode code 572 = .ok (.if_icmp .eq 97, 3) := by decide +kernel
theorem dL_law_575 : decode code 575 = .ok (.iconst 0, 1) := by decide +kernel
theorem dL_law_576 : decode code 576 = .ok (.ireturn, 1) := by decide +kernel
theorem dL_law_577 : decode code 577 = .ok (.aload_n 1, 1) := by decide +kernel
theorem dL_law_578 : decode code 578 = .ok (.aload_n 0, 1) := by decide +kernel
theorem dL_law_579 : decode code 579 = .ok (.iload_n 3, 1) := by decide +kernel
theorem dL_law_580 : decode code 580 = .ok (.iconst 1, 1) := by decide +kernel
theorem dL_law_581 : decode code 581 = .ok (.iadd, 1) := by decide +kernel
theorem dL_law_582 : decode code 582 = .ok (.iaload, 1) := by decide +kernel
theorem dL_law_583 : decode code 583 = .ok (.invokevirtual 86, 3) := by decide +kernel
theorem dL_law_586 : decode code 586 = .ok (.aload_n 2, 1) := by decide +kernel
theorem dL_law_587 : decode code 587 = .ok (.aload_n 0, 1) := by decide +kernel
theorem dL_law_588 : decode code 588 = .ok (.iload_n 3, 1) := by decide +kernel
theorem dL_law_589 : decode code 589 = .ok (.iconst 1, 1) := by decide +kernel
theorem dL_law_590 : decode code 590 = .ok (.iadd, 1) := by decide +kernel
theorem dL_law_591 : decode code 591 = .ok (.iaload, 1) := by decide +kernel
theorem dL_law_592 : decode code 592 = .ok (.invokevirtual 89, 3) := by decide +kernel
theorem dL_law_595 : decode code 595 = .ok (.if_icmp .eq 74, 3) := by decide +kernel
theorem dL_law_598 : decode code 598 = .ok (.iconst 0, 1) := by decide +kernel
theorem dL_law_599 : decode code 599 = .ok (.ireturn, 1) := by decide +kernel
theorem dL_law_600 : decode code 600 = .ok (.aload_n 1, 1) := by decide +kernel
theorem dL_law_601 : decode code 601 = .ok (.aload_n 0, 1) := by decide +kernel
theorem dL_law_602 : decode code 602 = .ok (.iload_n 3, 1) := by decide +kernel
theorem dL_law_603 : decode code 603 = .ok (.iconst 1, 1) := by decide +kernel
theorem dL_law_604 : decode code 604 = .ok (.iadd, 1) := by decide +kernel
theorem dL_law_605 : decode code 605 = .ok (.iaload, 1) := by decide +kernel
theorem dL_law_606 : decode code 606 = .ok (.invokevirtual 90, 3) := by decide +kernel
theorem dL_law_609 : decode code 609 = .ok (.aload_n 2, 1) := by decide +kernel
theorem dL_law_610 : decode code 610 = .ok (.aload_n 0, 1) := by decide +kernel
theorem dL_law_611 : decode code 611 = .ok (.iload_n 3, 1) := by decide +kernel
theorem dL_law_612 : decode code 612 = .ok (.iconst 1, 1) := by decide +kernel
theorem dL_law_613 : decode code 613 = .ok (.iadd, 1) := by decide +kernel
theorem dL_law_614 : decode code 614 = .ok (.iaload, 1) := by decide +kernel
theorem dL_law_615 : decode code 615 = .ok (.invokevirtual 93, 3) := by decide +kernel
theorem dL_law_618 : decode code 618 = .ok (.if_icmp .eq 51, 3) := by decide +kernel
theorem dL_law_621 : decode code 621 = .ok (.iconst 0, 1) := by decide +kernel
theorem dL_law_622 : decode code 622 = .ok (.ireturn, 1) := by decide +kernel
theorem dL_law_623 : decode code 623 = .ok (.aload_n 1, 1) := by decide +kernel
theorem dL_law_624 : decode code 624 = .ok (.aload_n 0, 1) := by decide +kernel
theorem dL_law_625 : decode code 625 = .ok (.iload_n 3, 1) := by decide +kernel
theorem dL_law_626 : decode code 626 = .ok (.iconst 1, 1) := by decide +kernel
theorem dL_law_627 : decode code 627 = .ok (.iadd, 1) := by decide +kernel
theorem dL_law_628 : decode code 628 = .ok (.iaload, 1) := by decide +kernel
theorem dL_law_629 : decode code 629 = .ok (.invokevirtual 94, 3) := by decide +kernel
theorem dL_law_632 : decode code 632 = .ok (.aload_n 2, 1) := by decide +kernel
theorem dL_law_633 : decode code 633 = .ok (.aload_n 0, 1) := by decide +kernel
theorem dL_law_634 : decode code 634 = .ok (.iload_n 3, 1) := by decide +kernel
theorem dL_law_635 : decode code 635 = .ok (.iconst 1, 1) := by decide +kernel
theorem dL_law_636 : decode code 636 = .ok (.iadd, 1) := by decide +kernel
theorem dL_law_637 : decode code 637 = .ok (.iaload, 1) := by decide +kernel
theorem dL_law_638 : decode code 638 = .ok (.invokevirtual 97, 3) := by decide +kernel
theorem dL_law_641 : decode code 641 = .ok (.if_icmp .eq 28, 3) := by decide +kernel
theorem dL_law_644 : decode code 644 = .ok (.iconst 0, 1) := by decide +kernel
theorem dL_law_645 : decode code 645 = .ok (.ireturn, 1) := by decide +kernel
theorem dL_law_646 : decode code 646 = .ok (.aload_n 1, 1) := by decide +kernel
theorem dL_law_647 : decode code 647 = .ok (.aload_n 0, 1) := by decide +kernel
theorem dL_law_648 : decode code 648 = .ok (.iload_n 3, 1) := by decide +kernel
theorem dL_law_649 : decode code 649 = .ok (.iconst 1, 1) := by decide +kernel
theorem dL_law_650 : decode code 650 = .ok (.iadd, 1) := by decide +kernel
theorem dL_law_651 : decode code 651 = .ok (.iaload, 1) := by decide +kernel
theorem dL_law_652 : decode code 652 = .ok (.invokevirtual 98, 3) := by decide +kernel
theorem dL_law_655 : decode code 655 = .ok (.aload_n 2, 1) := by decide +kernel
theorem dL_law_656 : decode code 656 = .ok (.aload_n 0, 1) := by decide +kernel
theorem dL_law_657 : decode code 657 = .ok (.iload_n 3, 1) := by decide +kernel
theorem dL_law_658 : decode code 658 = .ok (.iconst 1, 1) := by decide +kernel
theorem dL_law_659 : decode code 659 = .ok (.iadd, 1) := by decide +kernel
theorem dL_law_660 : decode code 660 = .ok (.iaload, 1) := by decide +kernel
theorem dL_law_661 : decode code 661 = .ok (.invokevirtual 101, 3) := by decide +kernel
theorem dL_law_664 : decode code 664 = .ok (.if_icmp .eq 5, 3) := by decide +kernel
theorem dL_law_667 : decode code 667 = .ok (.iconst 0, 1) := by decide +kernel
theorem dL_law_668 : decode code 668 = .ok (.ireturn, 1) := by decide +kernel
theorem dL_law_669 : decode code 669 = .ok (.iinc 3 4, 3) := by decide +kernel
theorem dL_law_672 : decode code 672 = .ok (.goto (-654), 3) := by decide +kernel
theorem dL_law_675 : decode code 675 = .ok (.iconst 1, 1) := by decide +kernel
theorem dL_law_676 : decode code 676 = .ok (.ireturn, 1) := by decide +kernel
end
section
/-! the world by names: a name of three numbers has an address and a cell -/
abbrev gN : Type := Nat × Nat × Nat
def gu {α : Type} (V : gN → α) (n : gN) (e : α) : gN → α := fun n' => if n' = n then e else V n'
theorem gu_s {α : Type} (V : gN → α) (n : gN) (e : α) : gu V n e n = e := by simp [gu]
theorem gu_n {α : Type} (V : gN → α) {n n' : gN} (e : α) (h : n' ≠ n) : gu V n e n' = V n' := by simp [gu, h]
abbrev gWs (ad : gN → Nat) (V : gN → va_E) (N : List gN) : va_W := N.map fun n => (ad n, V n)
/-- the names of dm have their cells V at their addresses ad, all apart and all in A -/
def gH (D : va_G) (cl : List vw_C) (ad : gN → Nat) (dm : gN → Prop) (V : gN → va_E) (A : Nat → Prop) (H : Heap) : Prop :=
  ∃ N : List gN, (∀ n, dm n ↔ n ∈ N) ∧ va_P D cl (gWs ad V N) H ∧ va_D A (gWs ad V N)
theorem gWs_at {ad : gN → Nat} {V : gN → va_E} {N : List gN} {n : gN} {k : Nat} (h : N[k]? = some n) : (gWs ad V N)[k]? = some (ad n, V n) := by
  simp only [gWs, List.getElem?_map, h, Option.map_some]
theorem gWs_set {A : Nat → Prop} {ad : gN → Nat} {V : gN → va_E} {N : List gN} {n : gN} {k : Nat} {e : va_E} (hD : va_D A (gWs ad V N)) (h : N[k]? = some n) : (gWs ad V N).set k (ad n, e) = gWs ad (gu V n e) N := by
  apply List.ext_getElem?
  intro i
  by_cases hi : i = k
  · subst hi
    have hl : i < (gWs ad V N).length := by
      simp only [gWs, List.length_map]
      exact (List.getElem?_eq_some_iff.mp h).1
    rw [List.getElem?_set_self hl, gWs_at h, gu_s]
  · rw [List.getElem?_set_ne (Ne.symm hi)]
    cases hN : N[i]? with
    | none => simp only [gWs, List.getElem?_map, hN, Option.map_none]
    | some n' =>
      have hne : n' ≠ n := fun q => hi (hD.1 i k (ad n', V n') (ad n, V n) (gWs_at hN) (gWs_at h) (by rw [q]))
      rw [gWs_at hN, gWs_at hN, gu_n _ _ hne]
theorem gH.inj {D : va_G} {cl : List vw_C} {ad : gN → Nat} {dm : gN → Prop} {V : gN → va_E} {A : Nat → Prop} {H : Heap} (h : gH D cl ad dm V A H) {n n' : gN} (h1 : dm n) (h2 : dm n') (e : ad n = ad n') : n = n' := by
  obtain ⟨N, hN, hP, hD⟩ := h
  obtain ⟨i, hi⟩ := List.getElem?_of_mem ((hN n).mp h1)
  obtain ⟨j, hj⟩ := List.getElem?_of_mem ((hN n').mp h2)
  have hij := hD.1 i j _ _ (gWs_at hi) (gWs_at hj) e
  subst hij
  exact Option.some.inj (hi.symm.trans hj)
theorem gH.one {D : va_G} {cl : List vw_C} {ad : gN → Nat} {dm : gN → Prop} {V : gN → va_E} {A : Nat → Prop} {H : Heap} (h : gH D cl ad dm V A H) {n : gN} {e : va_E} (h1 : dm n) (he : V n = e) : va_P D cl [(ad n, e)] H := by
  obtain ⟨N, hN, hP, hD⟩ := h
  obtain ⟨i, hi⟩ := List.getElem?_of_mem ((hN n).mp h1)
  intro k q hk
  have hz : k < 1 := (List.getElem?_eq_some_iff.mp hk).1
  rw [show k = 0 by omega] at hk
  cases hk
  rw [← he]
  exact hP i _ (gWs_at hi)
theorem gH.lt {D : va_G} {cl : List vw_C} {ad : gN → Nat} {dm : gN → Prop} {V : gN → va_E} {A : Nat → Prop} {H : Heap} (h : gH D cl ad dm V A H) {n : gN} (h1 : dm n) : ad n < H.size := ((h.one h1 rfl) 0 _ rfl).lt
theorem gH.congr {D : va_G} {cl : List vw_C} {ad ad' : gN → Nat} {dm dm' : gN → Prop} {V V' : gN → va_E} {A : Nat → Prop} {H : Heap} (h : gH D cl ad dm V A H) (hd : ∀ n, dm' n ↔ dm n) (ha : ∀ n, dm n → ad' n = ad n) (hV : ∀ n, dm n → V' n = V n) : gH D cl ad' dm' V' A H := by
  obtain ⟨N, hN, hP, hD⟩ := h
  have e : gWs ad' V' N = gWs ad V N := List.map_congr_left fun n hn => by rw [ha n ((hN n).mpr hn), hV n ((hN n).mpr hn)]
  exact ⟨N, fun n => (hd n).trans (hN n), by rw [e]; exact hP, by rw [e]; exact hD⟩
theorem gH.nil {D : va_G} {cl : List vw_C} {ad : gN → Nat} {V : gN → va_E} {A : Nat → Prop} {H : Heap} : gH D cl ad (fun _ => False) V A H :=
  ⟨[], fun n => by simp, fun k q hk => by simp [gWs] at hk, ⟨fun i j p q hi => by simp [gWs] at hi, fun k q hk => by simp [gWs] at hk⟩⟩
theorem gWs_push {D : va_G} {cl : List vw_C} {ad : gN → Nat} {dm : gN → Prop} {V : gN → va_E} {A : Nat → Prop} {H1 : Heap} {N : List gN} {n : gN} {q : Nat} {e : va_E} (hN : ∀ n, dm n ↔ n ∈ N) (hn : ¬ dm n) (hP : va_P D cl (gWs ad V N ++ [(q, e)]) H1) (hD : va_D A (gWs ad V N ++ [(q, e)])) : gH D cl (gu ad n q) (fun n' => dm n' ∨ n' = n) (gu V n e) A H1 := by
  have e1 : gWs (gu ad n q) (gu V n e) (N ++ [n]) = gWs ad V N ++ [(q, e)] := by
    simp only [gWs, List.map_append, List.map_cons, List.map_nil, gu_s]
    congr 1
    refine List.map_congr_left fun n' h' => ?_
    have hne : n' ≠ n := fun z => hn ((hN n).mpr (z ▸ h'))
    rw [gu_n _ _ hne, gu_n _ _ hne]
  refine ⟨N ++ [n], fun n' => ?_, by rw [e1]; exact hP, by rw [e1]; exact hD⟩
  rw [List.mem_append, List.mem_singleton, ← hN n']
section GROW
variable {p : Program} {l : Launch} {e : Env} {R : Room} {s : State} {m : MethodId} {args : Array Value} {below : List Frame} {meth : Method} {c : Code} {H : Heap} {locs : List Loc} {cells slots : Nat} {Q : State → Prop}
variable {cc : ByteArray} {pc : Nat} {ls : Array Slot} {rest : List Value} {D : va_G} {cl : List vw_C} {A : Nat → Prop} {tys : List (ClassId × FieldType)} {H0 : Heap} {ad : gN → Nat} {dm : gN → Prop} {V : gN → va_E} {n : gN}
theorem gx_get (hx : p.tables.exec = Jvm.exec) (hb : c.code = cc) {own ref C : String} {T : u_T} {N ci index : Nat} {Ts : List Cond} (hts : ∀ w ∈ Ts, w.before args s = true) (hin : ∀ w ∈ u_ws C T N, w ∈ Ts) (hown : s.vm.findClass own = some m.cls) (hK : va_K D cl tys s) (hH : gH D cl ad dm V A H) (hn : dm n) {fs : List Value} (he : V n = .inr (ci, fs)) (hc : cl[ci]? = some (C, T, N)) (k : Nat) (hk : k < N) (hlink : (Cond.fieldLink own index ref (T k).2.1 (T k).2.2.1).before args s = true) (hsame : ∀ x, s.fieldFound? (T k).1 (T k).2.1 (T k).2.2.1 = some x → s.fieldFound? ref (T k).2.1 (T k).2.2.1 = some x) {v : Value} (hv : fs[k]? = some v) (hdg : decode cc pc = .ok (.getfield index, 3))
    (kk : W p l e R s m args below meth c H locs cells slots Q (F0 m (pc + 3) ls (v :: rest))) : W p l e R s m args below meth c H locs cells slots Q (F0 m pc ls (.ref (ad n) :: rest)) :=
  va_get hx hb hts hin hown hK (hH.one hn he) 0 rfl hc k hk hlink hsame hv hdg kk
theorem gx_put (hx : p.tables.exec = Jvm.exec) (hb : c.code = cc) {own ref C : String} {T : u_T} {N ci index : Nat} {Ts : List Cond} (hts : ∀ w ∈ Ts, w.before args s = true) (hin : ∀ w ∈ u_ws C T N, w ∈ Ts) (ty0 : Nat → FieldType) (hty : ∀ k, k < N → parseFieldDescriptor (T k).2.2.1 = some (ty0 k)) (hnm : ∀ a, a < N → ∀ b, b < N → a ≠ b → (T a).2.1 ≠ (T b).2.1) (hown : s.vm.findClass own = some m.cls) (hK : va_K D cl tys s) (hH : gH D cl ad dm V A H) (hS : va_S A H0 H locs) (hn : dm n) {fs : List Value} (he : V n = .inr (ci, fs)) (hc : cl[ci]? = some (C, T, N)) (k : Nat) (hk : k < N) (hlink : (Cond.fieldLink own index ref (T k).2.1 (T k).2.2.1).before args s = true) (hsame : ∀ x, s.fieldFound? (T k).1 (T k).2.1 (T k).2.2.1 = some x → s.fieldFound? ref (T k).2.1 (T k).2.2.1 = some x) (hfin : (T k).2.2.2 = false) {ty : FieldType} {v : Value} (hd : parseFieldDescriptor (T k).2.2.1 = some ty) (hnr : narrow ty v = v) (hfit : fits ty v = true) (hl : k < fs.length) (hdg : decode cc pc = .ok (.putfield index, 3))
    (kk : ∀ (H1 : Heap) (locs1 : List Loc), gH D cl ad dm (gu V n (.inr (ci, fs.set k v))) A H1 → va_S A H0 H1 locs1 → W p l e R s m args below meth c H1 locs1 cells slots Q (F0 m (pc + 3) ls rest)) : W p l e R s m args below meth c H locs cells slots Q (F0 m pc ls (v :: .ref (ad n) :: rest)) := by
  obtain ⟨L, hL, hP, hD⟩ := hH
  obtain ⟨i, hi⟩ := List.getElem?_of_mem ((hL n).mp hn)
  refine va_put hx hb hts hin ty0 hty hnm hown hK hP hD hS i (by rw [gWs_at hi, he]) hc k hk hlink hsame hfin hd hnr hfit hl hdg (fun H1 locs1 h1 h2 h3 => kk H1 locs1 ⟨L, hL, ?_, ?_⟩ h3)
  · rw [gWs_set hD hi] at h1; exact h1
  · rw [gWs_set hD hi] at h2; exact h2
theorem gx_putF (hx : p.tables.exec = Jvm.exec) (hb : c.code = cc) {own ref C : String} {T : u_T} {N ci index : Nat} {Ts : List Cond} (hts : ∀ w ∈ Ts, w.before args s = true) (hin : ∀ w ∈ u_ws C T N, w ∈ Ts) (ty0 : Nat → FieldType) (hty : ∀ k, k < N → parseFieldDescriptor (T k).2.2.1 = some (ty0 k)) (hnm : ∀ a, a < N → ∀ b, b < N → a ≠ b → (T a).2.1 ≠ (T b).2.1) (hown : s.vm.findClass own = some m.cls) (hK : va_K D cl tys s) (hH : gH D cl ad dm V A H) (hS : va_S A H0 H locs) (hn : dm n) {fs : List Value} (he : V n = .inr (ci, fs)) (hc : cl[ci]? = some (C, T, N)) (k : Nat) (hk : k < N) (hlink : (Cond.fieldLink own index ref (T k).2.1 (T k).2.2.1).before args s = true) (hsame : ∀ x, s.fieldFound? (T k).1 (T k).2.1 (T k).2.2.1 = some x → s.fieldFound? ref (T k).2.1 (T k).2.2.1 = some x) (hfin : (T k).2.2.2 = true) (hin2 : meth.name = "<init>") (hdecl : (T k).1 = own) {ty : FieldType} {v : Value} (hd : parseFieldDescriptor (T k).2.2.1 = some ty) (hnr : narrow ty v = v) (hfit : fits ty v = true) (hl : k < fs.length) (hdg : decode cc pc = .ok (.putfield index, 3))
    (kk : ∀ (H1 : Heap) (locs1 : List Loc), gH D cl ad dm (gu V n (.inr (ci, fs.set k v))) A H1 → va_S A H0 H1 locs1 → W p l e R s m args below meth c H1 locs1 cells slots Q (F0 m (pc + 3) ls rest)) : W p l e R s m args below meth c H locs cells slots Q (F0 m pc ls (v :: .ref (ad n) :: rest)) := by
  obtain ⟨L, hL, hP, hD⟩ := hH
  obtain ⟨i, hi⟩ := List.getElem?_of_mem ((hL n).mp hn)
  refine va_putF hx hb hts hin ty0 hty hnm hown hK hP hD hS i (by rw [gWs_at hi, he]) hc k hk hlink hsame hfin hin2 hdecl hd hnr hfit hl hdg (fun H1 locs1 h1 h2 h3 => kk H1 locs1 ⟨L, hL, ?_, ?_⟩ h3)
  · rw [gWs_set hD hi] at h1; exact h1
  · rw [gWs_set hD hi] at h2; exact h2
theorem gx_iald (hx : p.tables.exec = Jvm.exec) (hb : c.code = cc) (hK : va_K D cl tys s) (hH : gH D cl ad dm V A H) (t0 : Nat) (hn : dm n) {cA : ClassId} {N : Nat} {f : Nat → Int32} (he : V n = .inl (cA, N, .inl f)) (ht : tys[t0]? = some (cA, .int)) {i : Int32} (j : Nat) (hi : i = nI j) (hj : j < N) (hN : N < 2 ^ 31) (hdg : decode cc pc = .ok (.iaload, 1))
    (kk : W p l e R s m args below meth c H locs cells slots Q (F0 m (pc + 1) ls (.int (f j) :: rest))) : W p l e R s m args below meth c H locs cells slots Q (F0 m pc ls (.int i :: .ref (ad n) :: rest)) := by
  subst hi
  refine va_iald hx hb hK (hH.one hn he) 0 t0 rfl ht (vp_in_nI hj hN) hdg ?_
  rw [nI_clamp (by omega)]
  exact kk
theorem gx_zald (hx : p.tables.exec = Jvm.exec) (hb : c.code = cc) (hK : va_K D cl tys s) (hH : gH D cl ad dm V A H) (t0 : Nat) (hn : dm n) {cA : ClassId} {N : Nat} {f : Nat → Int32} (he : V n = .inl (cA, N, .inl f)) (ht : tys[t0]? = some (cA, .boolean)) {i : Int32} (j : Nat) (hi : i = nI j) (hj : j < N) (hN : N < 2 ^ 31) (hdg : decode cc pc = .ok (.baload, 1))
    (kk : W p l e R s m args below meth c H locs cells slots Q (F0 m (pc + 1) ls (.int (f j) :: rest))) : W p l e R s m args below meth c H locs cells slots Q (F0 m pc ls (.int i :: .ref (ad n) :: rest)) := by
  subst hi
  refine va_zald hx hb hK (hH.one hn he) 0 t0 rfl ht (vp_in_nI hj hN) hdg ?_
  rw [nI_clamp (by omega)]
  exact kk
theorem gx_aald (hx : p.tables.exec = Jvm.exec) (hb : c.code = cc) (hK : va_K D cl tys s) (hH : gH D cl ad dm V A H) (t0 : Nat) (hn : dm n) {cA : ClassId} {N : Nat} {C : String} {f : Nat → Option Nat} (he : V n = .inl (cA, N, .inr (.inr (.inr (.inr f))))) (ht : tys[t0]? = some (cA, .object C)) {i : Int32} (j : Nat) (hi : i = nI j) (hj : j < N) (hN : N < 2 ^ 31) (hdg : decode cc pc = .ok (.aaload, 1))
    (kk : W p l e R s m args below meth c H locs cells slots Q (F0 m (pc + 1) ls (va_rf (f j) :: rest))) : W p l e R s m args below meth c H locs cells slots Q (F0 m pc ls (.int i :: .ref (ad n) :: rest)) := by
  subst hi
  refine va_aldq hx hb hK (hH.one hn he) 0 t0 rfl ht (vp_in_nI hj hN) hdg ?_
  rw [nI_clamp (by omega)]
  exact kk
theorem gx_iast (hx : p.tables.exec = Jvm.exec) (hb : c.code = cc) (hK : va_K D cl tys s) (hH : gH D cl ad dm V A H) (hS : va_S A H0 H locs) (t0 : Nat) (hn : dm n) {cA : ClassId} {N : Nat} {f : Nat → Int32} (he : V n = .inl (cA, N, .inl f)) (ht : tys[t0]? = some (cA, .int)) {i x : Int32} (j : Nat) (hi : i = nI j) (hj : j < N) (hN : N < 2 ^ 31) (hdg : decode cc pc = .ok (.iastore, 1))
    (kk : ∀ (H1 : Heap) (locs1 : List Loc), gH D cl ad dm (gu V n (.inl (cA, N, .inl (upd f j x)))) A H1 → va_S A H0 H1 locs1 → W p l e R s m args below meth c H1 locs1 cells slots Q (F0 m (pc + 1) ls rest)) : W p l e R s m args below meth c H locs cells slots Q (F0 m pc ls (.int x :: .int i :: .ref (ad n) :: rest)) := by
  subst hi
  obtain ⟨L, hL, hP, hD⟩ := hH
  obtain ⟨i, hi⟩ := List.getElem?_of_mem ((hL n).mp hn)
  refine va_iast hx hb hK hP hD hS i t0 (by rw [gWs_at hi, he]) ht (vp_in_nI hj hN) hdg (fun H1 locs1 h1 h2 h3 => kk H1 locs1 ⟨L, hL, ?_, ?_⟩ h3)
  · rw [gWs_set hD hi, nI_clamp (by omega)] at h1; exact h1
  · rw [gWs_set hD hi, nI_clamp (by omega)] at h2; exact h2
theorem gx_zast (hx : p.tables.exec = Jvm.exec) (hb : c.code = cc) (hK : va_K D cl tys s) (hH : gH D cl ad dm V A H) (hS : va_S A H0 H locs) (t0 : Nat) (hn : dm n) {cA : ClassId} {N : Nat} {f : Nat → Int32} (he : V n = .inl (cA, N, .inl f)) (ht : tys[t0]? = some (cA, .boolean)) {i x : Int32} (j : Nat) (hi : i = nI j) (hj : j < N) (hN : N < 2 ^ 31) (h01 : x = 0 ∨ x = 1) (hdg : decode cc pc = .ok (.bastore, 1))
    (kk : ∀ (H1 : Heap) (locs1 : List Loc), gH D cl ad dm (gu V n (.inl (cA, N, .inl (upd f j x)))) A H1 → va_S A H0 H1 locs1 → W p l e R s m args below meth c H1 locs1 cells slots Q (F0 m (pc + 1) ls rest)) : W p l e R s m args below meth c H locs cells slots Q (F0 m pc ls (.int x :: .int i :: .ref (ad n) :: rest)) := by
  subst hi
  have hx1 : vp_nar .boolean x = x := by rcases h01 with rfl | rfl <;> rfl
  obtain ⟨L, hL, hP, hD⟩ := hH
  obtain ⟨i, hi⟩ := List.getElem?_of_mem ((hL n).mp hn)
  refine va_zast hx hb hK hP hD hS i t0 (by rw [gWs_at hi, he]) ht (vp_in_nI hj hN) hdg (fun H1 locs1 h1 h2 h3 => kk H1 locs1 ⟨L, hL, ?_, ?_⟩ h3)
  · rw [gWs_set hD hi, nI_clamp (by omega), hx1] at h1; exact h1
  · rw [gWs_set hD hi, nI_clamp (by omega), hx1] at h2; exact h2
theorem gx_aast (hx : p.tables.exec = Jvm.exec) (hb : c.code = cc) (hK : va_K D cl tys s) (hH : gH D cl ad dm V A H) (hS : va_S A H0 H locs) (t0 ci : Nat) (hn : dm n) {cA : ClassId} {r : vw_C} {N : Nat} {f : Nat → Option Nat} {n' : gN} {vs : List Value} (he : V n = .inl (cA, N, .inr (.inr (.inr (.inr f))))) (ht : tys[t0]? = some (cA, .object r.1)) (hn' : dm n') (he' : V n' = .inr (ci, vs)) (hc : cl[ci]? = some r) {i : Int32} (j : Nat) (hi : i = nI j) (hj : j < N) (hN : N < 2 ^ 31) (hdg : decode cc pc = .ok (.aastore, 1))
    (kk : ∀ (H1 : Heap) (locs1 : List Loc), gH D cl ad dm (gu V n (.inl (cA, N, .inr (.inr (.inr (.inr (va_up f j (some (ad n'))))))))) A H1 → va_S A H0 H1 locs1 → W p l e R s m args below meth c H1 locs1 cells slots Q (F0 m (pc + 1) ls rest)) : W p l e R s m args below meth c H locs cells slots Q (F0 m pc ls (.ref (ad n') :: .int i :: .ref (ad n) :: rest)) := by
  subst hi
  obtain ⟨L, hL, hP, hD⟩ := hH
  obtain ⟨i, hi⟩ := List.getElem?_of_mem ((hL n).mp hn)
  obtain ⟨i', hi'⟩ := List.getElem?_of_mem ((hL n').mp hn')
  refine va_astq hx hb hK hP hD hS i t0 i' ci (by rw [gWs_at hi, he]) ht (by rw [gWs_at hi', he']) hc (vp_in_nI hj hN) hdg (fun H1 locs1 h1 h2 h3 => kk H1 locs1 ⟨L, hL, ?_, ?_⟩ h3)
  · rw [gWs_set hD hi, nI_clamp (by omega)] at h1; exact h1
  · rw [gWs_set hD hi, nI_clamp (by omega)] at h2; exact h2
theorem gx_aastN (hx : p.tables.exec = Jvm.exec) (hb : c.code = cc) (hK : va_K D cl tys s) (hH : gH D cl ad dm V A H) (hS : va_S A H0 H locs) (t0 : Nat) (hn : dm n) {cA : ClassId} {C : String} {N : Nat} {f : Nat → Option Nat} (he : V n = .inl (cA, N, .inr (.inr (.inr (.inr f))))) (ht : tys[t0]? = some (cA, .object C)) {i : Int32} (j : Nat) (hi : i = nI j) (hj : j < N) (hN : N < 2 ^ 31) (hdg : decode cc pc = .ok (.aastore, 1))
    (kk : ∀ (H1 : Heap) (locs1 : List Loc), gH D cl ad dm (gu V n (.inl (cA, N, .inr (.inr (.inr (.inr (va_up f j none))))))) A H1 → va_S A H0 H1 locs1 → W p l e R s m args below meth c H1 locs1 cells slots Q (F0 m (pc + 1) ls rest)) : W p l e R s m args below meth c H locs cells slots Q (F0 m pc ls (.null :: .int i :: .ref (ad n) :: rest)) := by
  subst hi
  obtain ⟨L, hL, hP, hD⟩ := hH
  obtain ⟨i, hi⟩ := List.getElem?_of_mem ((hL n).mp hn)
  refine va_astqN hx hb hK hP hD hS i t0 (by rw [gWs_at hi, he]) ht (vp_in_nI hj hN) hdg (fun H1 locs1 h1 h2 h3 => kk H1 locs1 ⟨L, hL, ?_, ?_⟩ h3)
  · rw [gWs_set hD hi, nI_clamp (by omega)] at h1; exact h1
  · rw [gWs_set hD hi, nI_clamp (by omega)] at h2; exact h2
theorem gx_new (hx : p.tables.exec = Jvm.exec) (hb : c.code = cc) {own C : String} {T : u_T} {N ci index : Nat} {Ts : List Cond} (hts : ∀ w ∈ Ts, w.before args s = true) (hin : ∀ w ∈ u_ws C T N, w ∈ Ts) (ty : Nat → FieldType) (hty : ∀ k, k < N → parseFieldDescriptor (T k).2.2.1 = some (ty k)) (hown : s.vm.findClass own = some m.cls) (hcl : (Cond.classLink own index C).before args s = true) (hinst : (Cond.instantiable C N).before args s = true) (hini : (Cond.initialized C).before args s = true) (hK : va_K D cl tys s) (hH : gH D cl ad dm V A H) (hS : va_S A H0 H locs) (hA : ∀ q, H0.size ≤ q → A q) (n : gN) (hn : ¬ dm n) (hc : cl[ci]? = some (C, T, N)) {fs : List Value} (hfs : ∀ j, j < N → defaultValue (ty j) = vp_V fs j) (hcells : cells + 1 ≤ R.cells) (hslots : slots + N ≤ R.slots) (hdg : decode cc pc = .ok (.new index, 3))
    (kk : ∀ (q : Nat) (H1 : Heap), gH D cl (gu ad n q) (fun n' => dm n' ∨ n' = n) (gu V n (.inr (ci, fs))) A H1 → va_S A H0 H1 locs → W p l e R s m args below meth c H1 locs (cells + 1) (slots + N) Q (F0 m (pc + 3) ls (.ref q :: rest))) : W p l e R s m args below meth c H locs cells slots Q (F0 m pc ls rest) := by
  obtain ⟨L, hL, hP, hD⟩ := hH
  exact va_new hx hb hts hin ty hty hown hcl hinst hini hK hP hD hS hA hc hfs hcells hslots hdg (fun q H1 h1 h2 h3 => kk q H1 (gWs_push hL hn h1 h2) h3)
theorem gx_newa (hx : p.tables.exec = Jvm.exec) (hb : c.code = cc) {atype : ArrayType} (harr : (Cond.arrayClass (newarray.typeOf atype)).before args s = true) {ty : FieldType} (hty : newarray.typeOf atype = ty) (hK : va_K D cl tys s) (hH : gH D cl ad dm V A H) (hS : va_S A H0 H locs) (hA : ∀ q, H0.size ≤ q → A q) (n : gN) (hn : ¬ dm n) (t0 : Nat) {cA0 : ClassId} (ht : tys[t0]? = some (cA0, ty)) (hu : ∀ cA : ClassId, va_RA s cA ty → va_RA s cA0 ty → cA = cA0) {i : Int32} {N' : Nat} {a0 : vp_A} (ha : ∀ cA : ClassId, vp_cell cA a0 = arrV cA N' (fun _ => defaultValue ty)) (hi : ¬ i < 0) (hN : i.toNatClampNeg = N') (hbytes : N' * componentBytes ty ≤ 536870912) (hcells : cells + 1 ≤ R.cells) (hslots : slots + N' ≤ R.slots) (hdg : decode cc pc = .ok (.newarray atype, 2))
    (kk : ∀ (q : Nat) (H1 : Heap), gH D cl (gu ad n q) (fun n' => dm n' ∨ n' = n) (gu V n (.inl (cA0, a0))) A H1 → va_S A H0 H1 locs → W p l e R s m args below meth c H1 locs (cells + 1) (slots + N') Q (F0 m (pc + 2) ls (.ref q :: rest))) : W p l e R s m args below meth c H locs cells slots Q (F0 m pc ls (.int i :: rest)) := by
  obtain ⟨L, hL, hP, hD⟩ := hH
  refine va_newa hx hb harr hty hK hP hD hS hA ha hi hN hbytes hcells hslots hdg (fun q cA H1 hK1 h1 h2 h3 => ?_)
  have hcA : cA = cA0 := hu cA (hK1.2 tys.length (cA, ty) (by simp)).2 (hK.2 t0 _ ht).2
  subst hcA
  exact kk q H1 (gWs_push hL hn h1 h2) h3
theorem gx_newq (hx : p.tables.exec = Jvm.exec) (hb : c.code = cc) {own C : String} {index : Nat} (hown : s.vm.findClass own = some m.cls) (hclink : (Cond.classLink own index C).before args s = true) (hover : va_AO C s) (hK : va_K D cl tys s) (hH : gH D cl ad dm V A H) (hS : va_S A H0 H locs) (hA : ∀ q, H0.size ≤ q → A q) (n : gN) (hn : ¬ dm n) (t0 : Nat) {cA0 : ClassId} (ht : tys[t0]? = some (cA0, .object C)) {i : Int32} {N' : Nat} (hi : ¬ i < 0) (hN : i.toNatClampNeg = N') (hbytes : N' * 4 ≤ 536870912) (hcells : cells + 1 ≤ R.cells) (hslots : slots + N' ≤ R.slots) (hdg : decode cc pc = .ok (.anewarray index, 3))
    (kk : ∀ (q : Nat) (H1 : Heap), gH D cl (gu ad n q) (fun n' => dm n' ∨ n' = n) (gu V n (.inl (cA0, N', .inr (.inr (.inr (.inr (fun _ => none))))))) A H1 → va_S A H0 H1 locs → W p l e R s m args below meth c H1 locs (cells + 1) (slots + N') Q (F0 m (pc + 3) ls (.ref q :: rest))) : W p l e R s m args below meth c H locs cells slots Q (F0 m pc ls (.int i :: rest)) := by
  obtain ⟨L, hL, hP, hD⟩ := hH
  refine va_newq hx hb hown hclink hover hK hP hD hS hA hi hN hbytes hcells hslots hdg (fun q cA H1 hK1 h1 h2 h3 => ?_)
  have hcA : cA = cA0 := by
    obtain ⟨_, _, _, _, _, e1⟩ := (hK1.2 tys.length (cA, .object C) (by simp)).2
    obtain ⟨_, _, _, _, _, e2⟩ := (hK.2 t0 _ ht).2
    exact Option.some.inj (e1.symm.trans e2)
  subst hcA
  exact kk q H1 (gWs_push hL hn h1 h2) h3
end GROW
end
section
/-! the state: all ints by name and slot, the places, what is loaded; the cells that they stand for -/
abbrev gI : Type := gN → Nat → Int32
abbrev gP : Type := Nat → Nat → Option Nat
def iu (I : gI) (n : gN) (f : Nat) (x : Int32) : gI := fun n' => if n' = n then upd (I n') f x else I n'
def pu (P : gP) (g a : Nat) (x : Option Nat) : gP := fun g' => if g' = g then va_up (P g') a x else P g'
theorem iu_s (I : gI) (n : gN) (f : Nat) (x : Int32) : iu I n f x n = upd (I n) f x := by simp [iu]
theorem iu_n (I : gI) {n n' : gN} (f : Nat) (x : Int32) (h : n' ≠ n) : iu I n f x n' = I n' := by simp [iu, h]
theorem pu_s (P : gP) (g a : Nat) (x : Option Nat) : pu P g a x g = va_up (P g) a x := by simp [pu]
theorem pu_n (P : gP) {g g' : Nat} (a : Nat) (x : Option Nat) (h : g' ≠ g) : pu P g a x g' = P g' := by simp [pu, h]
theorem iu_at (I : gI) (n n' : gN) (f f' : Nat) (x : Int32) : iu I n f x n' f' = if n' = n ∧ f' = f then x else I n' f' := by
  by_cases h : n' = n
  · subst h
    simp [iu_s, upd]
  · simp [iu_n _ _ _ h, h]
theorem pu_at (P : gP) (g g' a a' : Nat) (x : Option Nat) : pu P g a x g' a' = if g' = g ∧ a' = a then x else P g' a' := by
  by_cases h : g' = g
  · subst h
    simp [pu_s, va_up]
  · simp [pu_n _ _ _ h, h]
def mlen : Nat → Nat
  | 0 => 96
  | 4 => 24
  | 10 => 56
  | 11 => 14
  | 12 => 14
  | 15 => 4
  | 8 => 7
  | 9 => 7
  | _ => 24
abbrev gRa (f : Nat → Option Nat) : (Nat → Int32) ⊕ (Nat → Int64) ⊕ (Nat → UInt32) ⊕ (Nat → UInt64) ⊕ (Nat → Option Nat) := .inr (.inr (.inr (.inr f)))
/-- what the cell of a name holds: r its own ints -/
def gE (c : Nat → ClassId) (ad : gN → Nat) (k : Nat) (r t : Nat → Int32) (P : gP) (LG : Option Nat) (LP : Option (Nat × Nat)) (n : gN) : va_E := match n with
  | (0, _, _) => .inr (0, [.ref (ad (1, 0, 0)), .ref (ad (4, 0, 0)), .ref (ad (5, 0, 0)), .int (r 3), .int (r 4), .int (r 5), va_rf (LG.map fun g => ad (6, g, 0)), va_rf (LP.map fun q => ad (9, q.1, q.2))])
  | (1, _, _) => .inl (c 2, 24, gRa (fun p => some (ad (2, p, 0))))
  | (2, p, _) => .inr (1, [.ref (ad (3, p, 0)), .int (r 1), .int (r 2), .int (r 3), .int (r 4), .int (r 5)])
  | (3, _, _) => .inl (c 0, 4, .inl r)
  | (4, _, _) => .inl (c 3, 6, gRa (fun g => if g < k then some (ad (6, g, 0)) else none))
  | (5, _, _) => .inl (c 0, 4, .inl r)
  | (6, g, _) => .inr (2, [.int (r 0), .ref (ad (7, g, 0)), .ref (ad (8, g, 0)), .int (r 3), .int (r 4), .int (r 5)])
  | (7, g, _) => .inl (c 2, 64, gRa (fun a => (P g a).map fun p => ad (2, p, 0)))
  | (8, g, _) => .inl (c 4, 2, gRa (fun v => some (ad (9, g, v))))
  | (9, g, v) => .inr (3, [.ref (ad (10, g, v)), .int (r 1), .int (r 2), .int (r 3)])
  | (10, _, _) => .inl (c 0, 4, .inl r)
  | (11, _, _) => .inr (4, [.ref (ad (12, 0, 0)), .ref (ad (12, 1, 0)), .ref (ad (12, 2, 0)), .ref (ad (12, 3, 0)), .ref (ad (12, 4, 0)), .ref (ad (13, 5, 0)), .ref (ad (13, 6, 0)), .int (t 7), .ref (ad (13, 8, 0)), .ref (ad (13, 9, 0)), .ref (ad (12, 10, 0)), .ref (ad (12, 11, 0)), .ref (ad (12, 12, 0)), .int (t 13), .int (t 14), .ref (ad (12, 15, 0)), .int (t 16)])
  | (12, f, _) => .inl (c 0, mlen f, .inl t)
  | (13, f, _) => .inl (c 1, mlen f, .inl t)
  | _ => .inr (0, [])
def gV (c : Nat → ClassId) (ad : gN → Nat) (k : Nat) (I J : gI) (P : gP) (LG : Option Nat) (LP : Option (Nat × Nat)) : gN → va_E := fun n => gE c ad k (I n) (J n) P LG LP n
/-- which names there are, with k guests -/
def gD (k : Nat) (n : gN) : Prop := match n with
  | (0, i, j) => i = 0 ∧ j = 0
  | (1, i, j) => i = 0 ∧ j = 0
  | (2, p, j) => p < 24 ∧ j = 0
  | (3, p, j) => p < 24 ∧ j = 0
  | (4, i, j) => i = 0 ∧ j = 0
  | (5, i, j) => i = 0 ∧ j = 0
  | (6, g, j) => g < k ∧ j = 0
  | (7, g, j) => g < k ∧ j = 0
  | (8, g, j) => g < k ∧ j = 0
  | (9, g, v) => g < k ∧ v < 2
  | (10, g, v) => g < k ∧ v < 2
  | (11, i, j) => i = 0 ∧ j = 0
  | (12, f, j) => (f ≤ 4 ∨ f = 10 ∨ f = 11 ∨ f = 12 ∨ f = 15) ∧ j = 0
  | (13, f, j) => (f = 5 ∨ f = 6 ∨ f = 8 ∨ f = 9) ∧ j = 0
  | _ => False
abbrev gA (sz : Nat) : Nat → Prop := fun q => sz ≤ q
abbrev gTy (c : Nat → ClassId) : List (ClassId × FieldType) := [(c 0, .int), (c 1, .boolean), (c 2, .object "GuestKeeper$Page"), (c 3, .object "GuestKeeper$Guest"), (c 4, .object "GuestKeeper$Processor")]
def gW (D : va_G) (c : Nat → ClassId) (sz : Nat) (ad : gN → Nat) (k : Nat) (I J : gI) (P : gP) (LG : Option Nat) (LP : Option (Nat × Nat)) (H : Heap) : Prop := gH D vwCl ad (gD k) (gV c ad k I J P LG LP) (gA sz) H
/-- what the tables say besides: two constructors of nest mates, three classes of arrays -/
def gNw (U : State) : Prop := va_Nw (.methodLinkNest RK 15 yP_init "GuestKeeper") U ∧ va_Nw (.methodLinkNest RG 31 yR_init "GuestKeeper") U ∧ va_AO "GuestKeeper$Page" U ∧ va_AO "GuestKeeper$Guest" U ∧ va_AO "GuestKeeper$Processor" U
def gK (D : va_G) (c : Nat → ClassId) (U : State) : Prop := va_K D vwCl (gTy c) U ∧ gNw U
theorem gK.moved {D : va_G} {c : Nat → ClassId} {s U : State} (hW : s.WarmedH U.vm) (h : gK D c s) : gK D c U := ⟨va_K.moved hW.alike h.1, va_Nw.warmM hW h.2.1, va_Nw.warmM hW h.2.2.1, h.2.2.2.1.moved hW.alike, h.2.2.2.2.1.moved hW.alike, h.2.2.2.2.2.moved hW.alike⟩
theorem gK.calling {D : va_G} {c : Nat → ClassId} {U : State} {g : JFrame} {mk : MethodId} {a : Array Value} (h : gK D c U) : gK D c (U.calling g mk a) := ⟨va_K.moved (u := U) (U := U.calling g mk a) (Vm.Alike.refl U.vm) h.1, va_Nw.same rfl rfl h.2.1, va_Nw.same rfl rfl h.2.2.1, va_AO.moved (u := U) (U := U.calling g mk a) (Vm.Alike.refl U.vm) h.2.2.2.1, va_AO.moved (u := U) (U := U.calling g mk a) (Vm.Alike.refl U.vm) h.2.2.2.2.1, va_AO.moved (u := U) (U := U.calling g mk a) (Vm.Alike.refl U.vm) h.2.2.2.2.2⟩
/-- the state as one thing: addresses, guests, ints, places, loaded guest and processor -/
abbrev gT : Type := (gN → Nat) × Nat × gI × gI × gP × Option Nat × Option (Nat × Nat)
def gB (D : va_G) (c : Nat → ClassId) (sz : Nat) (u : gT) (U : State) : Prop := gK D c U ∧ gW D c sz u.1 u.2.1 u.2.2.1 u.2.2.2.1 u.2.2.2.2.1 u.2.2.2.2.2.1 u.2.2.2.2.2.2 U.heap
abbrev gPre (D : va_G) (c : Nat → ClassId) (sz : Nat) (av : List Value) (u : gT) : Array Value → State → Prop := va_Pc av (gB D c sz u)
theorem gPre.blind {D : va_G} {c : Nat → ClassId} {sz : Nat} {av : List Value} {u : gT} : FrameBlind (gPre D c sz av u) := fun a U g mk h => ⟨h.1, h.2.1.calling, h.2.2⟩
theorem gPre.S {D : va_G} {c : Nat → ClassId} {sz : Nat} {ad : gN → Nat} {k : Nat} {I J : gI} {P : gP} {LG : Option Nat} {LP : Option (Nat × Nat)} {s : State} {H : Heap} {av : List Value} (hK : gK D c s) (hH : gW D c sz ad k I J P LG LP H) : PreS s H (gPre D c sz av (ad, k, I, J, P, LG, LP)) av := ⟨gPre.blind, fun U hU hW => ⟨rfl, hK.moved hW, by rw [hU]; exact hH⟩⟩
theorem gPre.V {D : va_G} {c : Nat → ClassId} {sz : Nat} {ad : gN → Nat} {k : Nat} {I J : gI} {P : gP} {LG : Option Nat} {LP : Option (Nat × Nat)} {s : State} {H : Heap} {As : List Value} {n : gN} {ci : Nat} {q : vw_C} {fs : List Value} (hK : gK D c s) (hH : gW D c sz ad k I J P LG LP H) (hn : gD k n) (he : gV c ad k I J P LG LP n = .inr (ci, fs)) (hc : vwCl[ci]? = some q) : PreV s H q.1 (ad n) (gPre D c sz (.ref (ad n) :: As) (ad, k, I, J, P, LG, LP)) As := ⟨gPre.blind, va_recv hK.1 (gH.one hH hn he) hc (q0 := 0) rfl, fun U hU hW => ⟨rfl, hK.moved hW, by rw [hU]; exact hH⟩⟩
/-- an int of the state changes -/
theorem gW.up {D : va_G} {c : Nat → ClassId} {sz : Nat} {ad : gN → Nat} {k : Nat} {I J : gI} {P : gP} {LG : Option Nat} {LP : Option (Nat × Nat)} {H : Heap} {n : gN} {e : va_E} (f : Nat) (x : Int32) (hH : gH D vwCl ad (gD k) (gu (gV c ad k I J P LG LP) n e) (gA sz) H) (he : gE c ad k (upd (I n) f x) (J n) P LG LP n = e) : gW D c sz ad k (iu I n f x) J P LG LP H := by
  refine gH.congr hH (fun _ => Iff.rfl) (fun _ _ => rfl) (fun n' _ => ?_)
  by_cases h : n' = n
  · subst h
    rw [gu_s, ← he]
    simp only [gV, iu_s]
  · rw [gu_n _ _ h]
    simp only [gV, iu_n _ _ _ h]
theorem gW.upJ {D : va_G} {c : Nat → ClassId} {sz : Nat} {ad : gN → Nat} {k : Nat} {I J : gI} {P : gP} {LG : Option Nat} {LP : Option (Nat × Nat)} {H : Heap} {n : gN} {e : va_E} (f : Nat) (x : Int32) (hH : gH D vwCl ad (gD k) (gu (gV c ad k I J P LG LP) n e) (gA sz) H) (he : gE c ad k (I n) (upd (J n) f x) P LG LP n = e) : gW D c sz ad k I (iu J n f x) P LG LP H := by
  refine gH.congr hH (fun _ => Iff.rfl) (fun _ _ => rfl) (fun n' _ => ?_)
  by_cases h : n' = n
  · subst h
    rw [gu_s, ← he]
    simp only [gV, iu_s]
  · rw [gu_n _ _ h]
    simp only [gV, iu_n _ _ _ h]
/-- a place of a guest changes -/
theorem gW.upP {D : va_G} {c : Nat → ClassId} {sz : Nat} {ad : gN → Nat} {k : Nat} {I J : gI} {P : gP} {LG : Option Nat} {LP : Option (Nat × Nat)} {H : Heap} {g : Nat} (j : Nat) (o : Option Nat) (hH : gH D vwCl ad (gD k) (gu (gV c ad k I J P LG LP) (7, g, 0) (.inl (c 2, 64, gRa (va_up (fun a => (P g a).map fun p => ad (2, p, 0)) j (o.map fun p => ad (2, p, 0)))))) (gA sz) H) : gW D c sz ad k I J (pu P g j o) LG LP H := by
  refine gH.congr hH (fun _ => Iff.rfl) (fun _ _ => rfl) (fun n' hn => ?_)
  by_cases h : n' = (7, g, 0)
  · subst h
    rw [gu_s]
    show (Sum.inl (c 2, 64, gRa (fun a => (pu P g j o g a).map fun p => ad (2, p, 0))) : va_E) = _
    congr 4
    funext a
    rw [pu_s]
    by_cases ha : a = j
    · subst ha; simp [va_up]
    · simp [va_up, ha]
  · rw [gu_n _ _ h]
    obtain ⟨a, b, d⟩ := n'
    by_cases h7 : a = 7
    · subst h7
      have hd : d = 0 := hn.2
      subst hd
      have hb : b ≠ g := fun q => h (by rw [q])
      show (Sum.inl (c 2, 64, gRa (fun a => (pu P g j o b a).map fun p => ad (2, p, 0))) : va_E) = Sum.inl (c 2, 64, gRa (fun a => (P b a).map fun p => ad (2, p, 0)))
      rw [pu_n _ _ _ hb]
    · match a, h7 with
      | 0, _ => rfl
      | 1, _ => rfl
      | 2, _ => rfl
      | 3, _ => rfl
      | 4, _ => rfl
      | 5, _ => rfl
      | 6, _ => rfl
      | 8, _ => rfl
      | 9, _ => rfl
      | 10, _ => rfl
      | 11, _ => rfl
      | 12, _ => rfl
      | 13, _ => rfl
      | a + 14, _ => exact hn.elim
/-- what is loaded changes -/
theorem gW.upL {D : va_G} {c : Nat → ClassId} {sz : Nat} {ad : gN → Nat} {k : Nat} {I J : gI} {P : gP} {LG LG' : Option Nat} {LP LP' : Option (Nat × Nat)} {H : Heap} {e : va_E} (hH : gH D vwCl ad (gD k) (gu (gV c ad k I J P LG LP) (0, 0, 0) e) (gA sz) H) (he : gE c ad k (I (0, 0, 0)) (J (0, 0, 0)) P LG' LP' (0, 0, 0) = e) : gW D c sz ad k I J P LG' LP' H := by
  refine gH.congr hH (fun _ => Iff.rfl) (fun _ _ => rfl) (fun n' hn => ?_)
  by_cases h : n' = (0, 0, 0)
  · subst h
    rw [gu_s, ← he]
    rfl
  · rw [gu_n _ _ h]
    obtain ⟨a, b, d⟩ := n'
    match a with
      | 0 => exact absurd (by rw [hn.1, hn.2]) h
      | 1 => rfl
      | 2 => rfl
      | 3 => rfl
      | 4 => rfl
      | 5 => rfl
      | 6 => rfl
      | 7 => rfl
      | 8 => rfl
      | 9 => rfl
      | 10 => rfl
      | 11 => rfl
      | 12 => rfl
      | 13 => rfl
      | a + 14 => exact hn.elim
def bz (c : Prop) [Decidable c] : Int32 := if c then 1 else 0
theorem bz_t {c : Prop} [Decidable c] (h : c) : bz c = 1 := if_pos h
theorem bz_f {c : Prop} [Decidable c] (h : ¬ c) : bz c = 0 := if_neg h
theorem bz_01 (c : Prop) [Decidable c] : bz c = 0 ∨ bz c = 1 := by
  by_cases h : c
  · exact Or.inr (bz_t h)
  · exact Or.inl (bz_f h)
theorem bz_0 {c : Prop} [Decidable c] : bz c = 0 ↔ ¬ c := by
  by_cases h : c
  · simp [bz, h]
  · simp [bz, h]
theorem bz_1 {c : Prop} [Decidable c] : bz c = 1 ↔ c := by
  by_cases h : c
  · simp [bz, h]
  · simp [bz, h]
theorem nar01 {x : Int32} (h : x = 0 ∨ x = 1) : narrow .boolean (.int x) = .int x := by rcases h with rfl | rfl <;> rfl
theorem fit01 {x : Int32} (h : x = 0 ∨ x = 1) : fits .boolean (.int x) = true := by rcases h with rfl | rfl <;> rfl
section GS
variable {p : Program} {l : Launch} {e : Env} {R : Room} {s : State} {m : MethodId} {args : Array Value} {below : List Frame} {meth : Method} {cd : Code} {H : Heap} {locs : List Loc} {cells slots : Nat} {Q : State → Prop}
variable {cc : ByteArray} {pc : Nat} {ls : Array Slot} {rest st0 : List Value} {D : va_G} {c : Nat → ClassId} {sz : Nat} {H0 : Heap} {ad : gN → Nat} {k : Nat} {I J : gI} {P : gP} {LG : Option Nat} {LP : Option (Nat × Nat)} {n : gN} {mc ms : Nat} {av : Array Value}
theorem s_get (hx : p.tables.exec = Jvm.exec) (hb : cd.code = cc) {own ref C : String} {T : u_T} {N ci index : Nat} {Ts : List Cond} (hts : ∀ w ∈ Ts, w.before args s = true) (hin : ∀ w ∈ u_ws C T N, w ∈ Ts) (hown : s.vm.findClass own = some m.cls) (hK : gK D c s) (hH : gW D c sz ad k I J P LG LP H) (f : Nat) (hf : f < N) (hlink : (Cond.fieldLink own index ref (T f).2.1 (T f).2.2.1).before args s = true) (hn : gD k n) {fs : List Value} (he : gV c ad k I J P LG LP n = .inr (ci, fs)) (hc : vwCl[ci]? = some (C, T, N)) (href : (T f).1 = ref) {v : Value} (hv : fs[f]? = some v) (hdg : decode cc pc = .ok (.getfield index, 3))
    (kk : W p l e R s m args below meth cd H locs cells slots Q (F0 m (pc + 3) ls (v :: rest))) : W p l e R s m args below meth cd H locs cells slots Q (F0 m pc ls (.ref (ad n) :: rest)) :=
  gx_get hx hb hts hin hown hK.1 hH hn he hc f hf hlink (fun x h => by rw [← href]; exact h) hv hdg kk
/-- an int field -/
theorem s_put (hx : p.tables.exec = Jvm.exec) (hb : cd.code = cc) {own ref C : String} {T : u_T} {N ci index : Nat} {Ts : List Cond} (hts : ∀ w ∈ Ts, w.before args s = true) (hin : ∀ w ∈ u_ws C T N, w ∈ Ts) {ty0 : Nat → FieldType} (hty : ∀ k, k < N → parseFieldDescriptor (T k).2.2.1 = some (ty0 k)) (hnm : ∀ a, a < N → ∀ b, b < N → a ≠ b → (T a).2.1 ≠ (T b).2.1) (hown : s.vm.findClass own = some m.cls) (hK : gK D c s) (hH : gW D c sz ad k I J P LG LP H) (hS : va_S (gA sz) H0 H locs) (f : Nat) (hf : f < N) (hlink : (Cond.fieldLink own index ref (T f).2.1 (T f).2.2.1).before args s = true) (hn : gD k n) {fs : List Value} (he : gV c ad k I J P LG LP n = .inr (ci, fs)) (hc : vwCl[ci]? = some (C, T, N)) (href : (T f).1 = ref) (hfin : (T f).2.2.2 = false) {ty : FieldType} {x : Int32} (hd : ty0 f = ty) (hnr : narrow ty (.int x) = .int x) (hfit : fits ty (.int x) = true) (hl : f < fs.length) (hset : gE c ad k (upd (I n) f x) (J n) P LG LP n = .inr (ci, fs.set f (.int x))) (hdg : decode cc pc = .ok (.putfield index, 3))
    (kk : ∀ (H1 : Heap) (locs1 : List Loc), gW D c sz ad k (iu I n f x) J P LG LP H1 → va_S (gA sz) H0 H1 locs1 → W p l e R s m args below meth cd H1 locs1 cells slots Q (F0 m (pc + 3) ls rest)) : W p l e R s m args below meth cd H locs cells slots Q (F0 m pc ls (.int x :: .ref (ad n) :: rest)) :=
  gx_put hx hb hts hin ty0 hty hnm hown hK.1 hH hS hn he hc f hf hlink (fun x h => by rw [← href]; exact h) hfin (by rw [← hd]; exact hty f hf) hnr hfit hl hdg (fun H1 locs1 h1 h2 => kk H1 locs1 (gW.up f x h1 hset) h2)
theorem m_put (hx : p.tables.exec = Jvm.exec) (hb : cd.code = cc) {own ref C : String} {T : u_T} {N ci index : Nat} {Ts : List Cond} (hts : ∀ w ∈ Ts, w.before args s = true) (hin : ∀ w ∈ u_ws C T N, w ∈ Ts) {ty0 : Nat → FieldType} (hty : ∀ k, k < N → parseFieldDescriptor (T k).2.2.1 = some (ty0 k)) (hnm : ∀ a, a < N → ∀ b, b < N → a ≠ b → (T a).2.1 ≠ (T b).2.1) (hown : s.vm.findClass own = some m.cls) (hK : gK D c s) (hH : gW D c sz ad k I J P LG LP H) (hS : va_S (gA sz) H0 H locs) (f : Nat) (hf : f < N) (hlink : (Cond.fieldLink own index ref (T f).2.1 (T f).2.2.1).before args s = true) (hn : gD k n) {fs : List Value} (he : gV c ad k I J P LG LP n = .inr (ci, fs)) (hc : vwCl[ci]? = some (C, T, N)) (href : (T f).1 = ref) (hfin : (T f).2.2.2 = false) {ty : FieldType} {x : Int32} (hd : ty0 f = ty) (hnr : narrow ty (.int x) = .int x) (hfit : fits ty (.int x) = true) (hl : f < fs.length) (hset : gE c ad k (I n) (upd (J n) f x) P LG LP n = .inr (ci, fs.set f (.int x))) (hdg : decode cc pc = .ok (.putfield index, 3))
    (kk : ∀ (H1 : Heap) (locs1 : List Loc), gW D c sz ad k I (iu J n f x) P LG LP H1 → va_S (gA sz) H0 H1 locs1 → W p l e R s m args below meth cd H1 locs1 cells slots Q (F0 m (pc + 3) ls rest)) : W p l e R s m args below meth cd H locs cells slots Q (F0 m pc ls (.int x :: .ref (ad n) :: rest)) :=
  gx_put hx hb hts hin ty0 hty hnm hown hK.1 hH hS hn he hc f hf hlink (fun x h => by rw [← href]; exact h) hfin (by rw [← hd]; exact hty f hf) hnr hfit hl hdg (fun H1 locs1 h1 h2 => kk H1 locs1 (gW.upJ f x h1 hset) h2)
/-- loadedGuest, loadedProcessor -/
theorem s_putL (hx : p.tables.exec = Jvm.exec) (hb : cd.code = cc) {own ref C : String} {T : u_T} {N ci index : Nat} {Ts : List Cond} (hts : ∀ w ∈ Ts, w.before args s = true) (hin : ∀ w ∈ u_ws C T N, w ∈ Ts) {ty0 : Nat → FieldType} (hty : ∀ k, k < N → parseFieldDescriptor (T k).2.2.1 = some (ty0 k)) (hnm : ∀ a, a < N → ∀ b, b < N → a ≠ b → (T a).2.1 ≠ (T b).2.1) (hown : s.vm.findClass own = some m.cls) (hK : gK D c s) (hH : gW D c sz ad k I J P LG LP H) (hS : va_S (gA sz) H0 H locs) (f : Nat) (hf : f < N) (hlink : (Cond.fieldLink own index ref (T f).2.1 (T f).2.2.1).before args s = true) {fs : List Value} (he : gV c ad k I J P LG LP (0, 0, 0) = .inr (ci, fs)) (hc : vwCl[ci]? = some (C, T, N)) (href : (T f).1 = ref) (hfin : (T f).2.2.2 = false) {ty : FieldType} {v : Value} (hd : ty0 f = ty) (hnr : narrow ty v = v) (hfit : fits ty v = true) (hl : f < fs.length) (LG' : Option Nat) (LP' : Option (Nat × Nat)) (hset : gE c ad k (I (0, 0, 0)) (J (0, 0, 0)) P LG' LP' (0, 0, 0) = .inr (ci, fs.set f v)) (hdg : decode cc pc = .ok (.putfield index, 3))
    (kk : ∀ (H1 : Heap) (locs1 : List Loc), gW D c sz ad k I J P LG' LP' H1 → va_S (gA sz) H0 H1 locs1 → W p l e R s m args below meth cd H1 locs1 cells slots Q (F0 m (pc + 3) ls rest)) : W p l e R s m args below meth cd H locs cells slots Q (F0 m pc ls (v :: .ref (ad (0, 0, 0)) :: rest)) :=
  gx_put hx hb hts hin ty0 hty hnm hown hK.1 hH hS (n := (0, 0, 0)) ⟨rfl, rfl⟩ he hc f hf hlink (fun x h => by rw [← href]; exact h) hfin (by rw [← hd]; exact hty f hf) hnr hfit hl hdg (fun H1 locs1 h1 h2 => kk H1 locs1 (gW.upL h1 hset) h2)
/-- an element of an int array -/
theorem s_iald (hx : p.tables.exec = Jvm.exec) (hb : cd.code = cc) (hK : gK D c s) (hH : gW D c sz ad k I J P LG LP H) (hn : gD k n) {N : Nat} (he : gV c ad k I J P LG LP n = .inl (c 0, N, .inl (I n))) {i : Int32} (j : Nat) (hi : i = nI j) (hj : j < N) (hN : N < 2 ^ 31) (hdg : decode cc pc = .ok (.iaload, 1))
    (kk : W p l e R s m args below meth cd H locs cells slots Q (F0 m (pc + 1) ls (.int (I n j) :: rest))) : W p l e R s m args below meth cd H locs cells slots Q (F0 m pc ls (.int i :: .ref (ad n) :: rest)) :=
  gx_iald hx hb hK.1 hH 0 hn he rfl j hi hj hN hdg kk
theorem m_iald (hx : p.tables.exec = Jvm.exec) (hb : cd.code = cc) (hK : gK D c s) (hH : gW D c sz ad k I J P LG LP H) (hn : gD k n) {N : Nat} (he : gV c ad k I J P LG LP n = .inl (c 0, N, .inl (J n))) {i : Int32} (j : Nat) (hi : i = nI j) (hj : j < N) (hN : N < 2 ^ 31) (hdg : decode cc pc = .ok (.iaload, 1))
    (kk : W p l e R s m args below meth cd H locs cells slots Q (F0 m (pc + 1) ls (.int (J n j) :: rest))) : W p l e R s m args below meth cd H locs cells slots Q (F0 m pc ls (.int i :: .ref (ad n) :: rest)) :=
  gx_iald hx hb hK.1 hH 0 hn he rfl j hi hj hN hdg kk
theorem m_zald (hx : p.tables.exec = Jvm.exec) (hb : cd.code = cc) (hK : gK D c s) (hH : gW D c sz ad k I J P LG LP H) (hn : gD k n) {N : Nat} (he : gV c ad k I J P LG LP n = .inl (c 1, N, .inl (J n))) {i : Int32} (j : Nat) (hi : i = nI j) (hj : j < N) (hN : N < 2 ^ 31) (hdg : decode cc pc = .ok (.baload, 1))
    (kk : W p l e R s m args below meth cd H locs cells slots Q (F0 m (pc + 1) ls (.int (J n j) :: rest))) : W p l e R s m args below meth cd H locs cells slots Q (F0 m pc ls (.int i :: .ref (ad n) :: rest)) :=
  gx_zald hx hb hK.1 hH 1 hn he rfl j hi hj hN hdg kk
theorem s_iast (hx : p.tables.exec = Jvm.exec) (hb : cd.code = cc) (hK : gK D c s) (hH : gW D c sz ad k I J P LG LP H) (hS : va_S (gA sz) H0 H locs) (hn : gD k n) {N : Nat} (he : gV c ad k I J P LG LP n = .inl (c 0, N, .inl (I n))) {i x : Int32} (j : Nat) (hi : i = nI j) (hj : j < N) (hN : N < 2 ^ 31) (hset : gE c ad k (upd (I n) j x) (J n) P LG LP n = .inl (c 0, N, .inl (upd (I n) j x))) (hdg : decode cc pc = .ok (.iastore, 1))
    (kk : ∀ (H1 : Heap) (locs1 : List Loc), gW D c sz ad k (iu I n j x) J P LG LP H1 → va_S (gA sz) H0 H1 locs1 → W p l e R s m args below meth cd H1 locs1 cells slots Q (F0 m (pc + 1) ls rest)) : W p l e R s m args below meth cd H locs cells slots Q (F0 m pc ls (.int x :: .int i :: .ref (ad n) :: rest)) :=
  gx_iast hx hb hK.1 hH hS 0 hn he rfl j hi hj hN hdg (fun H1 locs1 h1 h2 => kk H1 locs1 (gW.up j x h1 hset) h2)
theorem m_iast (hx : p.tables.exec = Jvm.exec) (hb : cd.code = cc) (hK : gK D c s) (hH : gW D c sz ad k I J P LG LP H) (hS : va_S (gA sz) H0 H locs) (hn : gD k n) {N : Nat} (he : gV c ad k I J P LG LP n = .inl (c 0, N, .inl (J n))) {i x : Int32} (j : Nat) (hi : i = nI j) (hj : j < N) (hN : N < 2 ^ 31) (hset : gE c ad k (I n) (upd (J n) j x) P LG LP n = .inl (c 0, N, .inl (upd (J n) j x))) (hdg : decode cc pc = .ok (.iastore, 1))
    (kk : ∀ (H1 : Heap) (locs1 : List Loc), gW D c sz ad k I (iu J n j x) P LG LP H1 → va_S (gA sz) H0 H1 locs1 → W p l e R s m args below meth cd H1 locs1 cells slots Q (F0 m (pc + 1) ls rest)) : W p l e R s m args below meth cd H locs cells slots Q (F0 m pc ls (.int x :: .int i :: .ref (ad n) :: rest)) :=
  gx_iast hx hb hK.1 hH hS 0 hn he rfl j hi hj hN hdg (fun H1 locs1 h1 h2 => kk H1 locs1 (gW.upJ j x h1 hset) h2)
theorem m_zast (hx : p.tables.exec = Jvm.exec) (hb : cd.code = cc) (hK : gK D c s) (hH : gW D c sz ad k I J P LG LP H) (hS : va_S (gA sz) H0 H locs) (hn : gD k n) {N : Nat} (he : gV c ad k I J P LG LP n = .inl (c 1, N, .inl (J n))) {i x : Int32} (j : Nat) (hi : i = nI j) (hj : j < N) (hN : N < 2 ^ 31) (h01 : x = 0 ∨ x = 1) (hset : gE c ad k (I n) (upd (J n) j x) P LG LP n = .inl (c 1, N, .inl (upd (J n) j x))) (hdg : decode cc pc = .ok (.bastore, 1))
    (kk : ∀ (H1 : Heap) (locs1 : List Loc), gW D c sz ad k I (iu J n j x) P LG LP H1 → va_S (gA sz) H0 H1 locs1 → W p l e R s m args below meth cd H1 locs1 cells slots Q (F0 m (pc + 1) ls rest)) : W p l e R s m args below meth cd H locs cells slots Q (F0 m pc ls (.int x :: .int i :: .ref (ad n) :: rest)) :=
  gx_zast hx hb hK.1 hH hS 1 hn he rfl j hi hj hN h01 hdg (fun H1 locs1 h1 h2 => kk H1 locs1 (gW.upJ j x h1 hset) h2)
/-- pages[j] -/
theorem s_aaP (hx : p.tables.exec = Jvm.exec) (hb : cd.code = cc) (hK : gK D c s) (hH : gW D c sz ad k I J P LG LP H) {i : Int32} (j : Nat) (hi : i = nI j) (hj : j < 24) (hdg : decode cc pc = .ok (.aaload, 1))
    (kk : W p l e R s m args below meth cd H locs cells slots Q (F0 m (pc + 1) ls (.ref (ad (2, j, 0)) :: rest))) : W p l e R s m args below meth cd H locs cells slots Q (F0 m pc ls (.int i :: .ref (ad (1, 0, 0)) :: rest)) :=
  gx_aald hx hb hK.1 hH 2 (n := (1, 0, 0)) ⟨rfl, rfl⟩ rfl rfl j hi hj (by decide) hdg kk
/-- guests[j] -/
theorem s_aaG (hx : p.tables.exec = Jvm.exec) (hb : cd.code = cc) (hK : gK D c s) (hH : gW D c sz ad k I J P LG LP H) {i : Int32} (j : Nat) (hi : i = nI j) (hj : j < 6) (hdg : decode cc pc = .ok (.aaload, 1))
    (k1 : j < k → W p l e R s m args below meth cd H locs cells slots Q (F0 m (pc + 1) ls (.ref (ad (6, j, 0)) :: rest))) (k0 : ¬ j < k → W p l e R s m args below meth cd H locs cells slots Q (F0 m (pc + 1) ls (.null :: rest))) : W p l e R s m args below meth cd H locs cells slots Q (F0 m pc ls (.int i :: .ref (ad (4, 0, 0)) :: rest)) := by
  refine gx_aald hx hb hK.1 hH 3 (n := (4, 0, 0)) ⟨rfl, rfl⟩ rfl rfl j hi hj (by decide) hdg ?_
  by_cases h : j < k
  · simp only [h, if_true]; exact k1 h
  · simp only [h, if_false]; exact k0 h
/-- places[j] -/
theorem s_aaL (hx : p.tables.exec = Jvm.exec) (hb : cd.code = cc) (hK : gK D c s) (hH : gW D c sz ad k I J P LG LP H) {g : Nat} (hg : g < k) {i : Int32} (j : Nat) (hi : i = nI j) (hj : j < 64) (hdg : decode cc pc = .ok (.aaload, 1))
    (k1 : ∀ q, P g j = some q → W p l e R s m args below meth cd H locs cells slots Q (F0 m (pc + 1) ls (.ref (ad (2, q, 0)) :: rest))) (k0 : P g j = none → W p l e R s m args below meth cd H locs cells slots Q (F0 m (pc + 1) ls (.null :: rest))) : W p l e R s m args below meth cd H locs cells slots Q (F0 m pc ls (.int i :: .ref (ad (7, g, 0)) :: rest)) := by
  refine gx_aald hx hb hK.1 hH 2 (n := (7, g, 0)) ⟨hg, rfl⟩ rfl rfl j hi hj (by decide) hdg ?_
  cases h : P g j with
  | none => exact k0 h
  | some q => exact k1 q h
/-- processors[j] -/
theorem s_aaR (hx : p.tables.exec = Jvm.exec) (hb : cd.code = cc) (hK : gK D c s) (hH : gW D c sz ad k I J P LG LP H) {g : Nat} (hg : g < k) {i : Int32} (j : Nat) (hi : i = nI j) (hj : j < 2) (hdg : decode cc pc = .ok (.aaload, 1))
    (kk : W p l e R s m args below meth cd H locs cells slots Q (F0 m (pc + 1) ls (.ref (ad (9, g, j)) :: rest))) : W p l e R s m args below meth cd H locs cells slots Q (F0 m pc ls (.int i :: .ref (ad (8, g, 0)) :: rest)) :=
  gx_aald hx hb hK.1 hH 4 (n := (8, g, 0)) ⟨hg, rfl⟩ rfl rfl j hi hj (by decide) hdg kk
/-- places[j] = a page, or null -/
theorem s_asL (hx : p.tables.exec = Jvm.exec) (hb : cd.code = cc) (hK : gK D c s) (hH : gW D c sz ad k I J P LG LP H) (hS : va_S (gA sz) H0 H locs) {g q : Nat} (hg : g < k) (hq : q < 24) {i : Int32} (j : Nat) (hi : i = nI j) (hj : j < 64) (hdg : decode cc pc = .ok (.aastore, 1))
    (kk : ∀ (H1 : Heap) (locs1 : List Loc), gW D c sz ad k I J (pu P g j (some q)) LG LP H1 → va_S (gA sz) H0 H1 locs1 → W p l e R s m args below meth cd H1 locs1 cells slots Q (F0 m (pc + 1) ls rest)) : W p l e R s m args below meth cd H locs cells slots Q (F0 m pc ls (.ref (ad (2, q, 0)) :: .int i :: .ref (ad (7, g, 0)) :: rest)) :=
  gx_aast hx hb hK.1 hH hS 2 1 (n := (7, g, 0)) (n' := (2, q, 0)) ⟨hg, rfl⟩ rfl rfl ⟨hq, rfl⟩ rfl rfl j hi hj (by decide) hdg (fun H1 locs1 h1 h2 => kk H1 locs1 (gW.upP j (some q) h1) h2)
theorem s_asN (hx : p.tables.exec = Jvm.exec) (hb : cd.code = cc) (hK : gK D c s) (hH : gW D c sz ad k I J P LG LP H) (hS : va_S (gA sz) H0 H locs) {g : Nat} (hg : g < k) {i : Int32} (j : Nat) (hi : i = nI j) (hj : j < 64) (hdg : decode cc pc = .ok (.aastore, 1))
    (kk : ∀ (H1 : Heap) (locs1 : List Loc), gW D c sz ad k I J (pu P g j none) LG LP H1 → va_S (gA sz) H0 H1 locs1 → W p l e R s m args below meth cd H1 locs1 cells slots Q (F0 m (pc + 1) ls rest)) : W p l e R s m args below meth cd H locs cells slots Q (F0 m pc ls (.null :: .int i :: .ref (ad (7, g, 0)) :: rest)) :=
  gx_aastN hx hb hK.1 hH hS 2 (n := (7, g, 0)) ⟨hg, rfl⟩ rfl rfl j hi hj (by decide) hdg (fun H1 locs1 h1 h2 => kk H1 locs1 (gW.upP j none h1) h2)
/-- behind a call -/
theorem s_ci {post : Int32 → gT → Prop} (hr : va_Run p l e R s m args below meth cd H locs cells slots mc ms (F0 m pc ls st0) rest (va_Qi post (gB D c sz) (gA sz) av) (gA sz)) (hS : va_S (gA sz) H0 H locs)
    (kk : ∀ (r : Int32) (u : gT) (H1 : Heap) (locs1 : List Loc), post r u → gW D c sz u.1 u.2.1 u.2.2.1 u.2.2.2.1 u.2.2.2.2.1 u.2.2.2.2.2.1 u.2.2.2.2.2.2 H1 → va_S (gA sz) H0 H1 locs1 → W p l e R s m args below meth cd H1 locs1 (cells + mc) (slots + ms) Q (F0 m (pc + 3) ls (.int r :: rest))) : W p l e R s m args below meth cd H locs cells slots Q (F0 m pc ls st0) :=
  va_calli hr hS (fun _ _ h => h) (fun _ h => h) (fun r u t H1 locs1 ht _ hp hB _ _ hS1 => kk r u H1 locs1 hp (by rw [← ht]; exact hB.2) hS1)
theorem s_cl {post : Int64 → gT → Prop} (hr : va_Run p l e R s m args below meth cd H locs cells slots mc ms (F0 m pc ls st0) rest (va_Ql post (gB D c sz) (gA sz) av) (gA sz)) (hS : va_S (gA sz) H0 H locs)
    (kk : ∀ (r : Int64) (u : gT) (H1 : Heap) (locs1 : List Loc), post r u → gW D c sz u.1 u.2.1 u.2.2.1 u.2.2.2.1 u.2.2.2.2.1 u.2.2.2.2.2.1 u.2.2.2.2.2.2 H1 → va_S (gA sz) H0 H1 locs1 → W p l e R s m args below meth cd H1 locs1 (cells + mc) (slots + ms) Q (F0 m (pc + 3) ls (.long r :: rest))) : W p l e R s m args below meth cd H locs cells slots Q (F0 m pc ls st0) :=
  va_calll hr hS (fun _ _ h => h) (fun _ h => h) (fun r u t H1 locs1 ht _ hp hB _ _ hS1 => kk r u H1 locs1 hp (by rw [← ht]; exact hB.2) hS1)
theorem s_cv {post : gT → Prop} (hr : va_Run p l e R s m args below meth cd H locs cells slots mc ms (F0 m pc ls st0) rest (va_Qv post (gB D c sz) (gA sz) av) (gA sz)) (hS : va_S (gA sz) H0 H locs)
    (kk : ∀ (u : gT) (H1 : Heap) (locs1 : List Loc), post u → gW D c sz u.1 u.2.1 u.2.2.1 u.2.2.2.1 u.2.2.2.2.1 u.2.2.2.2.2.1 u.2.2.2.2.2.2 H1 → va_S (gA sz) H0 H1 locs1 → W p l e R s m args below meth cd H1 locs1 (cells + mc) (slots + ms) Q (F0 m (pc + 3) ls rest)) : W p l e R s m args below meth cd H locs cells slots Q (F0 m pc ls st0) :=
  va_callv hr hS (fun _ _ h => h) (fun _ h => h) (fun u t H1 locs1 ht _ hp hB _ _ hS1 => kk u H1 locs1 hp (by rw [← ht]; exact hB.2) hS1)
theorem s_cq {post : Option Nat → gT → Prop} (hr : va_Run p l e R s m args below meth cd H locs cells slots mc ms (F0 m pc ls st0) rest (va_Qq post (gB D c sz) (gA sz) av) (gA sz)) (hS : va_S (gA sz) H0 H locs)
    (kk : ∀ (r : Option Nat) (u : gT) (H1 : Heap) (locs1 : List Loc), post r u → gW D c sz u.1 u.2.1 u.2.2.1 u.2.2.2.1 u.2.2.2.2.1 u.2.2.2.2.2.1 u.2.2.2.2.2.2 H1 → va_S (gA sz) H0 H1 locs1 → W p l e R s m args below meth cd H1 locs1 (cells + mc) (slots + ms) Q (F0 m (pc + 3) ls (va_rf r :: rest))) : W p l e R s m args below meth cd H locs cells slots Q (F0 m pc ls st0) :=
  va_callq hr hS (fun _ _ h => h) (fun _ h => h) (fun r u t H1 locs1 ht _ hp hB _ _ hS1 => kk r u H1 locs1 hp (by rw [← ht]; exact hB.2) hS1)
/-- behind a call whose end is known -/
theorem s_ciE {r0 : Int32} {ad' : gN → Nat} {k' : Nat} {I' J' : gI} {P' : gP} {LG' : Option Nat} {LP' : Option (Nat × Nat)} (hr : va_Run p l e R s m args below meth cd H locs cells slots mc ms (F0 m pc ls st0) rest (va_Qi (fun r u => r = r0 ∧ u = (ad', k', I', J', P', LG', LP')) (gB D c sz) (gA sz) av) (gA sz)) (hS : va_S (gA sz) H0 H locs)
    (kk : ∀ (H1 : Heap) (locs1 : List Loc), gW D c sz ad' k' I' J' P' LG' LP' H1 → va_S (gA sz) H0 H1 locs1 → W p l e R s m args below meth cd H1 locs1 (cells + mc) (slots + ms) Q (F0 m (pc + 3) ls (.int r0 :: rest))) : W p l e R s m args below meth cd H locs cells slots Q (F0 m pc ls st0) :=
  s_ci hr hS (fun r u H1 locs1 hp hH hS1 => by obtain ⟨rfl, rfl⟩ := hp; exact kk H1 locs1 hH hS1)
theorem s_clE {r0 : Int64} {ad' : gN → Nat} {k' : Nat} {I' J' : gI} {P' : gP} {LG' : Option Nat} {LP' : Option (Nat × Nat)} (hr : va_Run p l e R s m args below meth cd H locs cells slots mc ms (F0 m pc ls st0) rest (va_Ql (fun r u => r = r0 ∧ u = (ad', k', I', J', P', LG', LP')) (gB D c sz) (gA sz) av) (gA sz)) (hS : va_S (gA sz) H0 H locs)
    (kk : ∀ (H1 : Heap) (locs1 : List Loc), gW D c sz ad' k' I' J' P' LG' LP' H1 → va_S (gA sz) H0 H1 locs1 → W p l e R s m args below meth cd H1 locs1 (cells + mc) (slots + ms) Q (F0 m (pc + 3) ls (.long r0 :: rest))) : W p l e R s m args below meth cd H locs cells slots Q (F0 m pc ls st0) :=
  s_cl hr hS (fun r u H1 locs1 hp hH hS1 => by obtain ⟨rfl, rfl⟩ := hp; exact kk H1 locs1 hH hS1)
theorem s_cvE {ad' : gN → Nat} {k' : Nat} {I' J' : gI} {P' : gP} {LG' : Option Nat} {LP' : Option (Nat × Nat)} (hr : va_Run p l e R s m args below meth cd H locs cells slots mc ms (F0 m pc ls st0) rest (va_Qv (fun u => u = (ad', k', I', J', P', LG', LP')) (gB D c sz) (gA sz) av) (gA sz)) (hS : va_S (gA sz) H0 H locs)
    (kk : ∀ (H1 : Heap) (locs1 : List Loc), gW D c sz ad' k' I' J' P' LG' LP' H1 → va_S (gA sz) H0 H1 locs1 → W p l e R s m args below meth cd H1 locs1 (cells + mc) (slots + ms) Q (F0 m (pc + 3) ls rest)) : W p l e R s m args below meth cd H locs cells slots Q (F0 m pc ls st0) :=
  s_cv hr hS (fun u H1 locs1 hp hH hS1 => by subst hp; exact kk H1 locs1 hH hS1)
theorem s_cqE {o : Option Nat} {f : Nat → Nat} {ad' : gN → Nat} {k' : Nat} {I' J' : gI} {P' : gP} {LG' : Option Nat} {LP' : Option (Nat × Nat)} (hr : va_Run p l e R s m args below meth cd H locs cells slots mc ms (F0 m pc ls st0) rest (va_Qq (fun r u => r = o.map f ∧ u = (ad', k', I', J', P', LG', LP')) (gB D c sz) (gA sz) av) (gA sz)) (hS : va_S (gA sz) H0 H locs)
    (k0 : ∀ (H1 : Heap) (locs1 : List Loc), o = none → gW D c sz ad' k' I' J' P' LG' LP' H1 → va_S (gA sz) H0 H1 locs1 → W p l e R s m args below meth cd H1 locs1 (cells + mc) (slots + ms) Q (F0 m (pc + 3) ls (.null :: rest)))
    (k1 : ∀ (H1 : Heap) (locs1 : List Loc) (g : Nat), o = some g → gW D c sz ad' k' I' J' P' LG' LP' H1 → va_S (gA sz) H0 H1 locs1 → W p l e R s m args below meth cd H1 locs1 (cells + mc) (slots + ms) Q (F0 m (pc + 3) ls (.ref (f g) :: rest))) : W p l e R s m args below meth cd H locs cells slots Q (F0 m pc ls st0) :=
  s_cq hr hS (fun r u H1 locs1 hp hH hS1 => by
    obtain ⟨rfl, rfl⟩ := hp
    cases o with
    | none => exact k0 H1 locs1 rfl hH hS1
    | some g => exact k1 H1 locs1 g rfl hH hS1)
/-- a boolean on the stack is asked -/
theorem s_ifeq {q : Prop} [Decidable q] (hx : p.tables.exec = Jvm.exec) (hb : cd.code = cc) {off : Int} {tgt : Nat} (hdg : decode cc pc = .ok (.ifCond .eq off, 3)) (ht : (pc : Int) + off = (tgt : Int)) (kt : ¬ q → W p l e R s m args below meth cd H locs cells slots Q (F0 m tgt ls rest)) (kf : q → W p l e R s m args below meth cd H locs cells slots Q (F0 m (pc + 3) ls rest)) : W p l e R s m args below meth cd H locs cells slots Q (F0 m pc ls (.int (bz q) :: rest)) :=
  lv_if_eq hx hb hdg ht (fun h => kt (bz_0.mp h)) (fun h => kf (by by_cases z : q; exact z; exact absurd (bz_0.mpr z) h))
theorem s_ifne {q : Prop} [Decidable q] (hx : p.tables.exec = Jvm.exec) (hb : cd.code = cc) {off : Int} {tgt : Nat} (hdg : decode cc pc = .ok (.ifCond .ne off, 3)) (ht : (pc : Int) + off = (tgt : Int)) (kt : q → W p l e R s m args below meth cd H locs cells slots Q (F0 m tgt ls rest)) (kf : ¬ q → W p l e R s m args below meth cd H locs cells slots Q (F0 m (pc + 3) ls rest)) : W p l e R s m args below meth cd H locs cells slots Q (F0 m pc ls (.int (bz q) :: rest)) :=
  lv_if_ne hx hb hdg ht (fun h => kt (by by_cases z : q; exact z; exact absurd (bz_0.mpr z) h)) (fun h => kf (by by_cases z : q; exact absurd (bz_0.mp (by simpa using h)) (by simpa using z); exact z))
end GS
section GR
variable {p : Program} {l : Launch} {e : Env} {R : Room} {s : State} {m : MethodId} {args : Array Value} {below : List Frame} {meth : Method} {cd : Code} {H : Heap} {locs : List Loc} {cells slots : Nat}
variable {cc : ByteArray} {pc : Nat} {ls : Array Slot} {D : va_G} {c : Nat → ClassId} {sz : Nat} {ad : gN → Nat} {k : Nat} {I J : gI} {P : gP} {LG : Option Nat} {LP : Option (Nat × Nat)}
theorem r_i {post : Int32 → gT → Prop} {v : Int32} (hx : p.tables.exec = Jvm.exec) (hb : cd.code = cc) (hr : meth.sig.returnType = some .int) (hlocks : meth.locks = false) (hK : gK D c s) (hH : gW D c sz ad k I J P LG LP H) (hS : va_S (gA sz) s.heap H locs) (hdg : decode cc pc = .ok (.ireturn, 1)) (hp : post v (ad, k, I, J, P, LG, LP)) : W p l e R s m args below meth cd H locs cells slots (MQ below (va_Qi post (gB D c sz) (gA sz)) args s cells slots (gA sz)) (F0 m pc ls [.int v]) :=
  W.iret hx hb hr (fun t ht hW => ⟨⟨v, (ad, k, I, J, P, LG, LP), rfl, hp, hK.moved hW, by rw [ht]; exact hH⟩, hS.F ht⟩) hS.2.2 hdg hlocks
theorem r_z {post : Int32 → gT → Prop} {v : Int32} (hx : p.tables.exec = Jvm.exec) (hb : cd.code = cc) (hr : meth.sig.returnType = some .boolean) (hlocks : meth.locks = false) (hK : gK D c s) (hH : gW D c sz ad k I J P LG LP H) (hS : va_S (gA sz) s.heap H locs) (hdg : decode cc pc = .ok (.ireturn, 1)) (h01 : v = 0 ∨ v = 1) (hp : post v (ad, k, I, J, P, LG, LP)) : W p l e R s m args below meth cd H locs cells slots (MQ below (va_Qi post (gB D c sz) (gA sz)) args s cells slots (gA sz)) (F0 m pc ls [.int v]) :=
  W.zret hx hb hr (nar01 h01) (fun t ht hW => ⟨⟨v, (ad, k, I, J, P, LG, LP), rfl, hp, hK.moved hW, by rw [ht]; exact hH⟩, hS.F ht⟩) hS.2.2 hdg hlocks
theorem r_l {post : Int64 → gT → Prop} {v : Int64} (hx : p.tables.exec = Jvm.exec) (hb : cd.code = cc) (hr : meth.sig.returnType = some .long) (hlocks : meth.locks = false) (hK : gK D c s) (hH : gW D c sz ad k I J P LG LP H) (hS : va_S (gA sz) s.heap H locs) (hdg : decode cc pc = .ok (.lreturn, 1)) (hp : post v (ad, k, I, J, P, LG, LP)) : W p l e R s m args below meth cd H locs cells slots (MQ below (va_Ql post (gB D c sz) (gA sz)) args s cells slots (gA sz)) (F0 m pc ls [.long v]) :=
  W.lret hx hb hr (fun t ht hW => ⟨⟨v, (ad, k, I, J, P, LG, LP), rfl, hp, hK.moved hW, by rw [ht]; exact hH⟩, hS.F ht⟩) hS.2.2 hdg hlocks
theorem r_v {post : gT → Prop} (hx : p.tables.exec = Jvm.exec) (hb : cd.code = cc) (hr : meth.sig.returnType = none) (hlocks : meth.locks = false) (hK : gK D c s) (hH : gW D c sz ad k I J P LG LP H) (hS : va_S (gA sz) s.heap H locs) (hdg : decode cc pc = .ok (.return_, 1)) (hp : post (ad, k, I, J, P, LG, LP)) : W p l e R s m args below meth cd H locs cells slots (MQ below (va_Qv post (gB D c sz) (gA sz)) args s cells slots (gA sz)) (F0 m pc ls []) :=
  W.vret hx hb hr (fun t ht hW => ⟨⟨(ad, k, I, J, P, LG, LP), rfl, hp, hK.moved hW, by rw [ht]; exact hH⟩, hS.F ht⟩) hS.2.2 hdg hlocks
theorem r_q {post : Option Nat → gT → Prop} (o : Option Nat) {rt : FieldType} (hx : p.tables.exec = Jvm.exec) (hb : cd.code = cc) (hr : meth.sig.returnType = some rt) (hrt : (∃ n, rt = .object n) ∨ ∃ t, rt = .array t) (hlocks : meth.locks = false) (hK : gK D c s) (hH : gW D c sz ad k I J P LG LP H) (hS : va_S (gA sz) s.heap H locs) (hdg : decode cc pc = .ok (.areturn, 1)) (hp : post o (ad, k, I, J, P, LG, LP)) : W p l e R s m args below meth cd H locs cells slots (MQ below (va_Qq post (gB D c sz) (gA sz)) args s cells slots (gA sz)) (F0 m pc ls [va_rf o]) :=
  W.aret hx hb hr hrt (va_rf_or o) (fun t ht hW => ⟨⟨o, (ad, k, I, J, P, LG, LP), rfl, hp, hK.moved hW, by rw [ht]; exact hH⟩, hS.F ht⟩) hS.2.2 hdg hlocks
end GR
end
section
/-! what each method does, in the words of the state: the class's (s), the reference's (m) -/
abbrev kp : gN := (0, 0, 0)
abbrev pg (p : Nat) : gN := (2, p, 0)
abbrev wd (p : Nat) : gN := (3, p, 0)
abbrev hg : gN := (5, 0, 0)
abbrev gs (g : Nat) : gN := (6, g, 0)
abbrev pr (g v : Nat) : gN := (9, g, v)
abbrev rg (g v : Nat) : gN := (10, g, v)
abbrev mo : gN := (11, 0, 0)
abbrev ma (f : Nat) : gN := (12, f, 0)
abbrev mb (f : Nat) : gN := (13, f, 0)
abbrev ix (x : Int32) : Nat := x.toNatClampNeg
theorem ix_nI {j : Nat} (h : j < 2 ^ 31) : ix (nI j) = j := nI_clamp h
abbrev isP (x : Int32) : Prop := ¬ x < 0 ∧ ¬ 24 ≤ x
abbrev is4 (x : Int32) : Prop := ¬ x < 0 ∧ ¬ 4 ≤ x
theorem ix_lt {x : Int32} (N : Nat) (M : Int32) (hM : M = nI N) (hN : N < 2 ^ 31) (h0 : ¬ x < 0) (h : ¬ M ≤ x) : ∃ j, j < N ∧ x = nI j := by
  obtain ⟨j, hj, rfl⟩ := nI_of h0
  subst hM
  exact ⟨j, Nat.not_le.mp fun q => h ((nI_leI hN hj).mpr q), rfl⟩
theorem ix_le {x : Int32} (N : Nat) (M : Int32) (hM : M = nI N) (hN : N < 2 ^ 31) (h0 : ¬ x < 0) (h : x ≤ M) : ∃ j, j ≤ N ∧ x = nI j := by
  obtain ⟨j, hj, rfl⟩ := nI_of h0
  subst hM
  exact ⟨j, (nI_leI hj hN).mp h, rfl⟩
theorem isP_ix {x : Int32} (h : isP x) : ∃ j, j < 24 ∧ x = nI j := ix_lt 24 24 rfl (by decide) h.1 h.2
theorem is4_ix {x : Int32} (h : is4 x) : ∃ j, j < 4 ∧ x = nI j := ix_lt 4 4 rfl (by decide) h.1 h.2
theorem isP_nI {j : Nat} (h : j < 24) : isP (nI j) := ⟨nI_pos (by omega), fun q => absurd ((nI_leI (by decide) (by omega)).mp (show nI 24 ≤ nI j from q)) (by omega)⟩
theorem is4_nI {j : Nat} (h : j < 4) : is4 (nI j) := ⟨nI_pos (by omega), fun q => absurd ((nI_leI (by decide) (by omega)).mp (show nI 4 ≤ nI j from q)) (by omega)⟩
def anyB (f : Nat → Bool) : Nat → Bool
  | 0 => false
  | n + 1 => anyB f n || f n
def cntB (f : Nat → Bool) : Nat → Nat
  | 0 => 0
  | n + 1 => cntB f n + (if f n = true then 1 else 0)
theorem anyB_iff {f : Nat → Bool} {n : Nat} : anyB f n = true ↔ ∃ i, i < n ∧ f i = true := by
  induction n with
  | zero => simp [anyB]
  | succ n ih =>
    simp only [anyB, Bool.or_eq_true, ih]
    constructor
    · rintro (⟨i, h1, h2⟩ | h)
      · exact ⟨i, by omega, h2⟩
      · exact ⟨n, by omega, h⟩
    · rintro ⟨i, h1, h2⟩
      by_cases h : i = n
      · subst h; exact Or.inr h2
      · exact Or.inl ⟨i, by omega, h2⟩
theorem cntB_le (f : Nat → Bool) (n : Nat) : cntB f n ≤ n := by
  induction n with
  | zero => simp [cntB]
  | succ n ih =>
    simp only [cntB]
    split <;> omega
theorem cntB_congr {f g : Nat → Bool} {n : Nat} (h : ∀ i, i < n → f i = g i) : cntB f n = cntB g n := by
  induction n with
  | zero => rfl
  | succ n ih => simp only [cntB]; rw [ih (fun i hi => h i (by omega)), h n (by omega)]
-- the class
abbrev sOpen (I : gI) (p : Nat) : Prop := I (pg p) 1 = 0 ∨ ¬ I (pg p) 4 = 0
def sWipe (I : gI) (p : Nat) : gI := iu (iu (iu (iu I (wd p) 0 0) (wd p) 1 0) (wd p) 2 0) (wd p) 3 0
def sShare (I : gI) (p : Nat) (x : Int32) : gI := if sOpen (iu I (pg p) 4 x) p then iu I (pg p) 4 x else iu (iu I (pg p) 4 x) (pg p) 5 0
def sOwn (I : gI) (p : Nat) (x : Int32) : gI := sShare (iu (iu I (pg p) 1 x) (pg p) 3 0) p 0
def sKeep (I : gI) (p : Nat) (g : Int32) : gI := iu (sOwn (sWipe I p) p 7) (pg p) 3 g
def sLose1 (I : gI) (p : Nat) (g : Int32) : gI := if I (pg p) 1 = g ∨ I (pg p) 3 = g then sOwn I p 8 else I
def sLose (I : gI) (p : Nat) (g : Int32) : gI := if sLose1 I p g (pg p) 2 = g then iu (sLose1 I p g) (pg p) 2 0 else sLose1 I p g
def sLoseN (I : gI) (g : Int32) : Nat → gI
  | 0 => I
  | n + 1 => sLose (sLoseN I g n) n g
abbrev sFlt (I : gI) : gI := iu I kp 4 (I kp 4 + 1)
def sRch (I : gI) (p : Nat) : gI := if I (pg p) 5 = 0 then iu (sFlt I) (pg p) 5 (bz (sOpen (sFlt I) p)) else I
abbrev sRchB (I : gI) (p : Nat) : Prop := ¬ I (pg p) 5 = 0 ∨ sOpen (sFlt I) p
abbrev sFree (I : gI) (x : Int32) : Prop := isP x ∧ I (pg (ix x)) 1 = 0 ∧ I (pg (ix x)) 2 = 0
def sLiv (I : gI) (k : Nat) (x : Int32) : Option Nat := if x < 1 ∨ I kp 3 < x ∨ 6 < x then none else if ix (x - 1) < k ∧ ¬ I (gs (ix (x - 1))) 3 = 0 then some (ix (x - 1)) else none
def sNd (P : gP) (g t z : Nat) : Bool := anyB (fun i => (P g (t * z + i)).isSome) z
def sCnt (P : gP) (g z : Nat) : Nat := cntB (fun t => sNd P g t z) (64 / z)
def sTab (P : gP) (g : Nat) : Int32 := nI (sCnt P g 16) + nI (sCnt P g 4)
def sPool (I : gI) (P : gP) (g : Nat) : Int32 := I (gs g) 5 - sTab P g
def sNew (P : gP) (g a : Nat) : Int32 := (if sNd P g (a / 16) 16 = true then 0 else 1) + (if sNd P g (a / 4) 4 = true then 0 else 1)
def sRef (I : gI) (P : gP) (g : Nat) (x y : Int32) : Int32 := if ¬ sFree I x then -2 else if y < 0 ∨ 64 ≤ y ∨ ¬ P g (ix y) = none then -3 else if sPool I P g < sNew P g (ix y) then -4 else 0
def sRem (P : gP) (g p : Nat) : gP := fun g' a => if g' = g ∧ a < 64 ∧ P g' a = some p then none else P g' a
def sFault (I : gI) (g v : Nat) (x : Int32) : gI := iu I (pr g v) 2 x
def sMove (I : gI) (P : gP) (g v : Nat) (b : Prop) [Decidable b] (a t : Nat) : Int32 × gI := match P g (t / 4) with
  | none => (1, sFault I g v (nI t))
  | some q => if b then (0, iu I (rg g v) a (I (wd q) (t % 4))) else (0, iu I (wd q) (t % 4) (I (rg g v) a))
def sChg (I : gI) (P : gP) (g a : Nat) (x : Int32) : Int32 × gI := match P g a with
  | none => (0, I)
  | some q => if ¬ I (pg q) 1 = I (gs g) 0 ∨ I (pg q) 4 = x then (0, I) else (1, sShare I q x)
abbrev wA (w : Int32) : Nat := ix (w >>> ((4 : Int32) &&& 31) &&& 3)
abbrev wB (w : Int32) : Nat := ix (w >>> ((6 : Int32) &&& 31) &&& 3)
abbrev wI (w : Int32) : Int32 := w >>> ((8 : Int32) &&& 31)
abbrev sNext (I : gI) (g v : Nat) : Int32 := (I (pr g v) 1 + 1) &&& 255
/-- perform: the exit, the state -/
def sPerf (I : gI) (P : gP) (g v : Nat) (w : Int32) : Int32 × gI :=
  if w &&& 15 = 0 then (4, iu I (pr g v) 1 (sNext I g v))
  else if w &&& 15 = 1 then (0, iu (iu I (rg g v) (wA w) (wI w)) (pr g v) 1 (sNext I g v))
  else if w &&& 15 = 2 then (0, iu (iu I (rg g v) (wA w) (I (rg g v) (wA w) + I (rg g v) (wB w))) (pr g v) 1 (sNext I g v))
  else if w &&& 15 = 3 ∨ w &&& 15 = 4 then
    (if (sMove I P g v (w &&& 15 = 3) (wA w) (ix ((I (rg g v) (wB w) + wI w) &&& 255))).1 = 1 then sMove I P g v (w &&& 15 = 3) (wA w) (ix ((I (rg g v) (wB w) + wI w) &&& 255))
     else (0, iu (sMove I P g v (w &&& 15 = 3) (wA w) (ix ((I (rg g v) (wB w) + wI w) &&& 255))).2 (pr g v) 1 (sNext I g v)))
  else if w &&& 15 = 5 then (0, iu I (pr g v) 1 (if I (rg g v) (wA w) = 0 then sNext I g v else wI w &&& 255))
  else if w &&& 15 = 6 ∨ w &&& 15 = 7 then
    (0, iu (iu (sChg I P g (ix (I (rg g v) (wA w) &&& 63)) (bz (w &&& 15 = 6))).2 (rg g v) (wA w) (sChg I P g (ix (I (rg g v) (wA w) &&& 63)) (bz (w &&& 15 = 6))).1) (pr g v) 1 (sNext I g v))
  else if w &&& 15 = 8 then (2, iu (iu I (pr g v) 2 (I (rg g v) (wA w))) (pr g v) 1 (sNext I g v))
  else if w &&& 15 = 9 then (3, iu (iu I (pr g v) 3 (nI (wA w))) (pr g v) 1 (sNext I g v))
  else if w &&& 15 = 10 then (0, iu (iu I (rg g v) (wA w) (I (rg g v) (wA w) ^^^ I (rg g v) (wB w))) (pr g v) 1 (sNext I g v))
  else (5, I)
def sStep (P : gP) (g v : Nat) (I : gI) : Int32 × gI := match P g (ix (I (pr g v) 1) / 4) with
  | none => (1, sFault I g v (I (pr g v) 1))
  | some q => sPerf I P g v (I (wd q) (ix (I (pr g v) 1) % 4))
def stepsN (st : gI → Int32 × gI) : Nat → gI → Int32 × gI
  | 0, I => (0, I)
  | n + 1, I => if (st I).1 = 0 then stepsN st n (st I).2 else st I
def sAns (I : gI) (g v : Nat) (x : Int32) : gI := if I (pr g v) 3 = -1 then I else iu (iu I (rg g v) (ix (I (pr g v) 3)) x) (pr g v) 3 (-1)
def sMk (P : gP) (g v : Nat) (I : gI) (n : Nat) : Int32 × gI := stepsN (sStep P g v) n (iu I (pr g v) 2 0)
-- the public calls: answer and state
def cRead (I : gI) (x y : Int32) : Int64 × gI := if isP x ∧ is4 y then (if sRchB I (ix x) then ((sRch I (ix x) (wd (ix x)) (ix y)).toInt64, sRch I (ix x)) else (1099511627776, sRch I (ix x))) else (1099511627776, I)
def cWrite (I : gI) (x y z : Int32) : Int32 × gI := if isP x ∧ is4 y then (if sRchB I (ix x) then (1, iu (sRch I (ix x)) (wd (ix x)) (ix y) z) else (0, sRch I (ix x))) else (0, I)
def cFeed (I : gI) (k : Nat) (P : gP) (a x : Int32) : Int32 × gI := match sLiv I k a with
  | none => (-1, I)
  | some g => if sFree I x then (sPool (iu (sKeep I (ix x) a) (gs g) 5 (sKeep I (ix x) a (gs g) 5 + 1)) P g, iu (sKeep I (ix x) a) (gs g) 5 (sKeep I (ix x) a (gs g) 5 + 1)) else (-2, I)
def cDonate (I : gI) (k : Nat) (P : gP) (a x y : Int32) : Int32 × gI × gP := match sLiv I k a with
  | none => (-1, I, P)
  | some g => if sRef I P g x y = 0 then (0, sOwn (if I (gs g) 4 = 0 then I else sWipe I (ix x)) (ix x) a, pu P g (ix y) (some (ix x))) else (sRef I P g x y, I, P)
def cLend (I : gI) (k : Nat) (P : gP) (a x y : Int32) : Int32 × gI × gP := match sLiv I k a with
  | none => (-1, I, P)
  | some g => if sRef I P g x y = 0 then (0, iu I (pg (ix x)) 2 a, pu P g (ix y) (some (ix x))) else (sRef I P g x y, I, P)
def cTake (I : gI) (k : Nat) (P : gP) (x : Int32) : Int32 × gI × gP := if isP x ∧ ¬ I (pg (ix x)) 2 = 0 then (1, iu I (pg (ix x)) 2 0, match sLiv I k (I (pg (ix x)) 2) with | none => P | some g => sRem P g (ix x)) else (0, I, P)
def cDestroy (I : gI) (k : Nat) (LG : Option Nat) (a : Int32) : Int32 × gI := match sLiv I k a with
  | none => (0, I)
  | some g => if LG = some g then (0, I) else (1, sLoseN (iu I (gs g) 3 0) a 24)
def cReclaim (I : gI) (x : Int32) : Int32 × gI := if isP x ∧ I (pg (ix x)) 1 = 8 then (1, sOwn (sWipe I (ix x)) (ix x) 0) else (0, I)
def cLoad (I : gI) (k : Nat) (LG : Option Nat) (LP : Option (Nat × Nat)) (a v : Int32) : Int32 × gI × Option Nat × Option (Nat × Nat) := match LP with
  | some _ => (0, I, LG, LP)
  | none => match sLiv I k a with
    | none => (0, I, LG, LP)
    | some g => if v < 0 ∨ 2 ≤ v then (0, I, LG, LP) else (1, iu I (gs g) 4 1, some g, some (g, ix v))
def cRun (I : gI) (P : gP) (LP : Option (Nat × Nat)) (n x : Int32) : Int32 × gI := match LP with
  | some q => if n < 1 ∨ 64 < n then (-1, I) else ((sMk P q.1 q.2 (sAns I q.1 q.2 x) (ix n)).1, iu (sMk P q.1 q.2 (sAns I q.1 q.2 x) (ix n)).2 kp 5 ((sMk P q.1 q.2 (sAns I q.1 q.2 x) (ix n)).2 (pr q.1 q.2) 2))
  | none => (-1, I)
def cSet (I : gI) (LP : Option (Nat × Nat)) (x y : Int32) : Int32 × gI := if is4 x ∧ LP = none then (1, iu I hg (ix x) y) else (0, I)
def cReg (I : gI) (LP : Option (Nat × Nat)) (x : Int32) : Int32 := if is4 x ∧ LP = none then I hg (ix x) else 0
def cOwner (I : gI) (x : Int32) : Int32 := if isP x then I (pg (ix x)) 1 else -1
def cState (I : gI) (x : Int32) : Int32 := if isP x then (if ¬ I (pg (ix x)) 4 = 0 ∨ ¬ I (pg (ix x)) 2 = 0 then 1 else 0) + (if I (pg (ix x)) 5 = 0 then 0 else 2) else -1
def cPool (I : gI) (k : Nat) (P : gP) (a : Int32) : Int32 := match sLiv I k a with
  | none => -1
  | some g => sPool I P g
def cTab (I : gI) (k : Nat) (P : gP) (a : Int32) : Int32 := match sLiv I k a with
  | none => -1
  | some g => sTab P g
-- the reference
abbrev mMay (J : gI) (p : Nat) : Prop := J (ma 1) p = 0 ∨ ¬ J (mb 5) p = 0
abbrev mFree (J : gI) (x : Int32) : Prop := isP x ∧ J (ma 1) (ix x) = 0 ∧ J (ma 3) (ix x) = 0
abbrev mGst (J : gI) (a : Int32) : Prop := ¬ a < 1 ∧ ¬ J mo 7 < a ∧ ¬ J (mb 8) (ix a) = 0
def mWipe (J : gI) (p : Nat) : gI := iu (iu (iu (iu J (ma 0) (4 * p) 0) (ma 0) (4 * p + 1) 0) (ma 0) (4 * p + 2) 0) (ma 0) (4 * p + 3) 0
def mLook (J : gI) (p : Nat) : gI := iu J (mb 6) p (bz (¬ J (mb 6) p = 0 ∧ mMay J p))
def mHolder (J : gI) (p : Nat) : Int32 := if J (ma 3) p ≤ 0 then (if J (ma 1) p < 1 ∨ 6 < J (ma 1) p then 0 else J (ma 1) p) else J (ma 3) p
abbrev mIs (J : gI) (g a : Int32) (p : Nat) : Prop := mHolder J p = g ∧ J (ma 4) p = a
def findF (f : Nat → Bool) : Nat → Nat → Int32
  | 0, _ => -1
  | n + 1, i => if f i = true then nI i else findF f n (i + 1)
def mHeld (J : gI) (g a : Int32) : Int32 := findF (fun p => decide (mIs J g a p)) 24 0
abbrev mBlk (J : gI) (g : Int32) (z : Nat) (i p : Nat) : Prop := mHolder J p = g ∧ J (ma 4) p / nI z = nI i
def mSome (J : gI) (g e : Int32) (z i n : Nat) : Bool := decide (¬ e < 0 ∧ e / nI z = nI i) || anyB (fun p => decide (mBlk J g z i p)) n
def mCnt1 (J : gI) (g e : Int32) (z : Nat) : Nat := cntB (fun i => mSome J g e z i 24) (64 / z)
def mCnt (J : gI) (g e : Int32) : Int32 := nI (mCnt1 J g e 4 + mCnt1 J g e 16)
def mKept (J : gI) (g : Int32) : Nat := cntB (fun p => decide (J (ma 1) p = 7 ∧ J (ma 2) p = g)) 24
def mRest (J : gI) (g : Int32) : Int32 := nI (mKept J g) - 1 - mCnt J g (-1)
def mTch (J : gI) (p : Nat) : gI := if J (mb 6) p = 0 then iu (iu J mo 16 (J mo 16 + 1)) (mb 6) p (bz (mMay (iu J mo 16 (J mo 16 + 1)) p)) else J
abbrev mOk (x y : Int32) : Prop := isP x ∧ ¬ y < 0 ∧ y ≤ 3
def mTouch (J : gI) (x y : Int32) : Int32 × gI := if mOk x y then (mTch J (ix x) (mb 6) (ix x), mTch J (ix x)) else (0, J)
def mRead (J : gI) (x y : Int32) : Int64 × gI := if (mTouch J x y).1 = 0 then (1099511627776, (mTouch J x y).2) else (((mTouch J x y).2 (ma 0) (4 * ix x + ix y)).toInt64, (mTouch J x y).2)
def mWrite (J : gI) (x y z : Int32) : Int32 × gI := if (mTouch J x y).1 = 0 then mTouch J x y else ((mTouch J x y).1, iu (mTouch J x y).2 (ma 0) (4 * ix x + ix y) z)
def mKeep (J : gI) (p : Nat) (g : Int32) : gI := mLook (mWipe (iu (iu J (ma 1) p 7) (ma 2) p g) p) p
def mCreate (J : gI) (x : Int32) : Int32 × gI := if ¬ mFree J x then (-1, J) else if ¬ J mo 7 < 6 then (-2, J) else (J mo 7 + 1, mKeep (iu (iu J mo 7 (J mo 7 + 1)) (mb 8) (ix (J mo 7 + 1)) 1) (ix x) (J mo 7 + 1))
def mFeed (J : gI) (a x : Int32) : Int32 × gI := if ¬ mGst J a then (-1, J) else if ¬ mFree J x then (-2, J) else (mRest (mKeep J (ix x) a) a, mKeep J (ix x) a)
def mRef (J : gI) (a x y : Int32) : Int32 := if ¬ mGst J a then -1 else if ¬ mFree J x then -2 else if y < 0 ∨ 63 < y ∨ ¬ mHeld J a y < 0 then -3 else if mCnt J a y - mCnt J a (-1) ≤ mRest J a then 0 else -4
def mDon1 (J : gI) (a : Int32) (p : Nat) (y : Int32) : gI := iu (iu (iu J (ma 1) p a) (ma 4) p y) (mb 5) p 0
def mDonate (J : gI) (a x y : Int32) : Int32 × gI := if mRef J a x y < 0 then (mRef J a x y, J) else (0, mLook (if mDon1 J a (ix x) y (mb 9) (ix a) = 0 then mDon1 J a (ix x) y else mWipe (mDon1 J a (ix x) y) (ix x)) (ix x))
def mLend (J : gI) (a x y : Int32) : Int32 × gI := (mRef J a x y, if mRef J a x y = 0 then iu (iu J (ma 3) (ix x) a) (ma 4) (ix x) y else J)
def mTake (J : gI) (x : Int32) : Int32 × gI := if isP x ∧ ¬ J (ma 3) (ix x) = 0 then (1, iu J (ma 3) (ix x) 0) else (0, J)
def mLose1 (J : gI) (a : Int32) (p : Nat) : gI := if J (ma 1) p = a ∨ (J (ma 1) p = 7 ∧ J (ma 2) p = a) then mLook (iu (iu J (ma 1) p 8) (mb 5) p 0) p else J
def mLose (J : gI) (a : Int32) (p : Nat) : gI := iu (mLose1 J a p) (ma 3) p (if mLose1 J a p (ma 3) p = a then 0 else mLose1 J a p (ma 3) p)
def mLoseN (J : gI) (a : Int32) : Nat → gI
  | 0 => J
  | n + 1 => mLose (mLoseN J a n) a n
def mDestroy (J : gI) (a : Int32) : Int32 × gI := if ¬ mGst J a ∨ (¬ J mo 13 < 0 ∧ J mo 13 / 2 = a) then (0, J) else (1, mLoseN (iu J (mb 8) (ix a) 0) a 24)
def mReclaim (J : gI) (x : Int32) : Int32 × gI := if isP x ∧ J (ma 1) (ix x) = 8 then (1, mWipe (iu J (ma 1) (ix x) 0) (ix x)) else (0, J)
def mLoad (J : gI) (a v : Int32) : Int32 × gI := if 0 ≤ J mo 13 ∨ ¬ mGst J a ∨ v < 0 ∨ ¬ v ≤ 1 then (0, J) else (1, iu (iu J mo 13 (2 * a + v)) (mb 9) (ix a) 1)
def mPut (J : gI) : Int32 × gI := (if J mo 13 < 0 then 0 else 1, iu J mo 13 (-1))
/-- word: where the word at an address lies, or the fault's info -/
def mWord (J : gI) (g : Int32) (t : Nat) : Int32 × gI := if mHeld J g (nI (t / 4)) < 0 then (-1, iu J mo 14 (nI t)) else (4 * mHeld J g (nI (t / 4)) + nI (t % 4), J)
def mTurn (J : gI) (g : Int32) (t : Nat) (x : Int32) : Int32 × gI := if mHeld J g (nI t) < 0 ∨ ¬ J (ma 1) (ix (mHeld J g (nI t))) = g ∨ J (mb 5) (ix (mHeld J g (nI t))) = x then (0, J) else (1, mLook (iu J (mb 5) (ix (mHeld J g (nI t))) x) (ix (mHeld J g (nI t))))
def mEnd (J : gI) (c : Nat) (w t : Int32) : gI := iu (iu (iu J (ma 11) c t) mo 14 (if w &&& 15 = 8 then J (ma 10) (4 * c + wA w) else 0)) (ma 12) c (if w &&& 15 = 9 then 1 + nI (wA w) else 0)
abbrev mNext (J : gI) (c : Nat) : Int32 := (J (ma 11) c + 1) &&& 255
def mPerf (J : gI) (c : Nat) (w : Int32) : Int32 × gI :=
  if w &&& 15 = 0 then (4, mEnd J c w (mNext J c))
  else if w &&& 15 = 1 then (0, mEnd (iu J (ma 10) (4 * c + wA w) (wI w)) c w (mNext J c))
  else if w &&& 15 = 2 then (0, mEnd (iu J (ma 10) (4 * c + wA w) (J (ma 10) (4 * c + wA w) + J (ma 10) (4 * c + wB w))) c w (mNext J c))
  else if w &&& 15 = 3 then (if (mWord J (nI (c / 2)) (ix ((J (ma 10) (4 * c + wB w) + wI w) &&& 255))).1 < 0 then (1, (mWord J (nI (c / 2)) (ix ((J (ma 10) (4 * c + wB w) + wI w) &&& 255))).2)
    else (0, mEnd (iu J (ma 10) (4 * c + wA w) (J (ma 0) (ix (mWord J (nI (c / 2)) (ix ((J (ma 10) (4 * c + wB w) + wI w) &&& 255))).1))) c w (mNext J c)))
  else if w &&& 15 = 4 then (if (mWord J (nI (c / 2)) (ix ((J (ma 10) (4 * c + wB w) + wI w) &&& 255))).1 < 0 then (1, (mWord J (nI (c / 2)) (ix ((J (ma 10) (4 * c + wB w) + wI w) &&& 255))).2)
    else (0, mEnd (iu J (ma 0) (ix (mWord J (nI (c / 2)) (ix ((J (ma 10) (4 * c + wB w) + wI w) &&& 255))).1) (J (ma 10) (4 * c + wA w))) c w (mNext J c)))
  else if w &&& 15 = 5 then (0, mEnd J c w (if J (ma 10) (4 * c + wA w) = 0 then mNext J c else wI w &&& 255))
  else if w &&& 15 = 6 ∨ w &&& 15 = 7 then (0, mEnd (iu (mTurn J (nI (c / 2)) (ix (J (ma 10) (4 * c + wA w) &&& 63)) (bz (w &&& 15 = 6))).2 (ma 10) (4 * c + wA w) (mTurn J (nI (c / 2)) (ix (J (ma 10) (4 * c + wA w) &&& 63)) (bz (w &&& 15 = 6))).1) c w (mNext J c))
  else if w &&& 15 = 8 then (2, mEnd J c w (mNext J c))
  else if w &&& 15 = 9 then (3, mEnd J c w (mNext J c))
  else if w &&& 15 = 10 then (0, mEnd (iu J (ma 10) (4 * c + wA w) (J (ma 10) (4 * c + wA w) ^^^ J (ma 10) (4 * c + wB w))) c w (mNext J c))
  else (5, J)
def mStep (c : Nat) (J : gI) : Int32 × gI := if (mWord J (nI (c / 2)) (ix (J (ma 11) c))).1 < 0 then (1, (mWord J (nI (c / 2)) (ix (J (ma 11) c))).2) else mPerf J c (J (ma 0) (ix (mWord J (nI (c / 2)) (ix (J (ma 11) c))).1))
def mAns (J : gI) (c : Nat) (x : Int32) : gI := if J (ma 12) c ≤ 0 then J else iu (iu J (ma 10) (4 * c + ix (J (ma 12) c) - 1) x) (ma 12) c 0
def mRun (J : gI) (n x : Int32) : Int32 × gI := if J mo 13 < 0 ∨ n < 1 ∨ 64 < n then (-1, J) else stepsN (mStep (ix (J mo 13))) (ix n) (iu (mAns J (ix (J mo 13)) x) mo 14 0)
def mSet (J : gI) (x y : Int32) : Int32 × gI := if x < 0 ∨ 3 < x ∨ ¬ J mo 13 < 0 then (0, J) else (1, iu J (ma 15) (ix x) y)
def mReg (J : gI) (x : Int32) : Int32 := if x < 0 ∨ 3 < x ∨ ¬ J mo 13 < 0 then 0 else J (ma 15) (ix x)
def mOwner (J : gI) (x : Int32) : Int32 := if isP x then J (ma 1) (ix x) else -1
def mState (J : gI) (x : Int32) : Int32 := if isP x then (if 0 < J (ma 3) (ix x) ∨ ¬ J (mb 5) (ix x) = 0 then 1 else 0) + (if J (mb 6) (ix x) = 0 then 0 else 2) else -1
def mPool (J : gI) (a : Int32) : Int32 := if mGst J a then mRest J a else -1
def mTab (J : gI) (a : Int32) : Int32 := if mGst J a then mCnt J a (-1) else -1
end
section
/-! numbers, searches, counts -/
theorem findF_no {f : Nat → Bool} : ∀ (n a : Nat), (∀ i, a ≤ i → i < a + n → f i = false) → findF f n a = -1
  | 0, _, _ => rfl
  | n + 1, a, h => by
    simp only [findF, h a (Nat.le_refl _) (by omega)]
    exact findF_no n (a + 1) (fun i h1 h2 => h i (by omega) (by omega))
theorem findF_yes {f : Nat → Bool} {q : Nat} (hf : f q = true) : ∀ (n a : Nat), a ≤ q → q < a + n → (∀ i, a ≤ i → i < a + n → f i = true → i = q) → findF f n a = nI q
  | 0, a, h1, h2, _ => by omega
  | n + 1, a, h1, h2, hu => by
    by_cases ha : f a = true
    · have := hu a (Nat.le_refl _) (by omega) ha
      subst this
      simp [findF, ha]
    · have hne : a ≠ q := fun z => ha (by rw [z]; exact hf)
      simp only [findF, ha]
      exact findF_yes hf n (a + 1) (by omega) (by omega) (fun i h3 h4 h5 => hu i (by omega) (by omega) h5)
theorem cntB_or {f : Nat → Bool} {b : Nat} : ∀ n, b < n → cntB (fun t => decide (b = t) || f t) n = cntB f n + (if f b = true then 0 else 1) := by
  have low : ∀ n, n ≤ b → cntB (fun t => decide (b = t) || f t) n = cntB f n := fun n hn => cntB_congr (fun i hi => by
    have : b ≠ i := by omega
    simp [this])
  intro n
  induction n with
  | zero => intro h; omega
  | succ n ih =>
    intro h
    by_cases hb : b = n
    · subst hb
      simp only [cntB, low b (Nat.le_refl _)]
      by_cases hf : f b = true
      · simp [hf]
      · simp [hf]
    · simp only [cntB, ih (by omega)]
      have : decide (b = n) = false := by simp [hb]
      simp only [this, Bool.false_or]
      omega
theorem n32 {a b : Nat} (ha : a < 2 ^ 31) (hb : b < 2 ^ 31) (h : nI a = nI b) : a = b := (nI_eq ha hb).mp h
theorem m1_lt : (-1 : Int32) < 0 := by decide
theorem nI_neg {j : Nat} (h : j < 2 ^ 31) : ¬ nI j = -1 := fun q => absurd (q ▸ m1_lt) (nI_pos h)
section PU
variable {J : gI} {G : Int32}
theorem held_no {a : Int32} (h : ∀ q, q < 24 → ¬ mIs J G a q) : mHeld J G a = -1 := findF_no 24 0 (fun i _ hi => by
  have := h i (by omega)
  simp [this])
theorem held_yes {a : Int32} {q : Nat} (hq : q < 24) (h : mIs J G a q) (hu : ∀ q', q' < 24 → mIs J G a q' → q' = q) : mHeld J G a = nI q := findF_yes (by simp [h]) 24 0 (by omega) (by omega) (fun i _ hi hf => hu i (by omega) (by simpa using hf))
end PU
/-- what the places of a living guest are -/
def plOK (J : gI) (P : gP) (g : Nat) (G : Int32) : Prop := ∀ a, a < 64 → ∀ q, P g a = some q ↔ (q < 24 ∧ mIs J G (nI a) q)
/-- a page that somebody holds lies at a place -/
def rngOK (J : gI) : Prop := ∀ q, q < 24 → mHolder J q = 0 ∨ ∃ a, a < 64 ∧ J (ma 4) q = nI a
section PL
variable {J : gI} {P : gP} {g : Nat} {G : Int32}
theorem plOK.uniq (h : plOK J P g G) {a q q' : Nat} (ha : a < 64) (h1 : q < 24) (h2 : mIs J G (nI a) q) (h3 : q' < 24) (h4 : mIs J G (nI a) q') : q' = q := by
  have e1 := (h a ha q).mpr ⟨h1, h2⟩
  have e2 := (h a ha q').mpr ⟨h3, h4⟩
  exact Option.some.inj (e2.symm.trans e1)
theorem plOK.held (h : plOK J P g G) {a : Nat} (ha : a < 64) : mHeld J G (nI a) = match P g a with | none => -1 | some q => nI q := by
  cases hP : P g a with
  | none =>
    exact held_no (fun q hq hi => by
      have := (h a ha q).mpr ⟨hq, hi⟩
      rw [hP] at this
      cases this)
  | some q =>
    obtain ⟨h1, h2⟩ := (h a ha q).mp hP
    exact held_yes h1 h2 (fun q' h3 h4 => h.uniq ha h1 h2 h3 h4)
theorem blk {J : gI} {q z t : Nat} (hz : z = 4 ∨ z = 16) (ht : t < 64 / z) {a : Nat} (ha : a < 64) (he : J (ma 4) q = nI a) : J (ma 4) q / nI z = nI t ↔ a / z = t := by
  have hz0 : 0 < z := by omega
  have hz1 : z < 2 ^ 31 := by omega
  rw [he, pk_div (by omega) hz0 hz1, nI_eq (by have := Nat.div_le_self a z; omega) (by have := Nat.div_le_self 64 z; omega)]
theorem nd_some (h : plOK J P g G) (hG : ¬ G = 0) (hr : rngOK J) {z t : Nat} (hz : z = 4 ∨ z = 16) (ht : t < 64 / z) : sNd P g t z = anyB (fun p => decide (mBlk J G z t p)) 24 := by
  rw [Bool.eq_iff_iff]
  simp only [sNd, anyB_iff, decide_eq_true_eq]
  constructor
  · rintro ⟨i, hi, hs⟩
    obtain ⟨q, hq⟩ := Option.isSome_iff_exists.mp hs
    have hlt : t * z + i < 64 := by
      rcases hz with rfl | rfl <;> omega
    obtain ⟨h1, h2, h3⟩ := (h _ hlt q).mp hq
    refine ⟨q, h1, h2, (blk hz ht hlt h3).mpr ?_⟩
    rcases hz with rfl | rfl <;> omega
  · rintro ⟨q, hq, hh, hp⟩
    rcases hr q hq with h0 | ⟨a, ha, he⟩
    · exact absurd (hh.symm.trans h0) hG
    · have hat := (blk hz ht ha he).mp hp
      have e1 : P g a = some q := (h a ha q).mpr ⟨hq, hh, he⟩
      refine ⟨a % z, Nat.mod_lt _ (by omega), ?_⟩
      have : t * z + a % z = a := by
        rw [← hat]
        have := Nat.div_add_mod a z
        rw [Nat.mul_comm]; omega
      rw [this, e1]
      rfl
theorem some_m1 {z i : Nat} : mSome J G (-1) z i 24 = anyB (fun p => decide (mBlk J G z i p)) 24 := by
  have : ¬ (¬ (-1 : Int32) < 0 ∧ (-1 : Int32) / nI z = nI i) := fun q => q.1 m1_lt
  simp only [mSome, this, decide_false, Bool.false_or]
theorem cnt_m1 (h : plOK J P g G) (hG : ¬ G = 0) (hr : rngOK J) {z : Nat} (hz : z = 4 ∨ z = 16) : mCnt1 J G (-1) z = sCnt P g z :=
  cntB_congr (fun t ht => by rw [some_m1, nd_some h hG hr hz ht])
theorem cnt_at (h : plOK J P g G) (hG : ¬ G = 0) (hr : rngOK J) {z a : Nat} (hz : z = 4 ∨ z = 16) (ha : a < 64) : mCnt1 J G (nI a) z = sCnt P g z + (if sNd P g (a / z) z = true then 0 else 1) := by
  have hb : a / z < 64 / z := by rcases hz with rfl | rfl <;> omega
  have e : mCnt1 J G (nI a) z = cntB (fun t => decide (a / z = t) || sNd P g t z) (64 / z) := cntB_congr (fun t ht => by
    have h1 : (¬ nI a < 0 ∧ nI a / nI z = nI t) ↔ a / z = t := by
      rw [pk_div (by omega) (by omega) (by omega), nI_eq (by have := Nat.div_le_self a z; omega) (by have := Nat.div_le_self 64 z; omega)]
      exact ⟨fun q => q.2, fun q => ⟨nI_pos (by omega), q⟩⟩
    rw [nd_some h hG hr hz ht]
    simp only [mSome, h1])
  rw [e, cntB_or _ hb]
  rfl
theorem cnt_tab (h : plOK J P g G) (hG : ¬ G = 0) (hr : rngOK J) : mCnt J G (-1) = sTab P g := by
  rw [mCnt, cnt_m1 h hG hr (Or.inl rfl), cnt_m1 h hG hr (Or.inr rfl), sTab, nI_add, Nat.add_comm]
theorem cnt_new (h : plOK J P g G) (hG : ¬ G = 0) (hr : rngOK J) {a : Nat} (ha : a < 64) : mCnt J G (nI a) - mCnt J G (-1) = sNew P g a := by
  rw [mCnt, mCnt, cnt_m1 h hG hr (Or.inl rfl), cnt_m1 h hG hr (Or.inr rfl), cnt_at h hG hr (Or.inl rfl) ha, cnt_at h hG hr (Or.inr rfl) ha, pk_sub (by omega), sNew]
  by_cases h1 : sNd P g (a / 4) 4 = true <;> by_cases h2 : sNd P g (a / 16) 16 = true
  · simp only [h1, h2, if_true]
    rw [show sCnt P g 4 + 0 + (sCnt P g 16 + 0) - (sCnt P g 4 + sCnt P g 16) = 0 by omega]
    rfl
  · simp only [h1, h2, if_true]
    rw [show sCnt P g 4 + 0 + (sCnt P g 16 + if false = true then 0 else 1) - (sCnt P g 4 + sCnt P g 16) = 1 by simp; omega]
    rfl
  · simp only [h1, h2, if_true]
    rw [show sCnt P g 4 + (if false = true then 0 else 1) + (sCnt P g 16 + 0) - (sCnt P g 4 + sCnt P g 16) = 1 by simp; omega]
    rfl
  · simp only [h1, h2]
    rw [show sCnt P g 4 + (if false = true then 0 else 1) + (sCnt P g 16 + if false = true then 0 else 1) - (sCnt P g 4 + sCnt P g 16) = 2 by simp; omega]
    rfl
end PL
end
section
set_option maxHeartbeats 4000000 in
set_option maxRecDepth 100000 in
theorem c_P_wipe (l : Launch) {D : va_G} {c : Nat → ClassId} {sz : Nat} {ad : gN → Nat} {k : Nat} {I J : gI} {P : gP} {LG : Option Nat} {LP : Option (Nat × Nat)} {q : Nat} (hq : q < 24) : Met l yP_wipe wP_wipe { frames := 0, cells := 0, slots := 0, locals := 0 } (gPre D c sz [.ref (ad (2, q, 0))] (ad, k, I, J, P, LG, LP)) (va_Qv (fun u => u = (ad, k, sWipe I q, J, P, LG, LP)) (gB D c sz) (gA sz)) 0 0 (gA sz) := by
  refine Met.ofW (cc := cP_wipe) (maxL := 2) (ret := none) (by decide) rfl ?_
  intro p e s m args below meth cd s₁ B hml hv
  obtain ⟨rfl, hK, hH⟩ := hv
  have hx := B.exec
  have hb := B.bytes
  have hr := B.returns
  have hts := atoms_spec (ws := wP_wipe) B.pre
  have hw : ∀ w ∈ gWd, w.before _ s = true := fun w h => hts w (List.mem_cons_of_mem _ h)
  have hown : s.vm.findClass RP = some m.cls := findClass_of_methodNamed B.named
  have hlk := B.notSynchronized
  have hS : va_S (gA sz) s.heap s.heap [] := va_S.rf
  have hH : gW D c sz ad k I J P LG LP s.heap := hH
  have hl := lv_entry ([.ref (ad (2, q, 0))]) (n := 2) (Nat.le_of_ble_eq_true rfl)
  rw [lg_entry_eq]
  generalize (lg_sl ([.ref (ad (2, q, 0))]) ++ List.replicate (2 - (lg_sl ([.ref (ad (2, q, 0))])).length) Slot.unset).toArray = ls at hl ⊢
  have hl : lv_has ls 2 [(0, .ref (ad (2, q, 0)))] := hl
  refine lv_iconst (v := 0) hx hb dP_wipe_0 (by decide) ?_
  refine lv_istore_n hx hb dP_wipe_1 rfl hl (by decide) rfl (fun ls hl => ?_)
  have hl : lv_has ls 2 [(1, .int _), (0, .ref _)] := hl
  refine lv_iload_n hx hb dP_wipe_2 rfl (lv_at hl 0 rfl) ?_
  refine lv_iconst (v := 4) hx hb dP_wipe_3 (by decide) ?_
  refine lv_icmp_ge hx hb dP_wipe_4 rfl (fun h_1 => ?_) (fun h_1 => ?_)
  · exact absurd h_1 (by decide)
  · skip
    refine lv_aload_n hx hb dP_wipe_7 rfl (lv_at hl 1 rfl) ?_
    refine s_get hx hb hw inP hown hK hH 0 (by decide) (hw _ (gwd_0 (List.mem_of_getElem? (i := 19) rfl))) (by first | exact ⟨rfl, rfl⟩ | exact ⟨by assumption, rfl⟩ | exact ⟨by assumption, by assumption⟩ | exact ⟨by omega, rfl⟩ | exact ⟨by omega, by omega⟩ | exact ⟨by decide, rfl⟩) rfl rfl rfl rfl dP_wipe_8 ?_
    refine lv_iload_n hx hb dP_wipe_11 rfl (lv_at hl 0 rfl) ?_
    refine lv_iconst (v := 0) hx hb dP_wipe_12 (by decide) ?_
    refine s_iast hx hb hK hH hS (by first | exact ⟨rfl, rfl⟩ | exact ⟨by assumption, rfl⟩ | exact ⟨by assumption, by assumption⟩ | exact ⟨by omega, rfl⟩ | exact ⟨by omega, by omega⟩ | exact ⟨by decide, rfl⟩) rfl 0 rfl (by first | assumption | decide | omega) (by decide) rfl dP_wipe_13 (fun H locs hH hS => ?_)
    refine lv_iinc (k := 0) (v := 1) hx hb dP_wipe_14 hl rfl (by decide) (by decide) rfl (fun ls hl => ?_)
    have hl : lv_has ls 2 [(1, .int _), (0, .ref _)] := hl
    refine lv_goto hx hb dP_wipe_17 rfl ?_
    refine lv_iload_n hx hb dP_wipe_2 rfl (lv_at hl 0 rfl) ?_
    refine lv_iconst (v := 4) hx hb dP_wipe_3 (by decide) ?_
    refine lv_icmp_ge hx hb dP_wipe_4 rfl (fun h_2 => ?_) (fun h_2 => ?_)
    · exact absurd h_2 (by decide)
    · skip
      refine lv_aload_n hx hb dP_wipe_7 rfl (lv_at hl 1 rfl) ?_
      refine s_get hx hb hw inP hown hK hH 0 (by decide) (hw _ (gwd_0 (List.mem_of_getElem? (i := 19) rfl))) (by first | exact ⟨rfl, rfl⟩ | exact ⟨by assumption, rfl⟩ | exact ⟨by assumption, by assumption⟩ | exact ⟨by omega, rfl⟩ | exact ⟨by omega, by omega⟩ | exact ⟨by decide, rfl⟩) rfl rfl rfl rfl dP_wipe_8 ?_
      refine lv_iload_n hx hb dP_wipe_11 rfl (lv_at hl 0 rfl) ?_
      refine lv_iconst (v := 0) hx hb dP_wipe_12 (by decide) ?_
      refine s_iast hx hb hK hH hS (by first | exact ⟨rfl, rfl⟩ | exact ⟨by assumption, rfl⟩ | exact ⟨by assumption, by assumption⟩ | exact ⟨by omega, rfl⟩ | exact ⟨by omega, by omega⟩ | exact ⟨by decide, rfl⟩) rfl 1 rfl (by first | assumption | decide | omega) (by decide) rfl dP_wipe_13 (fun H locs hH hS => ?_)
      refine lv_iinc (k := 0) (v := 2) hx hb dP_wipe_14 hl rfl (by decide) (by decide) rfl (fun ls hl => ?_)
      have hl : lv_has ls 2 [(1, .int _), (0, .ref _)] := hl
      refine lv_goto hx hb dP_wipe_17 rfl ?_
      refine lv_iload_n hx hb dP_wipe_2 rfl (lv_at hl 0 rfl) ?_
      refine lv_iconst (v := 4) hx hb dP_wipe_3 (by decide) ?_
      refine lv_icmp_ge hx hb dP_wipe_4 rfl (fun h_3 => ?_) (fun h_3 => ?_)
      · exact absurd h_3 (by decide)
      · skip
        refine lv_aload_n hx hb dP_wipe_7 rfl (lv_at hl 1 rfl) ?_
        refine s_get hx hb hw inP hown hK hH 0 (by decide) (hw _ (gwd_0 (List.mem_of_getElem? (i := 19) rfl))) (by first | exact ⟨rfl, rfl⟩ | exact ⟨by assumption, rfl⟩ | exact ⟨by assumption, by assumption⟩ | exact ⟨by omega, rfl⟩ | exact ⟨by omega, by omega⟩ | exact ⟨by decide, rfl⟩) rfl rfl rfl rfl dP_wipe_8 ?_
        refine lv_iload_n hx hb dP_wipe_11 rfl (lv_at hl 0 rfl) ?_
        refine lv_iconst (v := 0) hx hb dP_wipe_12 (by decide) ?_
        refine s_iast hx hb hK hH hS (by first | exact ⟨rfl, rfl⟩ | exact ⟨by assumption, rfl⟩ | exact ⟨by assumption, by assumption⟩ | exact ⟨by omega, rfl⟩ | exact ⟨by omega, by omega⟩ | exact ⟨by decide, rfl⟩) rfl 2 rfl (by first | assumption | decide | omega) (by decide) rfl dP_wipe_13 (fun H locs hH hS => ?_)
        refine lv_iinc (k := 0) (v := 3) hx hb dP_wipe_14 hl rfl (by decide) (by decide) rfl (fun ls hl => ?_)
        have hl : lv_has ls 2 [(1, .int _), (0, .ref _)] := hl
        refine lv_goto hx hb dP_wipe_17 rfl ?_
        refine lv_iload_n hx hb dP_wipe_2 rfl (lv_at hl 0 rfl) ?_
        refine lv_iconst (v := 4) hx hb dP_wipe_3 (by decide) ?_
        refine lv_icmp_ge hx hb dP_wipe_4 rfl (fun h_4 => ?_) (fun h_4 => ?_)
        · exact absurd h_4 (by decide)
        · skip
          refine lv_aload_n hx hb dP_wipe_7 rfl (lv_at hl 1 rfl) ?_
          refine s_get hx hb hw inP hown hK hH 0 (by decide) (hw _ (gwd_0 (List.mem_of_getElem? (i := 19) rfl))) (by first | exact ⟨rfl, rfl⟩ | exact ⟨by assumption, rfl⟩ | exact ⟨by assumption, by assumption⟩ | exact ⟨by omega, rfl⟩ | exact ⟨by omega, by omega⟩ | exact ⟨by decide, rfl⟩) rfl rfl rfl rfl dP_wipe_8 ?_
          refine lv_iload_n hx hb dP_wipe_11 rfl (lv_at hl 0 rfl) ?_
          refine lv_iconst (v := 0) hx hb dP_wipe_12 (by decide) ?_
          refine s_iast hx hb hK hH hS (by first | exact ⟨rfl, rfl⟩ | exact ⟨by assumption, rfl⟩ | exact ⟨by assumption, by assumption⟩ | exact ⟨by omega, rfl⟩ | exact ⟨by omega, by omega⟩ | exact ⟨by decide, rfl⟩) rfl 3 rfl (by first | assumption | decide | omega) (by decide) rfl dP_wipe_13 (fun H locs hH hS => ?_)
          refine lv_iinc (k := 0) (v := 4) hx hb dP_wipe_14 hl rfl (by decide) (by decide) rfl (fun ls hl => ?_)
          have hl : lv_has ls 2 [(1, .int _), (0, .ref _)] := hl
          refine lv_goto hx hb dP_wipe_17 rfl ?_
          refine lv_iload_n hx hb dP_wipe_2 rfl (lv_at hl 0 rfl) ?_
          refine lv_iconst (v := 4) hx hb dP_wipe_3 (by decide) ?_
          refine lv_icmp_ge hx hb dP_wipe_4 rfl (fun h_5 => ?_) (fun h_5 => ?_)
          · skip
            exact r_v hx hb hr hlk hK hH hS dP_wipe_20 (rfl)
          · exact absurd h_5 (by decide)
set_option maxHeartbeats 4000000 in
set_option maxRecDepth 100000 in
theorem c_P_isOpenToHost (l : Launch) {D : va_G} {c : Nat → ClassId} {sz : Nat} {ad : gN → Nat} {k : Nat} {I J : gI} {P : gP} {LG : Option Nat} {LP : Option (Nat × Nat)} {q : Nat} (hq : q < 24) : Met l yP_isOpenToHost wP_isOpenToHost { frames := 0, cells := 0, slots := 0, locals := 0 } (gPre D c sz [.ref (ad (2, q, 0))] (ad, k, I, J, P, LG, LP)) (va_Qi (fun r u => r = bz (sOpen I q) ∧ u = (ad, k, I, J, P, LG, LP)) (gB D c sz) (gA sz)) 0 0 (gA sz) := by
  refine Met.ofW (cc := cP_isOpenToHost) (maxL := 1) (ret := (some .boolean)) (by decide) rfl ?_
  intro p e s m args below meth cd s₁ B hml hv
  obtain ⟨rfl, hK, hH⟩ := hv
  have hx := B.exec
  have hb := B.bytes
  have hr := B.returns
  have hts := atoms_spec (ws := wP_isOpenToHost) B.pre
  have hw : ∀ w ∈ gWd, w.before _ s = true := fun w h => hts w (List.mem_cons_of_mem _ h)
  have hown : s.vm.findClass RP = some m.cls := findClass_of_methodNamed B.named
  have hlk := B.notSynchronized
  have hS : va_S (gA sz) s.heap s.heap [] := va_S.rf
  have hH : gW D c sz ad k I J P LG LP s.heap := hH
  have hl := lv_entry ([.ref (ad (2, q, 0))]) (n := 1) (Nat.le_of_ble_eq_true rfl)
  rw [lg_entry_eq]
  generalize (lg_sl ([.ref (ad (2, q, 0))]) ++ List.replicate (1 - (lg_sl ([.ref (ad (2, q, 0))])).length) Slot.unset).toArray = ls at hl ⊢
  have hl : lv_has ls 1 [(0, .ref (ad (2, q, 0)))] := hl
  refine lv_aload_n hx hb dP_isOpenToHost_0 rfl (lv_at hl 0 rfl) ?_
  refine s_get hx hb hw inP hown hK hH 1 (by decide) (hw _ (gwd_0 (List.mem_of_getElem? (i := 22) rfl))) (by first | exact ⟨rfl, rfl⟩ | exact ⟨by assumption, rfl⟩ | exact ⟨by assumption, by assumption⟩ | exact ⟨by omega, rfl⟩ | exact ⟨by omega, by omega⟩ | exact ⟨by decide, rfl⟩) rfl rfl rfl rfl dP_isOpenToHost_1 ?_
  refine lv_if_eq hx hb dP_isOpenToHost_4 rfl (fun h_1 => ?_) (fun h_1 => ?_)
  · skip
    refine lv_iconst (v := 1) hx hb dP_isOpenToHost_14 (by decide) ?_
    refine lv_goto hx hb dP_isOpenToHost_15 rfl ?_
    exact r_z hx hb hr hlk hK hH hS dP_isOpenToHost_19 (by first | exact Or.inl rfl | exact Or.inr rfl | exact bz_01 _ | assumption) (⟨by simp [bz, h_1], rfl⟩)
  · skip
    refine lv_aload_n hx hb dP_isOpenToHost_7 rfl (lv_at hl 0 rfl) ?_
    refine s_get hx hb hw inP hown hK hH 4 (by decide) (hw _ (gwd_0 (List.mem_of_getElem? (i := 28) rfl))) (by first | exact ⟨rfl, rfl⟩ | exact ⟨by assumption, rfl⟩ | exact ⟨by assumption, by assumption⟩ | exact ⟨by omega, rfl⟩ | exact ⟨by omega, by omega⟩ | exact ⟨by decide, rfl⟩) rfl rfl rfl rfl dP_isOpenToHost_8 ?_
    refine lv_if_eq hx hb dP_isOpenToHost_11 rfl (fun h_2 => ?_) (fun h_2 => ?_)
    · skip
      refine lv_iconst (v := 0) hx hb dP_isOpenToHost_18 (by decide) ?_
      exact r_z hx hb hr hlk hK hH hS dP_isOpenToHost_19 (by first | exact Or.inl rfl | exact Or.inr rfl | exact bz_01 _ | assumption) (⟨by simp [bz, h_1, h_2], rfl⟩)
    · skip
      refine lv_iconst (v := 1) hx hb dP_isOpenToHost_14 (by decide) ?_
      refine lv_goto hx hb dP_isOpenToHost_15 rfl ?_
      exact r_z hx hb hr hlk hK hH hS dP_isOpenToHost_19 (by first | exact Or.inl rfl | exact Or.inr rfl | exact bz_01 _ | assumption) (⟨by simp [bz, h_1, h_2], rfl⟩)
set_option maxHeartbeats 4000000 in
set_option maxRecDepth 100000 in
theorem c_P_changeSharing (l : Launch) {D : va_G} {c : Nat → ClassId} {sz : Nat} {ad : gN → Nat} {k : Nat} {I J : gI} {P : gP} {LG : Option Nat} {LP : Option (Nat × Nat)} {q : Nat} {x : Int32} (hq : q < 24) (hx1 : x = 0 ∨ x = 1) : Met l yP_changeSharing wP_changeSharing { frames := 1, cells := 0, slots := 0, locals := 20 } (gPre D c sz [.ref (ad (2, q, 0)), .int x] (ad, k, I, J, P, LG, LP)) (va_Qv (fun u => u = (ad, k, sShare I q x, J, P, LG, LP)) (gB D c sz) (gA sz)) 0 0 (gA sz) := by
  refine Met.ofW (cc := cP_changeSharing) (maxL := 2) (ret := none) (by decide) rfl ?_
  intro p e s m args below meth cd s₁ B hml hv
  obtain ⟨rfl, hK, hH⟩ := hv
  have hx := B.exec
  have hb := B.bytes
  have hr := B.returns
  have hts := atoms_spec (ws := wP_changeSharing) B.pre
  have hw : ∀ w ∈ gWd, w.before _ s = true := fun w h => hts w (List.mem_cons_of_mem _ h)
  have hown : s.vm.findClass RP = some m.cls := findClass_of_methodNamed B.named
  have hlk := B.notSynchronized
  have hS : va_S (gA sz) s.heap s.heap [] := va_S.rf
  have hH : gW D c sz ad k I J P LG LP s.heap := hH
  have hl := lv_entry ([.ref (ad (2, q, 0)), .int x]) (n := 2) (Nat.le_of_ble_eq_true rfl)
  rw [lg_entry_eq]
  generalize (lg_sl ([.ref (ad (2, q, 0)), .int x]) ++ List.replicate (2 - (lg_sl ([.ref (ad (2, q, 0)), .int x])).length) Slot.unset).toArray = ls at hl ⊢
  have hl : lv_has ls 2 [(0, .ref (ad (2, q, 0))), (1, .int x)] := hl
  refine lv_aload_n hx hb dP_changeSharing_0 rfl (lv_at hl 0 rfl) ?_
  refine lv_iload_n hx hb dP_changeSharing_1 rfl (lv_at hl 1 rfl) ?_
  refine s_put hx hb hw inP tyP_ok nP hown hK hH hS 4 (by decide) (hw _ (gwd_0 (List.mem_of_getElem? (i := 28) rfl))) (by first | exact ⟨rfl, rfl⟩ | exact ⟨by assumption, rfl⟩ | exact ⟨by assumption, by assumption⟩ | exact ⟨by omega, rfl⟩ | exact ⟨by omega, by omega⟩ | exact ⟨by decide, rfl⟩) rfl rfl rfl rfl rfl (nar01 (by first | exact Or.inl rfl | exact Or.inr rfl | exact bz_01 _ | assumption)) (fit01 (by first | exact Or.inl rfl | exact Or.inr rfl | exact bz_01 _ | assumption)) (Nat.le_of_ble_eq_true rfl) rfl dP_changeSharing_2 (fun H locs hH hS => ?_)
  refine lv_aload_n hx hb dP_changeSharing_5 rfl (lv_at hl 0 rfl) ?_
  refine s_ciE (va_runV (As := []) (rest := []) ⟨hx, hb, hml, hown, hw⟩ (c_P_isOpenToHost l  (by first | assumption | omega | decide)) (cwV 0 hw (gd_V (gwd_2 (List.mem_of_getElem? (i := 46) rfl)) (gwd_1 (List.mem_of_getElem? (i := 23) rfl)) (gwd_1 (List.mem_of_getElem? (i := 24) rfl)) (gwd_0 (List.mem_of_getElem? (i := 2) rfl)) (gwd_1 (List.mem_of_getElem? (i := 25) rfl))) rfl rfl rfl (by decide +kernel) ⟨Nat.le_of_ble_eq_true rfl, Nat.le_of_ble_eq_true rfl⟩) (gPre.V (n := (2, _, 0)) hK hH (by first | exact ⟨rfl, rfl⟩ | exact ⟨by assumption, rfl⟩ | exact ⟨by assumption, by assumption⟩ | exact ⟨by omega, rfl⟩ | exact ⟨by omega, by omega⟩ | exact ⟨by decide, rfl⟩) rfl rfl) rfl rfl hl.1 rfl (lv_room (Nat.le_of_ble_eq_true rfl)) dP_changeSharing_6 ⟨Nat.zero_le _, Nat.zero_le _⟩) hS (fun H locs hH hS => ?_)
  refine s_ifne hx hb dP_changeSharing_9 rfl (fun h_1 => ?_) (fun h_1 => ?_)
  · skip
    exact r_v hx hb hr hlk hK hH hS dP_changeSharing_17 (by simp only [sShare, h_1, if_true, if_false])
  · skip
    refine lv_aload_n hx hb dP_changeSharing_12 rfl (lv_at hl 0 rfl) ?_
    refine lv_iconst (v := 0) hx hb dP_changeSharing_13 (by decide) ?_
    refine s_put hx hb hw inP tyP_ok nP hown hK hH hS 5 (by decide) (hw _ (gwd_0 (List.mem_of_getElem? (i := 31) rfl))) (by first | exact ⟨rfl, rfl⟩ | exact ⟨by assumption, rfl⟩ | exact ⟨by assumption, by assumption⟩ | exact ⟨by omega, rfl⟩ | exact ⟨by omega, by omega⟩ | exact ⟨by decide, rfl⟩) rfl rfl rfl rfl rfl (nar01 (by first | exact Or.inl rfl | exact Or.inr rfl | exact bz_01 _ | assumption)) (fit01 (by first | exact Or.inl rfl | exact Or.inr rfl | exact bz_01 _ | assumption)) (Nat.le_of_ble_eq_true rfl) rfl dP_changeSharing_14 (fun H locs hH hS => ?_)
    exact r_v hx hb hr hlk hK hH hS dP_changeSharing_17 (by simp only [sShare, h_1, if_true, if_false])
set_option maxHeartbeats 4000000 in
set_option maxRecDepth 100000 in
theorem c_P_changeOwner (l : Launch) {D : va_G} {c : Nat → ClassId} {sz : Nat} {ad : gN → Nat} {k : Nat} {I J : gI} {P : gP} {LG : Option Nat} {LP : Option (Nat × Nat)} {q : Nat} {x : Int32} (hq : q < 24) : Met l yP_changeOwner wP_changeOwner { frames := 2, cells := 0, slots := 0, locals := 41 } (gPre D c sz [.ref (ad (2, q, 0)), .int x] (ad, k, I, J, P, LG, LP)) (va_Qv (fun u => u = (ad, k, sOwn I q x, J, P, LG, LP)) (gB D c sz) (gA sz)) 0 0 (gA sz) := by
  refine Met.ofW (cc := cP_changeOwner) (maxL := 2) (ret := none) (by decide) rfl ?_
  intro p e s m args below meth cd s₁ B hml hv
  obtain ⟨rfl, hK, hH⟩ := hv
  have hx := B.exec
  have hb := B.bytes
  have hr := B.returns
  have hts := atoms_spec (ws := wP_changeOwner) B.pre
  have hw : ∀ w ∈ gWd, w.before _ s = true := fun w h => hts w (List.mem_cons_of_mem _ h)
  have hown : s.vm.findClass RP = some m.cls := findClass_of_methodNamed B.named
  have hlk := B.notSynchronized
  have hS : va_S (gA sz) s.heap s.heap [] := va_S.rf
  have hH : gW D c sz ad k I J P LG LP s.heap := hH
  have hl := lv_entry ([.ref (ad (2, q, 0)), .int x]) (n := 2) (Nat.le_of_ble_eq_true rfl)
  rw [lg_entry_eq]
  generalize (lg_sl ([.ref (ad (2, q, 0)), .int x]) ++ List.replicate (2 - (lg_sl ([.ref (ad (2, q, 0)), .int x])).length) Slot.unset).toArray = ls at hl ⊢
  have hl : lv_has ls 2 [(0, .ref (ad (2, q, 0))), (1, .int x)] := hl
  refine lv_aload_n hx hb dP_changeOwner_0 rfl (lv_at hl 0 rfl) ?_
  refine lv_iload_n hx hb dP_changeOwner_1 rfl (lv_at hl 1 rfl) ?_
  refine s_put hx hb hw inP tyP_ok nP hown hK hH hS 1 (by decide) (hw _ (gwd_0 (List.mem_of_getElem? (i := 22) rfl))) (by first | exact ⟨rfl, rfl⟩ | exact ⟨by assumption, rfl⟩ | exact ⟨by assumption, by assumption⟩ | exact ⟨by omega, rfl⟩ | exact ⟨by omega, by omega⟩ | exact ⟨by decide, rfl⟩) rfl rfl rfl rfl rfl rfl rfl (Nat.le_of_ble_eq_true rfl) rfl dP_changeOwner_2 (fun H locs hH hS => ?_)
  refine lv_aload_n hx hb dP_changeOwner_5 rfl (lv_at hl 0 rfl) ?_
  refine lv_iconst (v := 0) hx hb dP_changeOwner_6 (by decide) ?_
  refine s_put hx hb hw inP tyP_ok nP hown hK hH hS 3 (by decide) (hw _ (gwd_0 (List.mem_of_getElem? (i := 27) rfl))) (by first | exact ⟨rfl, rfl⟩ | exact ⟨by assumption, rfl⟩ | exact ⟨by assumption, by assumption⟩ | exact ⟨by omega, rfl⟩ | exact ⟨by omega, by omega⟩ | exact ⟨by decide, rfl⟩) rfl rfl rfl rfl rfl rfl rfl (Nat.le_of_ble_eq_true rfl) rfl dP_changeOwner_7 (fun H locs hH hS => ?_)
  refine lv_aload_n hx hb dP_changeOwner_10 rfl (lv_at hl 0 rfl) ?_
  refine lv_iconst (v := 0) hx hb dP_changeOwner_11 (by decide) ?_
  refine s_cvE (va_runV (As := [.int _]) (rest := []) ⟨hx, hb, hml, hown, hw⟩ (c_P_changeSharing l  (by assumption) (by first | exact Or.inl rfl | exact Or.inr rfl | exact bz_01 _ | assumption)) (cwV 1 hw (gd_V (gwd_2 (List.mem_of_getElem? (i := 42) rfl)) (gwd_2 (List.mem_of_getElem? (i := 43) rfl)) (gwd_2 (List.mem_of_getElem? (i := 44) rfl)) (gwd_0 (List.mem_of_getElem? (i := 2) rfl)) (gwd_2 (List.mem_of_getElem? (i := 45) rfl))) rfl rfl rfl (by decide +kernel) ⟨Nat.le_of_ble_eq_true rfl, Nat.le_of_ble_eq_true rfl⟩) (gPre.V (n := (2, _, 0)) hK hH (by first | exact ⟨rfl, rfl⟩ | exact ⟨by assumption, rfl⟩ | exact ⟨by assumption, by assumption⟩ | exact ⟨by omega, rfl⟩ | exact ⟨by omega, by omega⟩ | exact ⟨by decide, rfl⟩) rfl rfl) rfl rfl hl.1 rfl (lv_room (Nat.le_of_ble_eq_true rfl)) dP_changeOwner_12 ⟨Nat.zero_le _, Nat.zero_le _⟩) hS (fun H locs hH hS => ?_)
  exact r_v hx hb hr hlk hK hH hS dP_changeOwner_15 (rfl)
set_option maxHeartbeats 4000000 in
set_option maxRecDepth 100000 in
theorem c_P_becomeKeepers (l : Launch) {D : va_G} {c : Nat → ClassId} {sz : Nat} {ad : gN → Nat} {k : Nat} {I J : gI} {P : gP} {LG : Option Nat} {LP : Option (Nat × Nat)} {q : Nat} {x : Int32} (hq : q < 24) : Met l yP_becomeKeepers wP_becomeKeepers { frames := 3, cells := 0, slots := 0, locals := 62 } (gPre D c sz [.ref (ad (2, q, 0)), .int x] (ad, k, I, J, P, LG, LP)) (va_Qv (fun u => u = (ad, k, sKeep I q x, J, P, LG, LP)) (gB D c sz) (gA sz)) 0 0 (gA sz) := by
  refine Met.ofW (cc := cP_becomeKeepers) (maxL := 2) (ret := none) (by decide) rfl ?_
  intro p e s m args below meth cd s₁ B hml hv
  obtain ⟨rfl, hK, hH⟩ := hv
  have hx := B.exec
  have hb := B.bytes
  have hr := B.returns
  have hts := atoms_spec (ws := wP_becomeKeepers) B.pre
  have hw : ∀ w ∈ gWd, w.before _ s = true := fun w h => hts w (List.mem_cons_of_mem _ h)
  have hown : s.vm.findClass RP = some m.cls := findClass_of_methodNamed B.named
  have hlk := B.notSynchronized
  have hS : va_S (gA sz) s.heap s.heap [] := va_S.rf
  have hH : gW D c sz ad k I J P LG LP s.heap := hH
  have hl := lv_entry ([.ref (ad (2, q, 0)), .int x]) (n := 2) (Nat.le_of_ble_eq_true rfl)
  rw [lg_entry_eq]
  generalize (lg_sl ([.ref (ad (2, q, 0)), .int x]) ++ List.replicate (2 - (lg_sl ([.ref (ad (2, q, 0)), .int x])).length) Slot.unset).toArray = ls at hl ⊢
  have hl : lv_has ls 2 [(0, .ref (ad (2, q, 0))), (1, .int x)] := hl
  refine lv_aload_n hx hb dP_becomeKeepers_0 rfl (lv_at hl 0 rfl) ?_
  refine s_cvE (va_runV (As := []) (rest := []) ⟨hx, hb, hml, hown, hw⟩ (c_P_wipe l  (by first | assumption | omega | decide)) (cwV 0 hw (gd_V (gwd_2 (List.mem_of_getElem? (i := 34) rfl)) (gwd_2 (List.mem_of_getElem? (i := 35) rfl)) (gwd_2 (List.mem_of_getElem? (i := 36) rfl)) (gwd_0 (List.mem_of_getElem? (i := 2) rfl)) (gwd_2 (List.mem_of_getElem? (i := 37) rfl))) rfl rfl rfl (by decide +kernel) ⟨Nat.le_of_ble_eq_true rfl, Nat.le_of_ble_eq_true rfl⟩) (gPre.V (n := (2, _, 0)) hK hH (by first | exact ⟨rfl, rfl⟩ | exact ⟨by assumption, rfl⟩ | exact ⟨by assumption, by assumption⟩ | exact ⟨by omega, rfl⟩ | exact ⟨by omega, by omega⟩ | exact ⟨by decide, rfl⟩) rfl rfl) rfl rfl hl.1 rfl (lv_room (Nat.le_of_ble_eq_true rfl)) dP_becomeKeepers_1 ⟨Nat.zero_le _, Nat.zero_le _⟩) hS (fun H locs hH hS => ?_)
  refine lv_aload_n hx hb dP_becomeKeepers_4 rfl (lv_at hl 0 rfl) ?_
  refine lv_bipush (v := 7) hx hb dP_becomeKeepers_5 (by decide) ?_
  refine s_cvE (va_runV (As := [.int _]) (rest := []) ⟨hx, hb, hml, hown, hw⟩ (c_P_changeOwner l  (by first | assumption | omega | decide)) (cwV 1 hw (gd_V (gwd_2 (List.mem_of_getElem? (i := 38) rfl)) (gwd_2 (List.mem_of_getElem? (i := 39) rfl)) (gwd_2 (List.mem_of_getElem? (i := 40) rfl)) (gwd_0 (List.mem_of_getElem? (i := 2) rfl)) (gwd_2 (List.mem_of_getElem? (i := 41) rfl))) rfl rfl rfl (by decide +kernel) ⟨Nat.le_of_ble_eq_true rfl, Nat.le_of_ble_eq_true rfl⟩) (gPre.V (n := (2, _, 0)) hK hH (by first | exact ⟨rfl, rfl⟩ | exact ⟨by assumption, rfl⟩ | exact ⟨by assumption, by assumption⟩ | exact ⟨by omega, rfl⟩ | exact ⟨by omega, by omega⟩ | exact ⟨by decide, rfl⟩) rfl rfl) rfl rfl hl.1 rfl (lv_room (Nat.le_of_ble_eq_true rfl)) dP_becomeKeepers_7 ⟨Nat.zero_le _, Nat.zero_le _⟩) hS (fun H locs hH hS => ?_)
  refine lv_aload_n hx hb dP_becomeKeepers_10 rfl (lv_at hl 0 rfl) ?_
  refine lv_iload_n hx hb dP_becomeKeepers_11 rfl (lv_at hl 1 rfl) ?_
  refine s_put hx hb hw inP tyP_ok nP hown hK hH hS 3 (by decide) (hw _ (gwd_0 (List.mem_of_getElem? (i := 27) rfl))) (by first | exact ⟨rfl, rfl⟩ | exact ⟨by assumption, rfl⟩ | exact ⟨by assumption, by assumption⟩ | exact ⟨by omega, rfl⟩ | exact ⟨by omega, by omega⟩ | exact ⟨by decide, rfl⟩) rfl rfl rfl rfl rfl rfl rfl (Nat.le_of_ble_eq_true rfl) rfl dP_becomeKeepers_12 (fun H locs hH hS => ?_)
  exact r_v hx hb hr hlk hK hH hS dP_becomeKeepers_15 (rfl)
set_option maxHeartbeats 4000000 in
set_option maxRecDepth 100000 in
theorem c_P_loseGuest (l : Launch) {D : va_G} {c : Nat → ClassId} {sz : Nat} {ad : gN → Nat} {k : Nat} {I J : gI} {P : gP} {LG : Option Nat} {LP : Option (Nat × Nat)} {q : Nat} {x : Int32} (hq : q < 24) : Met l yP_loseGuest wP_loseGuest { frames := 3, cells := 0, slots := 0, locals := 62 } (gPre D c sz [.ref (ad (2, q, 0)), .int x] (ad, k, I, J, P, LG, LP)) (va_Qv (fun u => u = (ad, k, sLose I q x, J, P, LG, LP)) (gB D c sz) (gA sz)) 0 0 (gA sz) := by
  refine Met.ofW (cc := cP_loseGuest) (maxL := 2) (ret := none) (by decide) rfl ?_
  intro p e s m args below meth cd s₁ B hml hv
  obtain ⟨rfl, hK, hH⟩ := hv
  have hx := B.exec
  have hb := B.bytes
  have hr := B.returns
  have hts := atoms_spec (ws := wP_loseGuest) B.pre
  have hw : ∀ w ∈ gWd, w.before _ s = true := fun w h => hts w (List.mem_cons_of_mem _ h)
  have hown : s.vm.findClass RP = some m.cls := findClass_of_methodNamed B.named
  have hlk := B.notSynchronized
  have hS : va_S (gA sz) s.heap s.heap [] := va_S.rf
  have hH : gW D c sz ad k I J P LG LP s.heap := hH
  have hl := lv_entry ([.ref (ad (2, q, 0)), .int x]) (n := 2) (Nat.le_of_ble_eq_true rfl)
  rw [lg_entry_eq]
  generalize (lg_sl ([.ref (ad (2, q, 0)), .int x]) ++ List.replicate (2 - (lg_sl ([.ref (ad (2, q, 0)), .int x])).length) Slot.unset).toArray = ls at hl ⊢
  have hl : lv_has ls 2 [(0, .ref (ad (2, q, 0))), (1, .int x)] := hl
  refine lv_aload_n hx hb dP_loseGuest_0 rfl (lv_at hl 0 rfl) ?_
  refine s_get hx hb hw inP hown hK hH 1 (by decide) (hw _ (gwd_0 (List.mem_of_getElem? (i := 22) rfl))) (by first | exact ⟨rfl, rfl⟩ | exact ⟨by assumption, rfl⟩ | exact ⟨by assumption, by assumption⟩ | exact ⟨by omega, rfl⟩ | exact ⟨by omega, by omega⟩ | exact ⟨by decide, rfl⟩) rfl rfl rfl rfl dP_loseGuest_1 ?_
  refine lv_iload_n hx hb dP_loseGuest_4 rfl (lv_at hl 1 rfl) ?_
  refine lv_icmp_eq hx hb dP_loseGuest_5 rfl (fun h_1 => ?_) (fun h_1 => ?_)
  · skip
    refine lv_aload_n hx hb dP_loseGuest_16 rfl (lv_at hl 0 rfl) ?_
    refine lv_bipush (v := 8) hx hb dP_loseGuest_17 (by decide) ?_
    refine s_cvE (va_runV (As := [.int _]) (rest := []) ⟨hx, hb, hml, hown, hw⟩ (c_P_changeOwner l  (by first | assumption | omega | decide)) (cwV 1 hw (gd_V (gwd_2 (List.mem_of_getElem? (i := 38) rfl)) (gwd_2 (List.mem_of_getElem? (i := 39) rfl)) (gwd_2 (List.mem_of_getElem? (i := 40) rfl)) (gwd_0 (List.mem_of_getElem? (i := 2) rfl)) (gwd_2 (List.mem_of_getElem? (i := 41) rfl))) rfl rfl rfl (by decide +kernel) ⟨Nat.le_of_ble_eq_true rfl, Nat.le_of_ble_eq_true rfl⟩) (gPre.V (n := (2, _, 0)) hK hH (by first | exact ⟨rfl, rfl⟩ | exact ⟨by assumption, rfl⟩ | exact ⟨by assumption, by assumption⟩ | exact ⟨by omega, rfl⟩ | exact ⟨by omega, by omega⟩ | exact ⟨by decide, rfl⟩) rfl rfl) rfl rfl hl.1 rfl (lv_room (Nat.le_of_ble_eq_true rfl)) dP_loseGuest_19 ⟨Nat.zero_le _, Nat.zero_le _⟩) hS (fun H locs hH hS => ?_)
    refine lv_aload_n hx hb dP_loseGuest_22 rfl (lv_at hl 0 rfl) ?_
    refine s_get hx hb hw inP hown hK hH 2 (by decide) (hw _ (gwd_0 (List.mem_of_getElem? (i := 25) rfl))) (by first | exact ⟨rfl, rfl⟩ | exact ⟨by assumption, rfl⟩ | exact ⟨by assumption, by assumption⟩ | exact ⟨by omega, rfl⟩ | exact ⟨by omega, by omega⟩ | exact ⟨by decide, rfl⟩) rfl rfl rfl rfl dP_loseGuest_23 ?_
    refine lv_iload_n hx hb dP_loseGuest_26 rfl (lv_at hl 1 rfl) ?_
    refine lv_icmp_ne hx hb dP_loseGuest_27 rfl (fun h_2 => ?_) (fun h_2 => ?_)
    · skip
      exact r_v hx hb hr hlk hK hH hS dP_loseGuest_35 (by simp_all [sLose, sLose1, h_1, h_2])
    · skip
      refine lv_aload_n hx hb dP_loseGuest_30 rfl (lv_at hl 0 rfl) ?_
      refine lv_iconst (v := 0) hx hb dP_loseGuest_31 (by decide) ?_
      refine s_put hx hb hw inP tyP_ok nP hown hK hH hS 2 (by decide) (hw _ (gwd_0 (List.mem_of_getElem? (i := 25) rfl))) (by first | exact ⟨rfl, rfl⟩ | exact ⟨by assumption, rfl⟩ | exact ⟨by assumption, by assumption⟩ | exact ⟨by omega, rfl⟩ | exact ⟨by omega, by omega⟩ | exact ⟨by decide, rfl⟩) rfl rfl rfl rfl rfl rfl rfl (Nat.le_of_ble_eq_true rfl) rfl dP_loseGuest_32 (fun H locs hH hS => ?_)
      exact r_v hx hb hr hlk hK hH hS dP_loseGuest_35 (by simp_all [sLose, sLose1, h_1, h_2])
  · skip
    refine lv_aload_n hx hb dP_loseGuest_8 rfl (lv_at hl 0 rfl) ?_
    refine s_get hx hb hw inP hown hK hH 3 (by decide) (hw _ (gwd_0 (List.mem_of_getElem? (i := 27) rfl))) (by first | exact ⟨rfl, rfl⟩ | exact ⟨by assumption, rfl⟩ | exact ⟨by assumption, by assumption⟩ | exact ⟨by omega, rfl⟩ | exact ⟨by omega, by omega⟩ | exact ⟨by decide, rfl⟩) rfl rfl rfl rfl dP_loseGuest_9 ?_
    refine lv_iload_n hx hb dP_loseGuest_12 rfl (lv_at hl 1 rfl) ?_
    refine lv_icmp_ne hx hb dP_loseGuest_13 rfl (fun h_3 => ?_) (fun h_3 => ?_)
    · skip
      refine lv_aload_n hx hb dP_loseGuest_22 rfl (lv_at hl 0 rfl) ?_
      refine s_get hx hb hw inP hown hK hH 2 (by decide) (hw _ (gwd_0 (List.mem_of_getElem? (i := 25) rfl))) (by first | exact ⟨rfl, rfl⟩ | exact ⟨by assumption, rfl⟩ | exact ⟨by assumption, by assumption⟩ | exact ⟨by omega, rfl⟩ | exact ⟨by omega, by omega⟩ | exact ⟨by decide, rfl⟩) rfl rfl rfl rfl dP_loseGuest_23 ?_
      refine lv_iload_n hx hb dP_loseGuest_26 rfl (lv_at hl 1 rfl) ?_
      refine lv_icmp_ne hx hb dP_loseGuest_27 rfl (fun h_4 => ?_) (fun h_4 => ?_)
      · skip
        exact r_v hx hb hr hlk hK hH hS dP_loseGuest_35 (by simp_all [sLose, sLose1, h_1, h_3, h_4])
      · skip
        refine lv_aload_n hx hb dP_loseGuest_30 rfl (lv_at hl 0 rfl) ?_
        refine lv_iconst (v := 0) hx hb dP_loseGuest_31 (by decide) ?_
        refine s_put hx hb hw inP tyP_ok nP hown hK hH hS 2 (by decide) (hw _ (gwd_0 (List.mem_of_getElem? (i := 25) rfl))) (by first | exact ⟨rfl, rfl⟩ | exact ⟨by assumption, rfl⟩ | exact ⟨by assumption, by assumption⟩ | exact ⟨by omega, rfl⟩ | exact ⟨by omega, by omega⟩ | exact ⟨by decide, rfl⟩) rfl rfl rfl rfl rfl rfl rfl (Nat.le_of_ble_eq_true rfl) rfl dP_loseGuest_32 (fun H locs hH hS => ?_)
        exact r_v hx hb hr hlk hK hH hS dP_loseGuest_35 (by simp_all [sLose, sLose1, h_1, h_3, h_4])
    · skip
      refine lv_aload_n hx hb dP_loseGuest_16 rfl (lv_at hl 0 rfl) ?_
      refine lv_bipush (v := 8) hx hb dP_loseGuest_17 (by decide) ?_
      refine s_cvE (va_runV (As := [.int _]) (rest := []) ⟨hx, hb, hml, hown, hw⟩ (c_P_changeOwner l  (by first | assumption | omega | decide)) (cwV 1 hw (gd_V (gwd_2 (List.mem_of_getElem? (i := 38) rfl)) (gwd_2 (List.mem_of_getElem? (i := 39) rfl)) (gwd_2 (List.mem_of_getElem? (i := 40) rfl)) (gwd_0 (List.mem_of_getElem? (i := 2) rfl)) (gwd_2 (List.mem_of_getElem? (i := 41) rfl))) rfl rfl rfl (by decide +kernel) ⟨Nat.le_of_ble_eq_true rfl, Nat.le_of_ble_eq_true rfl⟩) (gPre.V (n := (2, _, 0)) hK hH (by first | exact ⟨rfl, rfl⟩ | exact ⟨by assumption, rfl⟩ | exact ⟨by assumption, by assumption⟩ | exact ⟨by omega, rfl⟩ | exact ⟨by omega, by omega⟩ | exact ⟨by decide, rfl⟩) rfl rfl) rfl rfl hl.1 rfl (lv_room (Nat.le_of_ble_eq_true rfl)) dP_loseGuest_19 ⟨Nat.zero_le _, Nat.zero_le _⟩) hS (fun H locs hH hS => ?_)
      refine lv_aload_n hx hb dP_loseGuest_22 rfl (lv_at hl 0 rfl) ?_
      refine s_get hx hb hw inP hown hK hH 2 (by decide) (hw _ (gwd_0 (List.mem_of_getElem? (i := 25) rfl))) (by first | exact ⟨rfl, rfl⟩ | exact ⟨by assumption, rfl⟩ | exact ⟨by assumption, by assumption⟩ | exact ⟨by omega, rfl⟩ | exact ⟨by omega, by omega⟩ | exact ⟨by decide, rfl⟩) rfl rfl rfl rfl dP_loseGuest_23 ?_
      refine lv_iload_n hx hb dP_loseGuest_26 rfl (lv_at hl 1 rfl) ?_
      refine lv_icmp_ne hx hb dP_loseGuest_27 rfl (fun h_5 => ?_) (fun h_5 => ?_)
      · skip
        exact r_v hx hb hr hlk hK hH hS dP_loseGuest_35 (by simp_all [sLose, sLose1, h_1, h_3, h_5])
      · skip
        refine lv_aload_n hx hb dP_loseGuest_30 rfl (lv_at hl 0 rfl) ?_
        refine lv_iconst (v := 0) hx hb dP_loseGuest_31 (by decide) ?_
        refine s_put hx hb hw inP tyP_ok nP hown hK hH hS 2 (by decide) (hw _ (gwd_0 (List.mem_of_getElem? (i := 25) rfl))) (by first | exact ⟨rfl, rfl⟩ | exact ⟨by assumption, rfl⟩ | exact ⟨by assumption, by assumption⟩ | exact ⟨by omega, rfl⟩ | exact ⟨by omega, by omega⟩ | exact ⟨by decide, rfl⟩) rfl rfl rfl rfl rfl rfl rfl (Nat.le_of_ble_eq_true rfl) rfl dP_loseGuest_32 (fun H locs hH hS => ?_)
        exact r_v hx hb hr hlk hK hH hS dP_loseGuest_35 (by simp_all [sLose, sLose1, h_1, h_3, h_5])
end
section
set_option maxHeartbeats 4000000 in
set_option maxRecDepth 100000 in
theorem c_G_needsTable (l : Launch) {D : va_G} {c : Nat → ClassId} {sz : Nat} {ad : gN → Nat} {k : Nat} {I J : gI} {P : gP} {LG : Option Nat} {LP : Option (Nat × Nat)} {g t z : Nat} (hg : g < k) (hz : z = 4 ∨ z = 16) (ht : t < 64 / z) (hPl : ∀ g a q, P g a = some q → q < 24) : Met l yG_needsTable wG_needsTable { frames := 0, cells := 0, slots := 0, locals := 0 } (gPre D c sz [.ref (ad (6, g, 0)), .int (nI t), .int (nI z)] (ad, k, I, J, P, LG, LP)) (va_Qi (fun r u => r = bz (sNd P g t z = true) ∧ u = (ad, k, I, J, P, LG, LP)) (gB D c sz) (gA sz)) 0 0 (gA sz) := by
  refine Met.ofW (cc := cG_needsTable) (maxL := 4) (ret := (some .boolean)) (by decide) rfl ?_
  intro p e s m args below meth cd s₁ B hml hv
  obtain ⟨rfl, hK, hH⟩ := hv
  have hx := B.exec
  have hb := B.bytes
  have hr := B.returns
  have hts := atoms_spec (ws := wG_needsTable) B.pre
  have hw : ∀ w ∈ gWd, w.before _ s = true := fun w h => hts w (List.mem_cons_of_mem _ h)
  have hown : s.vm.findClass RG = some m.cls := findClass_of_methodNamed B.named
  have hlk := B.notSynchronized
  have hS : va_S (gA sz) s.heap s.heap [] := va_S.rf
  have hH : gW D c sz ad k I J P LG LP s.heap := hH
  have hl := lv_entry ([.ref (ad (6, g, 0)), .int (nI t), .int (nI z)]) (n := 4) (Nat.le_of_ble_eq_true rfl)
  rw [lg_entry_eq]
  generalize (lg_sl ([.ref (ad (6, g, 0)), .int (nI t), .int (nI z)]) ++ List.replicate (4 - (lg_sl ([.ref (ad (6, g, 0)), .int (nI t), .int (nI z)])).length) Slot.unset).toArray = ls at hl ⊢
  have hl : lv_has ls 4 [(0, .ref (ad (6, g, 0))), (1, .int (nI t)), (2, .int (nI z))] := hl
  have hz0 : 0 < z := by omega
  have key : ∀ (n i : Nat), i + n = z → (∀ j, j < i → P g (t * z + j) = none) → ∀ ls : Array Slot, lv_has ls 4 [(3, .int (nI i)), (0, .ref (ad (6, g, 0))), (1, .int (nI t)), (2, .int (nI z))] → W p l e (headSpec wG_needsTable { frames := 0, cells := 0, slots := 0, locals := 0 }).room s m ([.ref (ad (6, g, 0)), .int (nI t), .int (nI z)] : List Value).toArray below meth cd s.heap [] 0 0 (MQ below (va_Qi (fun r u => r = bz (sNd P g t z = true) ∧ u = (ad, k, I, J, P, LG, LP)) (gB D c sz) (gA sz)) ([.ref (ad (6, g, 0)), .int (nI t), .int (nI z)] : List Value).toArray s 0 0 (gA sz)) (F0 m 2 ls []) := by
    intro n
    induction n with
    | zero =>
      intro i hi hn ls hl
      refine lv_iload_n hx hb dG_needsTable_2 rfl (lv_at hl 0 rfl) ?_
      refine lv_iload_n hx hb dG_needsTable_3 rfl (lv_at hl 3 rfl) ?_
      refine lv_icmp_ge hx hb dG_needsTable_4 rfl (fun h_1 => ?_) (fun h_1 => ?_)
      · skip
        refine lv_iconst (v := 0) hx hb dG_needsTable_28 (by decide) ?_
        exact r_z hx hb hr hlk hK hH hS dG_needsTable_29 (by first | exact Or.inl rfl | exact Or.inr rfl | exact bz_01 _ | assumption) (⟨(bz_f (fun q => by obtain ⟨j, hj, hs⟩ := anyB_iff.mp q; rw [hn j (by omega)] at hs; cases hs)).symm, rfl⟩)
      · exact absurd (nI_le (show z ≤ i by omega) (by omega)) h_1
    | succ n ih =>
      intro i hi hn ls hl
      refine lv_iload_n hx hb dG_needsTable_2 rfl (lv_at hl 0 rfl) ?_
      refine lv_iload_n hx hb dG_needsTable_3 rfl (lv_at hl 3 rfl) ?_
      refine lv_icmp_ge hx hb dG_needsTable_4 rfl (fun h_2 => ?_) (fun h_2 => ?_)
      · exact absurd h_2 (nI_ge (by omega) (by omega))
      · skip
        refine lv_aload_n hx hb dG_needsTable_7 rfl (lv_at hl 1 rfl) ?_
        refine s_get hx hb hw inG hown hK hH 1 (by decide) (hw _ (gwd_2 (List.mem_of_getElem? (i := 15) rfl))) (by first | exact ⟨rfl, rfl⟩ | exact ⟨by assumption, rfl⟩ | exact ⟨by assumption, by assumption⟩ | exact ⟨by omega, rfl⟩ | exact ⟨by omega, by omega⟩ | exact ⟨by decide, rfl⟩) rfl rfl rfl rfl dG_needsTable_8 ?_
        refine lv_iload_n hx hb dG_needsTable_11 rfl (lv_at hl 2 rfl) ?_
        refine lv_iload_n hx hb dG_needsTable_12 rfl (lv_at hl 3 rfl) ?_
        refine lv_imul hx hb dG_needsTable_13 ?_
        refine lv_iload_n hx hb dG_needsTable_14 rfl (lv_at hl 0 rfl) ?_
        refine lv_iadd hx hb dG_needsTable_15 ?_
        refine s_aaL hx hb hK hH (by first | assumption | decide | omega) (t * z + i) (by rw [pk_mul, nI_add]) (by rcases hz with rfl | rfl <;> omega) dG_needsTable_16 (fun q_4 h_3 => ?_) (fun h_3 => ?_)
        · have hlt_q_4 : q_4 < 24 := hPl _ _ _ h_3
          refine lv_ifnull hx hb dG_needsTable_17 ?_
          refine lv_iconst (v := 1) hx hb dG_needsTable_20 (by decide) ?_
          exact r_z hx hb hr hlk hK hH hS dG_needsTable_21 (by first | exact Or.inl rfl | exact Or.inr rfl | exact bz_01 _ | assumption) (⟨(bz_t (anyB_iff.mpr ⟨i, by omega, by rw [h_3]; rfl⟩)).symm, rfl⟩)
        · skip
          refine lv_ifnullN hx hb dG_needsTable_17 rfl ?_
          refine lv_iinc (k := 0) (v := nI (i + 1)) hx hb dG_needsTable_22 hl rfl (by rw [nI_succ]; rfl) (by decide) rfl (fun ls hl => ?_)
          have hl : lv_has ls 4 [(3, .int _), (0, .ref _), (1, .int _), (2, .int _)] := hl
          refine lv_goto hx hb dG_needsTable_25 rfl ?_
          exact ih (i + 1) (by omega) (fun j hj => by rcases Nat.lt_succ_iff_lt_or_eq.mp hj with h | rfl; exact hn j h; exact h_3) ls (lv_sub hl [0, 1, 2, 3] rfl)
  refine lv_iconst (v := 0) hx hb dG_needsTable_0 (by decide) ?_
  refine lv_istore_n hx hb dG_needsTable_1 rfl hl (by decide) rfl (fun ls hl => ?_)
  have hl : lv_has ls 4 [(3, .int _), (0, .ref _), (1, .int _), (2, .int _)] := hl
  exact key z 0 (by omega) (fun j hj => by omega) ls (lv_sub hl [0, 1, 2, 3] rfl)
set_option maxHeartbeats 4000000 in
set_option maxRecDepth 100000 in
theorem c_G_countTablesOf (l : Launch) {D : va_G} {c : Nat → ClassId} {sz : Nat} {ad : gN → Nat} {k : Nat} {I J : gI} {P : gP} {LG : Option Nat} {LP : Option (Nat × Nat)} {g z : Nat} (hg : g < k) (hz : z = 4 ∨ z = 16) (hPl : ∀ g a q, P g a = some q → q < 24) : Met l yG_countTablesOf wG_countTablesOf { frames := 1, cells := 0, slots := 0, locals := 23 } (gPre D c sz [.ref (ad (6, g, 0)), .int (nI z)] (ad, k, I, J, P, LG, LP)) (va_Qi (fun r u => r = nI (sCnt P g z) ∧ u = (ad, k, I, J, P, LG, LP)) (gB D c sz) (gA sz)) 0 0 (gA sz) := by
  refine Met.ofW (cc := cG_countTablesOf) (maxL := 4) (ret := (some .int)) (by decide) rfl ?_
  intro p e s m args below meth cd s₁ B hml hv
  obtain ⟨rfl, hK, hH⟩ := hv
  have hx := B.exec
  have hb := B.bytes
  have hr := B.returns
  have hts := atoms_spec (ws := wG_countTablesOf) B.pre
  have hw : ∀ w ∈ gWd, w.before _ s = true := fun w h => hts w (List.mem_cons_of_mem _ h)
  have hown : s.vm.findClass RG = some m.cls := findClass_of_methodNamed B.named
  have hlk := B.notSynchronized
  have hS : va_S (gA sz) s.heap s.heap [] := va_S.rf
  have hH : gW D c sz ad k I J P LG LP s.heap := hH
  have hl := lv_entry ([.ref (ad (6, g, 0)), .int (nI z)]) (n := 4) (Nat.le_of_ble_eq_true rfl)
  rw [lg_entry_eq]
  generalize (lg_sl ([.ref (ad (6, g, 0)), .int (nI z)]) ++ List.replicate (4 - (lg_sl ([.ref (ad (6, g, 0)), .int (nI z)])).length) Slot.unset).toArray = ls at hl ⊢
  have hl : lv_has ls 4 [(0, .ref (ad (6, g, 0))), (1, .int (nI z))] := hl
  have hz0 : 0 < z := by omega
  have hzq : 64 / z ≤ 64 := Nat.div_le_self 64 z
  have h64 : (64 : Int32) / nI z = nI (64 / z) := pk_div (a := 64) (by decide) hz0 (by omega)
  have hzn : ¬ nI z = 0 := nI_ne0 hz0 (by omega)
  have key : ∀ (n i a : Nat), i + n = 64 / z → a = cntB (fun t => sNd P g t z) i → ∀ ls : Array Slot, lv_has ls 4 [(3, .int (nI i)), (2, .int (nI a)), (0, .ref (ad (6, g, 0))), (1, .int (nI z))] → ∀ (H : Heap) (locs : List Loc), gW D c sz ad k I J P LG LP H → va_S (gA sz) s.heap H locs → W p l e (headSpec wG_countTablesOf { frames := 1, cells := 0, slots := 0, locals := 23 }).room s m ([.ref (ad (6, g, 0)), .int (nI z)] : List Value).toArray below meth cd H locs 0 0 (MQ below (va_Qi (fun r u => r = nI (sCnt P g z) ∧ u = (ad, k, I, J, P, LG, LP)) (gB D c sz) (gA sz)) ([.ref (ad (6, g, 0)), .int (nI z)] : List Value).toArray s 0 0 (gA sz)) (F0 m 4 ls []) := by
    intro n
    induction n with
    | zero =>
      intro i a hi ha ls hl H locs hH hS
      refine lv_iload_n hx hb dG_countTablesOf_4 rfl (lv_at hl 0 rfl) ?_
      refine lv_bipush (v := 64) hx hb dG_countTablesOf_5 (by decide) ?_
      refine lv_iload_n hx hb dG_countTablesOf_7 rfl (lv_at hl 3 rfl) ?_
      refine lv_idiv hx hb dG_countTablesOf_8 hzn ?_
      refine lv_icmp_ge hx hb dG_countTablesOf_9 rfl (fun h_1 => ?_) (fun h_1 => ?_)
      · skip
        refine lv_iload_n hx hb dG_countTablesOf_30 rfl (lv_at hl 1 rfl) ?_
        exact r_i hx hb hr hlk hK hH hS dG_countTablesOf_31 (⟨by rw [ha, show i = 64 / z by omega]; rfl, rfl⟩)
      · exact absurd (by rw [h64]; exact nI_le (by omega) (by omega)) h_1
    | succ n ih =>
      intro i a hi ha ls hl H locs hH hS
      refine lv_iload_n hx hb dG_countTablesOf_4 rfl (lv_at hl 0 rfl) ?_
      refine lv_bipush (v := 64) hx hb dG_countTablesOf_5 (by decide) ?_
      refine lv_iload_n hx hb dG_countTablesOf_7 rfl (lv_at hl 3 rfl) ?_
      refine lv_idiv hx hb dG_countTablesOf_8 hzn ?_
      refine lv_icmp_ge hx hb dG_countTablesOf_9 rfl (fun h_2 => ?_) (fun h_2 => ?_)
      · exact absurd (by rw [← h64]; exact h_2) (nI_ge (show i < 64 / z by omega) (by omega))
      · skip
        refine lv_aload_n hx hb dG_countTablesOf_12 rfl (lv_at hl 2 rfl) ?_
        refine lv_iload_n hx hb dG_countTablesOf_13 rfl (lv_at hl 0 rfl) ?_
        refine lv_iload_n hx hb dG_countTablesOf_14 rfl (lv_at hl 3 rfl) ?_
        refine s_ciE (va_runV (As := [.int _, .int _]) (rest := []) ⟨hx, hb, hml, hown, hw⟩ (c_G_needsTable l  (by assumption) (by first | assumption | exact Or.inl rfl | exact Or.inr rfl) (by first | assumption | omega) (hPl)) (cwV 2 hw (gd_V (gwd_3 (List.mem_of_getElem? (i := 17) rfl)) (gwd_3 (List.mem_of_getElem? (i := 18) rfl)) (gwd_9 (List.mem_of_getElem? (i := 16) rfl)) (gwd_0 (List.mem_of_getElem? (i := 4) rfl)) (gwd_3 (List.mem_of_getElem? (i := 19) rfl))) rfl rfl rfl (by decide +kernel) ⟨Nat.le_of_ble_eq_true rfl, Nat.le_of_ble_eq_true rfl⟩) (gPre.V (n := (6, _, 0)) hK hH (by first | exact ⟨rfl, rfl⟩ | exact ⟨by assumption, rfl⟩ | exact ⟨by assumption, by assumption⟩ | exact ⟨by omega, rfl⟩ | exact ⟨by omega, by omega⟩ | exact ⟨by decide, rfl⟩) rfl rfl) rfl rfl hl.1 rfl (lv_room (Nat.le_of_ble_eq_true rfl)) dG_countTablesOf_15 ⟨Nat.zero_le _, Nat.zero_le _⟩) hS (fun H locs hH hS => ?_)
        refine s_ifeq hx hb dG_countTablesOf_18 rfl (fun h_3 => ?_) (fun h_3 => ?_)
        · skip
          refine lv_iinc (k := 0) (v := nI (i + 1)) hx hb dG_countTablesOf_24 hl rfl (by rw [nI_succ]; rfl) (by decide) rfl (fun ls hl => ?_)
          have hl : lv_has ls 4 [(3, .int _), (2, .int _), (0, .ref _), (1, .int _)] := hl
          refine lv_goto hx hb dG_countTablesOf_27 rfl ?_
          exact ih (i + 1) _ (by omega) (by simp [cntB, ha, h_3]) ls (lv_sub hl [0, 1, 2, 3] rfl) H locs hH hS
        · skip
          refine lv_iinc (k := 1) (v := nI (a + 1)) hx hb dG_countTablesOf_21 hl rfl (by rw [nI_succ]; rfl) (by decide) rfl (fun ls hl => ?_)
          have hl : lv_has ls 4 [(2, .int _), (3, .int _), (0, .ref _), (1, .int _)] := hl
          refine lv_iinc (k := 1) (v := nI (i + 1)) hx hb dG_countTablesOf_24 hl rfl (by rw [nI_succ]; rfl) (by decide) rfl (fun ls hl => ?_)
          have hl : lv_has ls 4 [(3, .int _), (2, .int _), (0, .ref _), (1, .int _)] := hl
          refine lv_goto hx hb dG_countTablesOf_27 rfl ?_
          exact ih (i + 1) _ (by omega) (by simp [cntB, ha, h_3]) ls (lv_sub hl [0, 1, 2, 3] rfl) H locs hH hS
  refine lv_iconst (v := 0) hx hb dG_countTablesOf_0 (by decide) ?_
  refine lv_istore_n hx hb dG_countTablesOf_1 rfl hl (by decide) rfl (fun ls hl => ?_)
  have hl : lv_has ls 4 [(2, .int _), (0, .ref _), (1, .int _)] := hl
  refine lv_iconst (v := 0) hx hb dG_countTablesOf_2 (by decide) ?_
  refine lv_istore_n hx hb dG_countTablesOf_3 rfl hl (by decide) rfl (fun ls hl => ?_)
  have hl : lv_has ls 4 [(3, .int _), (2, .int _), (0, .ref _), (1, .int _)] := hl
  exact key (64 / z) 0 0 (by omega) rfl ls (lv_sub hl [0, 1, 2, 3] rfl) s.heap [] hH hS
set_option maxHeartbeats 4000000 in
set_option maxRecDepth 100000 in
theorem c_G_countTables (l : Launch) {D : va_G} {c : Nat → ClassId} {sz : Nat} {ad : gN → Nat} {k : Nat} {I J : gI} {P : gP} {LG : Option Nat} {LP : Option (Nat × Nat)} {g : Nat} (hg : g < k) (hPl : ∀ g a q, P g a = some q → q < 24) : Met l yG_countTables wG_countTables { frames := 2, cells := 0, slots := 0, locals := 46 } (gPre D c sz [.ref (ad (6, g, 0))] (ad, k, I, J, P, LG, LP)) (va_Qi (fun r u => r = sTab P g ∧ u = (ad, k, I, J, P, LG, LP)) (gB D c sz) (gA sz)) 0 0 (gA sz) := by
  refine Met.ofW (cc := cG_countTables) (maxL := 1) (ret := (some .int)) (by decide) rfl ?_
  intro p e s m args below meth cd s₁ B hml hv
  obtain ⟨rfl, hK, hH⟩ := hv
  have hx := B.exec
  have hb := B.bytes
  have hr := B.returns
  have hts := atoms_spec (ws := wG_countTables) B.pre
  have hw : ∀ w ∈ gWd, w.before _ s = true := fun w h => hts w (List.mem_cons_of_mem _ h)
  have hown : s.vm.findClass RG = some m.cls := findClass_of_methodNamed B.named
  have hlk := B.notSynchronized
  have hS : va_S (gA sz) s.heap s.heap [] := va_S.rf
  have hH : gW D c sz ad k I J P LG LP s.heap := hH
  have hl := lv_entry ([.ref (ad (6, g, 0))]) (n := 1) (Nat.le_of_ble_eq_true rfl)
  rw [lg_entry_eq]
  generalize (lg_sl ([.ref (ad (6, g, 0))]) ++ List.replicate (1 - (lg_sl ([.ref (ad (6, g, 0))])).length) Slot.unset).toArray = ls at hl ⊢
  have hl : lv_has ls 1 [(0, .ref (ad (6, g, 0)))] := hl
  refine lv_aload_n hx hb dG_countTables_0 rfl (lv_at hl 0 rfl) ?_
  refine lv_bipush (v := 16) hx hb dG_countTables_1 (by decide) ?_
  refine s_ciE (va_runV (As := [.int _]) (rest := []) ⟨hx, hb, hml, hown, hw⟩ (c_G_countTablesOf l (z := 16) (by assumption) (by first | assumption | exact Or.inl rfl | exact Or.inr rfl) (hPl)) (cwV 1 hw (gd_V (gwd_3 (List.mem_of_getElem? (i := 14) rfl)) (gwd_3 (List.mem_of_getElem? (i := 15) rfl)) (gwd_9 (List.mem_of_getElem? (i := 15) rfl)) (gwd_0 (List.mem_of_getElem? (i := 4) rfl)) (gwd_3 (List.mem_of_getElem? (i := 16) rfl))) rfl rfl rfl (by decide +kernel) ⟨Nat.le_of_ble_eq_true rfl, Nat.le_of_ble_eq_true rfl⟩) (gPre.V (n := (6, _, 0)) hK hH (by first | exact ⟨rfl, rfl⟩ | exact ⟨by assumption, rfl⟩ | exact ⟨by assumption, by assumption⟩ | exact ⟨by omega, rfl⟩ | exact ⟨by omega, by omega⟩ | exact ⟨by decide, rfl⟩) rfl rfl) rfl rfl hl.1 rfl (lv_room (Nat.le_of_ble_eq_true rfl)) dG_countTables_3 ⟨Nat.zero_le _, Nat.zero_le _⟩) hS (fun H locs hH hS => ?_)
  refine lv_aload_n hx hb dG_countTables_6 rfl (lv_at hl 0 rfl) ?_
  refine lv_iconst (v := 4) hx hb dG_countTables_7 (by decide) ?_
  refine s_ciE (va_runV (As := [.int _]) (rest := [.int _]) ⟨hx, hb, hml, hown, hw⟩ (c_G_countTablesOf l (z := 4) (by assumption) (by first | assumption | exact Or.inl rfl | exact Or.inr rfl) (hPl)) (cwV 1 hw (gd_V (gwd_3 (List.mem_of_getElem? (i := 14) rfl)) (gwd_3 (List.mem_of_getElem? (i := 15) rfl)) (gwd_9 (List.mem_of_getElem? (i := 15) rfl)) (gwd_0 (List.mem_of_getElem? (i := 4) rfl)) (gwd_3 (List.mem_of_getElem? (i := 16) rfl))) rfl rfl rfl (by decide +kernel) ⟨Nat.le_of_ble_eq_true rfl, Nat.le_of_ble_eq_true rfl⟩) (gPre.V (n := (6, _, 0)) hK hH (by first | exact ⟨rfl, rfl⟩ | exact ⟨by assumption, rfl⟩ | exact ⟨by assumption, by assumption⟩ | exact ⟨by omega, rfl⟩ | exact ⟨by omega, by omega⟩ | exact ⟨by decide, rfl⟩) rfl rfl) rfl rfl hl.1 rfl (lv_room (Nat.le_of_ble_eq_true rfl)) dG_countTables_8 ⟨Nat.zero_le _, Nat.zero_le _⟩) hS (fun H locs hH hS => ?_)
  refine lv_iadd hx hb dG_countTables_11 ?_
  exact r_i hx hb hr hlk hK hH hS dG_countTables_12 (⟨rfl, rfl⟩)
set_option maxHeartbeats 4000000 in
set_option maxRecDepth 100000 in
theorem c_G_poolSize (l : Launch) {D : va_G} {c : Nat → ClassId} {sz : Nat} {ad : gN → Nat} {k : Nat} {I J : gI} {P : gP} {LG : Option Nat} {LP : Option (Nat × Nat)} {g : Nat} (hg : g < k) (hPl : ∀ g a q, P g a = some q → q < 24) : Met l yG_poolSize wG_poolSize { frames := 3, cells := 0, slots := 0, locals := 66 } (gPre D c sz [.ref (ad (6, g, 0))] (ad, k, I, J, P, LG, LP)) (va_Qi (fun r u => r = sPool I P g ∧ u = (ad, k, I, J, P, LG, LP)) (gB D c sz) (gA sz)) 0 0 (gA sz) := by
  refine Met.ofW (cc := cG_poolSize) (maxL := 1) (ret := (some .int)) (by decide) rfl ?_
  intro p e s m args below meth cd s₁ B hml hv
  obtain ⟨rfl, hK, hH⟩ := hv
  have hx := B.exec
  have hb := B.bytes
  have hr := B.returns
  have hts := atoms_spec (ws := wG_poolSize) B.pre
  have hw : ∀ w ∈ gWd, w.before _ s = true := fun w h => hts w (List.mem_cons_of_mem _ h)
  have hown : s.vm.findClass RG = some m.cls := findClass_of_methodNamed B.named
  have hlk := B.notSynchronized
  have hS : va_S (gA sz) s.heap s.heap [] := va_S.rf
  have hH : gW D c sz ad k I J P LG LP s.heap := hH
  have hl := lv_entry ([.ref (ad (6, g, 0))]) (n := 1) (Nat.le_of_ble_eq_true rfl)
  rw [lg_entry_eq]
  generalize (lg_sl ([.ref (ad (6, g, 0))]) ++ List.replicate (1 - (lg_sl ([.ref (ad (6, g, 0))])).length) Slot.unset).toArray = ls at hl ⊢
  have hl : lv_has ls 1 [(0, .ref (ad (6, g, 0)))] := hl
  refine lv_aload_n hx hb dG_poolSize_0 rfl (lv_at hl 0 rfl) ?_
  refine s_get hx hb hw inG hown hK hH 5 (by decide) (hw _ (gwd_2 (List.mem_of_getElem? (i := 22) rfl))) (by first | exact ⟨rfl, rfl⟩ | exact ⟨by assumption, rfl⟩ | exact ⟨by assumption, by assumption⟩ | exact ⟨by omega, rfl⟩ | exact ⟨by omega, by omega⟩ | exact ⟨by decide, rfl⟩) rfl rfl rfl rfl dG_poolSize_1 ?_
  refine lv_aload_n hx hb dG_poolSize_4 rfl (lv_at hl 0 rfl) ?_
  refine s_ciE (va_runV (As := []) (rest := [.int _]) ⟨hx, hb, hml, hown, hw⟩ (c_G_countTables l  (by assumption) (hPl)) (cwV 0 hw (gd_V (gwd_3 (List.mem_of_getElem? (i := 10) rfl)) (gwd_3 (List.mem_of_getElem? (i := 11) rfl)) (gwd_3 (List.mem_of_getElem? (i := 12) rfl)) (gwd_0 (List.mem_of_getElem? (i := 4) rfl)) (gwd_3 (List.mem_of_getElem? (i := 13) rfl))) rfl rfl rfl (by decide +kernel) ⟨Nat.le_of_ble_eq_true rfl, Nat.le_of_ble_eq_true rfl⟩) (gPre.V (n := (6, _, 0)) hK hH (by first | exact ⟨rfl, rfl⟩ | exact ⟨by assumption, rfl⟩ | exact ⟨by assumption, by assumption⟩ | exact ⟨by omega, rfl⟩ | exact ⟨by omega, by omega⟩ | exact ⟨by decide, rfl⟩) rfl rfl) rfl rfl hl.1 rfl (lv_room (Nat.le_of_ble_eq_true rfl)) dG_poolSize_5 ⟨Nat.zero_le _, Nat.zero_le _⟩) hS (fun H locs hH hS => ?_)
  refine lv_isub hx hb dG_poolSize_8 ?_
  exact r_i hx hb hr hlk hK hH hS dG_poolSize_9 (⟨rfl, rfl⟩)
end
section
set_option maxHeartbeats 4000000 in
set_option maxRecDepth 100000 in
theorem c_G_newTablesFor (l : Launch) {D : va_G} {c : Nat → ClassId} {sz : Nat} {ad : gN → Nat} {k : Nat} {I J : gI} {P : gP} {LG : Option Nat} {LP : Option (Nat × Nat)} {g a : Nat} (hg : g < k) (ha : a < 64) (hPl : ∀ g a q, P g a = some q → q < 24) : Met l yG_newTablesFor wG_newTablesFor { frames := 1, cells := 0, slots := 0, locals := 23 } (gPre D c sz [.ref (ad (6, g, 0)), .int (nI a)] (ad, k, I, J, P, LG, LP)) (va_Qi (fun r u => r = sNew P g a ∧ u = (ad, k, I, J, P, LG, LP)) (gB D c sz) (gA sz)) 0 0 (gA sz) := by
  refine Met.ofW (cc := cG_newTablesFor) (maxL := 4) (ret := (some .int)) (by decide) rfl ?_
  intro p e s m args below meth cd s₁ B hml hv
  obtain ⟨rfl, hK, hH⟩ := hv
  have hx := B.exec
  have hb := B.bytes
  have hr := B.returns
  have hts := atoms_spec (ws := wG_newTablesFor) B.pre
  have hw : ∀ w ∈ gWd, w.before _ s = true := fun w h => hts w (List.mem_cons_of_mem _ h)
  have hown : s.vm.findClass RG = some m.cls := findClass_of_methodNamed B.named
  have hlk := B.notSynchronized
  have hS : va_S (gA sz) s.heap s.heap [] := va_S.rf
  have hH : gW D c sz ad k I J P LG LP s.heap := hH
  have hl := lv_entry ([.ref (ad (6, g, 0)), .int (nI a)]) (n := 4) (Nat.le_of_ble_eq_true rfl)
  rw [lg_entry_eq]
  generalize (lg_sl ([.ref (ad (6, g, 0)), .int (nI a)]) ++ List.replicate (4 - (lg_sl ([.ref (ad (6, g, 0)), .int (nI a)])).length) Slot.unset).toArray = ls at hl ⊢
  have hl : lv_has ls 4 [(0, .ref (ad (6, g, 0))), (1, .int (nI a))] := hl
  have e16 : nI a / 16 = nI (a / 16) := pk_div (d := 16) (by omega) (by decide) (by decide)
  have e4 : nI a / 4 = nI (a / 4) := pk_div (d := 4) (by omega) (by decide) (by decide)
  refine lv_aload_n hx hb dG_newTablesFor_0 rfl (lv_at hl 0 rfl) ?_
  refine lv_iload_n hx hb dG_newTablesFor_1 rfl (lv_at hl 1 rfl) ?_
  refine lv_bipush (v := 16) hx hb dG_newTablesFor_2 (by decide) ?_
  refine lv_idiv hx hb dG_newTablesFor_4 (by decide) ?_
  rw [e16]
  refine lv_bipush (v := 16) hx hb dG_newTablesFor_5 (by decide) ?_
  refine s_ciE (va_runV (As := [.int _, .int _]) (rest := []) ⟨hx, hb, hml, hown, hw⟩ (c_G_needsTable l (t := a / 16) (z := 16) (by assumption) (by first | exact Or.inl rfl | exact Or.inr rfl) (by omega) (hPl)) (cwV 2 hw (gd_V (gwd_3 (List.mem_of_getElem? (i := 17) rfl)) (gwd_3 (List.mem_of_getElem? (i := 18) rfl)) (gwd_9 (List.mem_of_getElem? (i := 16) rfl)) (gwd_0 (List.mem_of_getElem? (i := 4) rfl)) (gwd_3 (List.mem_of_getElem? (i := 19) rfl))) rfl rfl rfl (by decide +kernel) ⟨Nat.le_of_ble_eq_true rfl, Nat.le_of_ble_eq_true rfl⟩) (gPre.V (n := (6, _, 0)) hK hH (by first | exact ⟨rfl, rfl⟩ | exact ⟨by assumption, rfl⟩ | exact ⟨by assumption, by assumption⟩ | exact ⟨by omega, rfl⟩ | exact ⟨by omega, by omega⟩ | exact ⟨by decide, rfl⟩) rfl rfl) rfl rfl hl.1 rfl (lv_room (Nat.le_of_ble_eq_true rfl)) dG_newTablesFor_7 ⟨Nat.zero_le _, Nat.zero_le _⟩) hS (fun H locs hH hS => ?_)
  refine s_ifeq hx hb dG_newTablesFor_10 rfl (fun h_1 => ?_) (fun h_1 => ?_)
  · skip
    refine lv_iconst (v := 1) hx hb dG_newTablesFor_17 (by decide) ?_
    refine lv_istore_n hx hb dG_newTablesFor_18 rfl hl (by decide) rfl (fun ls hl => ?_)
    have hl : lv_has ls 4 [(2, .int _), (0, .ref _), (1, .int _)] := hl
    refine lv_aload_n hx hb dG_newTablesFor_19 rfl (lv_at hl 1 rfl) ?_
    refine lv_iload_n hx hb dG_newTablesFor_20 rfl (lv_at hl 2 rfl) ?_
    refine lv_iconst (v := 4) hx hb dG_newTablesFor_21 (by decide) ?_
    refine lv_idiv hx hb dG_newTablesFor_22 (by decide) ?_
    rw [e4]
    refine lv_iconst (v := 4) hx hb dG_newTablesFor_23 (by decide) ?_
    refine s_ciE (va_runV (As := [.int _, .int _]) (rest := []) ⟨hx, hb, hml, hown, hw⟩ (c_G_needsTable l (t := a / 4) (z := 4) (by assumption) (by first | exact Or.inl rfl | exact Or.inr rfl) (by omega) (hPl)) (cwV 2 hw (gd_V (gwd_3 (List.mem_of_getElem? (i := 17) rfl)) (gwd_3 (List.mem_of_getElem? (i := 18) rfl)) (gwd_9 (List.mem_of_getElem? (i := 16) rfl)) (gwd_0 (List.mem_of_getElem? (i := 4) rfl)) (gwd_3 (List.mem_of_getElem? (i := 19) rfl))) rfl rfl rfl (by decide +kernel) ⟨Nat.le_of_ble_eq_true rfl, Nat.le_of_ble_eq_true rfl⟩) (gPre.V (n := (6, _, 0)) hK hH (by first | exact ⟨rfl, rfl⟩ | exact ⟨by assumption, rfl⟩ | exact ⟨by assumption, by assumption⟩ | exact ⟨by omega, rfl⟩ | exact ⟨by omega, by omega⟩ | exact ⟨by decide, rfl⟩) rfl rfl) rfl rfl hl.1 rfl (lv_room (Nat.le_of_ble_eq_true rfl)) dG_newTablesFor_24 ⟨Nat.zero_le _, Nat.zero_le _⟩) hS (fun H locs hH hS => ?_)
    refine s_ifeq hx hb dG_newTablesFor_27 rfl (fun h_2 => ?_) (fun h_2 => ?_)
    · skip
      refine lv_iconst (v := 1) hx hb dG_newTablesFor_34 (by decide) ?_
      refine lv_istore_n hx hb dG_newTablesFor_35 rfl hl (by decide) rfl (fun ls hl => ?_)
      have hl : lv_has ls 4 [(3, .int _), (2, .int _), (0, .ref _), (1, .int _)] := hl
      refine lv_iload_n hx hb dG_newTablesFor_36 rfl (lv_at hl 1 rfl) ?_
      refine lv_iload_n hx hb dG_newTablesFor_37 rfl (lv_at hl 0 rfl) ?_
      refine lv_iadd hx hb dG_newTablesFor_38 ?_
      exact r_i hx hb hr hlk hK hH hS dG_newTablesFor_39 (⟨by simp [sNew, h_1, h_2] <;> rfl, rfl⟩)
    · skip
      refine lv_iconst (v := 0) hx hb dG_newTablesFor_30 (by decide) ?_
      refine lv_goto hx hb dG_newTablesFor_31 rfl ?_
      refine lv_istore_n hx hb dG_newTablesFor_35 rfl hl (by decide) rfl (fun ls hl => ?_)
      have hl : lv_has ls 4 [(3, .int _), (2, .int _), (0, .ref _), (1, .int _)] := hl
      refine lv_iload_n hx hb dG_newTablesFor_36 rfl (lv_at hl 1 rfl) ?_
      refine lv_iload_n hx hb dG_newTablesFor_37 rfl (lv_at hl 0 rfl) ?_
      refine lv_iadd hx hb dG_newTablesFor_38 ?_
      exact r_i hx hb hr hlk hK hH hS dG_newTablesFor_39 (⟨by simp [sNew, h_1, h_2] <;> rfl, rfl⟩)
  · skip
    refine lv_iconst (v := 0) hx hb dG_newTablesFor_13 (by decide) ?_
    refine lv_goto hx hb dG_newTablesFor_14 rfl ?_
    refine lv_istore_n hx hb dG_newTablesFor_18 rfl hl (by decide) rfl (fun ls hl => ?_)
    have hl : lv_has ls 4 [(2, .int _), (0, .ref _), (1, .int _)] := hl
    refine lv_aload_n hx hb dG_newTablesFor_19 rfl (lv_at hl 1 rfl) ?_
    refine lv_iload_n hx hb dG_newTablesFor_20 rfl (lv_at hl 2 rfl) ?_
    refine lv_iconst (v := 4) hx hb dG_newTablesFor_21 (by decide) ?_
    refine lv_idiv hx hb dG_newTablesFor_22 (by decide) ?_
    rw [e4]
    refine lv_iconst (v := 4) hx hb dG_newTablesFor_23 (by decide) ?_
    refine s_ciE (va_runV (As := [.int _, .int _]) (rest := []) ⟨hx, hb, hml, hown, hw⟩ (c_G_needsTable l (t := a / 4) (z := 4) (by assumption) (by first | exact Or.inl rfl | exact Or.inr rfl) (by omega) (hPl)) (cwV 2 hw (gd_V (gwd_3 (List.mem_of_getElem? (i := 17) rfl)) (gwd_3 (List.mem_of_getElem? (i := 18) rfl)) (gwd_9 (List.mem_of_getElem? (i := 16) rfl)) (gwd_0 (List.mem_of_getElem? (i := 4) rfl)) (gwd_3 (List.mem_of_getElem? (i := 19) rfl))) rfl rfl rfl (by decide +kernel) ⟨Nat.le_of_ble_eq_true rfl, Nat.le_of_ble_eq_true rfl⟩) (gPre.V (n := (6, _, 0)) hK hH (by first | exact ⟨rfl, rfl⟩ | exact ⟨by assumption, rfl⟩ | exact ⟨by assumption, by assumption⟩ | exact ⟨by omega, rfl⟩ | exact ⟨by omega, by omega⟩ | exact ⟨by decide, rfl⟩) rfl rfl) rfl rfl hl.1 rfl (lv_room (Nat.le_of_ble_eq_true rfl)) dG_newTablesFor_24 ⟨Nat.zero_le _, Nat.zero_le _⟩) hS (fun H locs hH hS => ?_)
    refine s_ifeq hx hb dG_newTablesFor_27 rfl (fun h_3 => ?_) (fun h_3 => ?_)
    · skip
      refine lv_iconst (v := 1) hx hb dG_newTablesFor_34 (by decide) ?_
      refine lv_istore_n hx hb dG_newTablesFor_35 rfl hl (by decide) rfl (fun ls hl => ?_)
      have hl : lv_has ls 4 [(3, .int _), (2, .int _), (0, .ref _), (1, .int _)] := hl
      refine lv_iload_n hx hb dG_newTablesFor_36 rfl (lv_at hl 1 rfl) ?_
      refine lv_iload_n hx hb dG_newTablesFor_37 rfl (lv_at hl 0 rfl) ?_
      refine lv_iadd hx hb dG_newTablesFor_38 ?_
      exact r_i hx hb hr hlk hK hH hS dG_newTablesFor_39 (⟨by simp [sNew, h_1, h_3] <;> rfl, rfl⟩)
    · skip
      refine lv_iconst (v := 0) hx hb dG_newTablesFor_30 (by decide) ?_
      refine lv_goto hx hb dG_newTablesFor_31 rfl ?_
      refine lv_istore_n hx hb dG_newTablesFor_35 rfl hl (by decide) rfl (fun ls hl => ?_)
      have hl : lv_has ls 4 [(3, .int _), (2, .int _), (0, .ref _), (1, .int _)] := hl
      refine lv_iload_n hx hb dG_newTablesFor_36 rfl (lv_at hl 1 rfl) ?_
      refine lv_iload_n hx hb dG_newTablesFor_37 rfl (lv_at hl 0 rfl) ?_
      refine lv_iadd hx hb dG_newTablesFor_38 ?_
      exact r_i hx hb hr hlk hK hH hS dG_newTablesFor_39 (⟨by simp [sNew, h_1, h_3] <;> rfl, rfl⟩)
set_option maxHeartbeats 4000000 in
set_option maxRecDepth 100000 in
theorem c_G_pageAtAddress (l : Launch) {D : va_G} {c : Nat → ClassId} {sz : Nat} {ad : gN → Nat} {k : Nat} {I J : gI} {P : gP} {LG : Option Nat} {LP : Option (Nat × Nat)} {g t : Nat} (hg : g < k) (ht : t < 256) (hPl : ∀ g a q, P g a = some q → q < 24) : Met l yG_pageAtAddress wG_pageAtAddress { frames := 0, cells := 0, slots := 0, locals := 0 } (gPre D c sz [.ref (ad (6, g, 0)), .int (nI t)] (ad, k, I, J, P, LG, LP)) (va_Qq (fun r u => r = (P g (t / 4)).map (fun q => ad (2, q, 0)) ∧ u = (ad, k, I, J, P, LG, LP)) (gB D c sz) (gA sz)) 0 0 (gA sz) := by
  refine Met.ofW (cc := cG_pageAtAddress) (maxL := 2) (ret := (some (.object "GuestKeeper$Page"))) (by decide) rfl ?_
  intro p e s m args below meth cd s₁ B hml hv
  obtain ⟨rfl, hK, hH⟩ := hv
  have hx := B.exec
  have hb := B.bytes
  have hr := B.returns
  have hts := atoms_spec (ws := wG_pageAtAddress) B.pre
  have hw : ∀ w ∈ gWd, w.before _ s = true := fun w h => hts w (List.mem_cons_of_mem _ h)
  have hown : s.vm.findClass RG = some m.cls := findClass_of_methodNamed B.named
  have hlk := B.notSynchronized
  have hS : va_S (gA sz) s.heap s.heap [] := va_S.rf
  have hH : gW D c sz ad k I J P LG LP s.heap := hH
  have hl := lv_entry ([.ref (ad (6, g, 0)), .int (nI t)]) (n := 2) (Nat.le_of_ble_eq_true rfl)
  rw [lg_entry_eq]
  generalize (lg_sl ([.ref (ad (6, g, 0)), .int (nI t)]) ++ List.replicate (2 - (lg_sl ([.ref (ad (6, g, 0)), .int (nI t)])).length) Slot.unset).toArray = ls at hl ⊢
  have hl : lv_has ls 2 [(0, .ref (ad (6, g, 0))), (1, .int (nI t))] := hl
  have e4 : nI t / 4 = nI (t / 4) := pk_div (d := 4) (by omega) (by decide) (by decide)
  refine lv_aload_n hx hb dG_pageAtAddress_0 rfl (lv_at hl 0 rfl) ?_
  refine s_get hx hb hw inG hown hK hH 1 (by decide) (hw _ (gwd_2 (List.mem_of_getElem? (i := 15) rfl))) (by first | exact ⟨rfl, rfl⟩ | exact ⟨by assumption, rfl⟩ | exact ⟨by assumption, by assumption⟩ | exact ⟨by omega, rfl⟩ | exact ⟨by omega, by omega⟩ | exact ⟨by decide, rfl⟩) rfl rfl rfl rfl dG_pageAtAddress_1 ?_
  refine lv_iload_n hx hb dG_pageAtAddress_4 rfl (lv_at hl 1 rfl) ?_
  refine lv_iconst (v := 4) hx hb dG_pageAtAddress_5 (by decide) ?_
  refine lv_idiv hx hb dG_pageAtAddress_6 (by decide) ?_
  rw [e4]
  refine s_aaL hx hb hK hH (by first | assumption | decide | omega) _ (by first | rfl | assumption) (by omega) dG_pageAtAddress_7 (fun q_2 h_1 => ?_) (fun h_1 => ?_)
  · have hlt_q_2 : q_2 < 24 := hPl _ _ _ h_1
    exact r_q (some _) hx hb hr (Or.inl ⟨_, rfl⟩) hlk hK hH hS dG_pageAtAddress_8 (⟨by rw [h_1]; rfl, rfl⟩)
  · skip
    exact r_q none hx hb hr (Or.inl ⟨_, rfl⟩) hlk hK hH hS dG_pageAtAddress_8 (⟨by rw [h_1]; rfl, rfl⟩)
set_option maxHeartbeats 4000000 in
set_option maxRecDepth 100000 in
theorem c_G_changeSharingAt (l : Launch) {D : va_G} {c : Nat → ClassId} {sz : Nat} {ad : gN → Nat} {k : Nat} {I J : gI} {P : gP} {LG : Option Nat} {LP : Option (Nat × Nat)} {g a : Nat} {x : Int32} (hg : g < k) (ha : a < 64) (hx1 : x = 0 ∨ x = 1) (hPl : ∀ g a q, P g a = some q → q < 24) : Met l yG_changeSharingAt wG_changeSharingAt { frames := 2, cells := 0, slots := 0, locals := 41 } (gPre D c sz [.ref (ad (6, g, 0)), .int (nI a), .int x] (ad, k, I, J, P, LG, LP)) (va_Qi (fun r u => r = (sChg I P g a x).1 ∧ u = (ad, k, (sChg I P g a x).2, J, P, LG, LP)) (gB D c sz) (gA sz)) 0 0 (gA sz) := by
  refine Met.ofW (cc := cG_changeSharingAt) (maxL := 4) (ret := (some .boolean)) (by decide) rfl ?_
  intro p e s m args below meth cd s₁ B hml hv
  obtain ⟨rfl, hK, hH⟩ := hv
  have hx := B.exec
  have hb := B.bytes
  have hr := B.returns
  have hts := atoms_spec (ws := wG_changeSharingAt) B.pre
  have hw : ∀ w ∈ gWd, w.before _ s = true := fun w h => hts w (List.mem_cons_of_mem _ h)
  have hown : s.vm.findClass RG = some m.cls := findClass_of_methodNamed B.named
  have hlk := B.notSynchronized
  have hS : va_S (gA sz) s.heap s.heap [] := va_S.rf
  have hH : gW D c sz ad k I J P LG LP s.heap := hH
  have hl := lv_entry ([.ref (ad (6, g, 0)), .int (nI a), .int x]) (n := 4) (Nat.le_of_ble_eq_true rfl)
  rw [lg_entry_eq]
  generalize (lg_sl ([.ref (ad (6, g, 0)), .int (nI a), .int x]) ++ List.replicate (4 - (lg_sl ([.ref (ad (6, g, 0)), .int (nI a), .int x])).length) Slot.unset).toArray = ls at hl ⊢
  have hl : lv_has ls 4 [(0, .ref (ad (6, g, 0))), (1, .int (nI a)), (2, .int x)] := hl
  refine lv_aload_n hx hb dG_changeSharingAt_0 rfl (lv_at hl 0 rfl) ?_
  refine s_get hx hb hw inG hown hK hH 1 (by decide) (hw _ (gwd_2 (List.mem_of_getElem? (i := 15) rfl))) (by first | exact ⟨rfl, rfl⟩ | exact ⟨by assumption, rfl⟩ | exact ⟨by assumption, by assumption⟩ | exact ⟨by omega, rfl⟩ | exact ⟨by omega, by omega⟩ | exact ⟨by decide, rfl⟩) rfl rfl rfl rfl dG_changeSharingAt_1 ?_
  refine lv_iload_n hx hb dG_changeSharingAt_4 rfl (lv_at hl 1 rfl) ?_
  refine s_aaL hx hb hK hH (by first | assumption | decide | omega) _ (by first | rfl | assumption) (by first | assumption | decide | omega) dG_changeSharingAt_5 (fun q_2 h_1 => ?_) (fun h_1 => ?_)
  · have hlt_q_2 : q_2 < 24 := hPl _ _ _ h_1
    refine lv_astore_n hx hb dG_changeSharingAt_6 rfl hl (by decide) rfl (fun ls hl => ?_)
    have hl : lv_has ls 4 [(3, .ref _), (0, .ref _), (1, .int _), (2, .int _)] := hl
    refine lv_aload_n hx hb dG_changeSharingAt_7 rfl (lv_at hl 0 rfl) ?_
    refine lv_ifnull hx hb dG_changeSharingAt_8 ?_
    refine lv_aload_n hx hb dG_changeSharingAt_11 rfl (lv_at hl 0 rfl) ?_
    refine s_get hx hb hw inP hown hK hH 1 (by decide) (hw _ (gwd_0 (List.mem_of_getElem? (i := 23) rfl))) (by first | exact ⟨rfl, rfl⟩ | exact ⟨by assumption, rfl⟩ | exact ⟨by assumption, by assumption⟩ | exact ⟨by omega, rfl⟩ | exact ⟨by omega, by omega⟩ | exact ⟨by decide, rfl⟩) rfl rfl rfl rfl dG_changeSharingAt_12 ?_
    refine lv_aload_n hx hb dG_changeSharingAt_15 rfl (lv_at hl 1 rfl) ?_
    refine s_get hx hb hw inG hown hK hH 0 (by decide) (hw _ (gwd_2 (List.mem_of_getElem? (i := 14) rfl))) (by first | exact ⟨rfl, rfl⟩ | exact ⟨by assumption, rfl⟩ | exact ⟨by assumption, by assumption⟩ | exact ⟨by omega, rfl⟩ | exact ⟨by omega, by omega⟩ | exact ⟨by decide, rfl⟩) rfl rfl rfl rfl dG_changeSharingAt_16 ?_
    refine lv_icmp_ne hx hb dG_changeSharingAt_19 rfl (fun h_3 => ?_) (fun h_3 => ?_)
    · skip
      refine lv_iconst (v := 0) hx hb dG_changeSharingAt_30 (by decide) ?_
      exact r_z hx hb hr hlk hK hH hS dG_changeSharingAt_31 (by first | exact Or.inl rfl | exact Or.inr rfl | exact bz_01 _ | assumption) (by simp [sChg, h_1, h_3])
    · skip
      refine lv_aload_n hx hb dG_changeSharingAt_22 rfl (lv_at hl 0 rfl) ?_
      refine s_get hx hb hw inP hown hK hH 4 (by decide) (hw _ (gwd_0 (List.mem_of_getElem? (i := 29) rfl))) (by first | exact ⟨rfl, rfl⟩ | exact ⟨by assumption, rfl⟩ | exact ⟨by assumption, by assumption⟩ | exact ⟨by omega, rfl⟩ | exact ⟨by omega, by omega⟩ | exact ⟨by decide, rfl⟩) rfl rfl rfl rfl dG_changeSharingAt_23 ?_
      refine lv_iload_n hx hb dG_changeSharingAt_26 rfl (lv_at hl 3 rfl) ?_
      refine lv_icmp_ne hx hb dG_changeSharingAt_27 rfl (fun h_4 => ?_) (fun h_4 => ?_)
      · skip
        refine lv_aload_n hx hb dG_changeSharingAt_32 rfl (lv_at hl 0 rfl) ?_
        refine lv_iload_n hx hb dG_changeSharingAt_33 rfl (lv_at hl 3 rfl) ?_
        refine s_cvE (va_runV (As := [.int _]) (rest := []) ⟨hx, hb, hml, hown, hw⟩ (c_P_changeSharing l  (by assumption) (by first | exact Or.inl rfl | exact Or.inr rfl | exact bz_01 _ | assumption)) (cwV 1 hw (gd_V (gwd_5 (List.mem_of_getElem? (i := 1) rfl)) (gwd_2 (List.mem_of_getElem? (i := 43) rfl)) (gwd_2 (List.mem_of_getElem? (i := 44) rfl)) (gwd_0 (List.mem_of_getElem? (i := 2) rfl)) (gwd_2 (List.mem_of_getElem? (i := 45) rfl))) rfl rfl rfl (by decide +kernel) ⟨Nat.le_of_ble_eq_true rfl, Nat.le_of_ble_eq_true rfl⟩) (gPre.V (n := (2, _, 0)) hK hH (by first | exact ⟨rfl, rfl⟩ | exact ⟨by assumption, rfl⟩ | exact ⟨by assumption, by assumption⟩ | exact ⟨by omega, rfl⟩ | exact ⟨by omega, by omega⟩ | exact ⟨by decide, rfl⟩) rfl rfl) rfl rfl hl.1 rfl (lv_room (Nat.le_of_ble_eq_true rfl)) dG_changeSharingAt_34 ⟨Nat.zero_le _, Nat.zero_le _⟩) hS (fun H locs hH hS => ?_)
        refine lv_iconst (v := 1) hx hb dG_changeSharingAt_37 (by decide) ?_
        exact r_z hx hb hr hlk hK hH hS dG_changeSharingAt_38 (by first | exact Or.inl rfl | exact Or.inr rfl | exact bz_01 _ | assumption) (by simp [sChg, h_1, h_3, h_4])
      · skip
        refine lv_iconst (v := 0) hx hb dG_changeSharingAt_30 (by decide) ?_
        exact r_z hx hb hr hlk hK hH hS dG_changeSharingAt_31 (by first | exact Or.inl rfl | exact Or.inr rfl | exact bz_01 _ | assumption) (by simp [sChg, h_1, h_3, h_4])
  · skip
    refine lv_astore_nN hx hb dG_changeSharingAt_6 rfl hl (by decide) rfl (fun ls hl => ?_)
    have hl : lv_has ls 4 [(3, .null), (0, .ref _), (1, .int _), (2, .int _)] := hl
    refine lv_aload_nN hx hb dG_changeSharingAt_7 rfl (lv_at hl 0 rfl) ?_
    refine lv_ifnullN hx hb dG_changeSharingAt_8 rfl ?_
    refine lv_iconst (v := 0) hx hb dG_changeSharingAt_30 (by decide) ?_
    exact r_z hx hb hr hlk hK hH hS dG_changeSharingAt_31 (by first | exact Or.inl rfl | exact Or.inr rfl | exact bz_01 _ | assumption) (by simp [sChg, h_1])
def sRemN (P : gP) (g q n : Nat) : gP := fun g' a => if g' = g ∧ a < n ∧ P g' a = some q then none else P g' a
theorem sRemN_0 {P : gP} {g q : Nat} : sRemN P g q 0 = P := by
  funext g' a
  simp [sRemN]
theorem sRemN_at {P : gP} {g q i : Nat} : sRemN P g q i g i = P g i := by simp [sRemN]
theorem sRemN_lt {P : gP} {g q n : Nat} (h : ∀ g a q, P g a = some q → q < 24) {g' a q' : Nat} (h1 : sRemN P g q n g' a = some q') : q' < 24 := by
  unfold sRemN at h1
  split at h1
  · cases h1
  · exact h _ _ _ h1
theorem sRemN_succ_ne {P : gP} {g q i : Nat} (h : ¬ P g i = some q) : sRemN P g q (i + 1) = sRemN P g q i := by
  funext g' a
  unfold sRemN
  by_cases hg : g' = g
  · subst hg
    by_cases ha : a = i
    · subst ha
      simp [h]
    · have : (a < i + 1) = (a < i) := by apply propext; omega
      simp [this]
  · simp [hg]
theorem sRemN_succ_eq {P : gP} {g q i : Nat} (h : P g i = some q) : sRemN P g q (i + 1) = pu (sRemN P g q i) g i none := by
  funext g' a
  rw [pu_at]
  unfold sRemN
  by_cases hg : g' = g
  · subst hg
    by_cases ha : a = i
    · subst ha
      simp [h]
    · have : (a < i + 1) = (a < i) := by apply propext; omega
      simp [this, ha]
  · simp [hg]
set_option maxHeartbeats 4000000 in
set_option maxRecDepth 100000 in
theorem c_G_removePage (l : Launch) {D : va_G} {c : Nat → ClassId} {sz : Nat} {ad : gN → Nat} {k : Nat} {I J : gI} {P : gP} {LG : Option Nat} {LP : Option (Nat × Nat)} {g q : Nat} (hg : g < k) (hq : q < 24) (hPl : ∀ g a q, P g a = some q → q < 24) : Met l yG_removePage wG_removePage { frames := 0, cells := 0, slots := 0, locals := 0 } (gPre D c sz [.ref (ad (6, g, 0)), .ref (ad (2, q, 0))] (ad, k, I, J, P, LG, LP)) (va_Qv (fun u => u = (ad, k, I, J, sRem P g q, LG, LP)) (gB D c sz) (gA sz)) 0 0 (gA sz) := by
  refine Met.ofW (cc := cG_removePage) (maxL := 3) (ret := none) (by decide) rfl ?_
  intro p e s m args below meth cd s₁ B hml hv
  obtain ⟨rfl, hK, hH⟩ := hv
  have hx := B.exec
  have hb := B.bytes
  have hr := B.returns
  have hts := atoms_spec (ws := wG_removePage) B.pre
  have hw : ∀ w ∈ gWd, w.before _ s = true := fun w h => hts w (List.mem_cons_of_mem _ h)
  have hown : s.vm.findClass RG = some m.cls := findClass_of_methodNamed B.named
  have hlk := B.notSynchronized
  have hS : va_S (gA sz) s.heap s.heap [] := va_S.rf
  have hH : gW D c sz ad k I J P LG LP s.heap := hH
  have hl := lv_entry ([.ref (ad (6, g, 0)), .ref (ad (2, q, 0))]) (n := 3) (Nat.le_of_ble_eq_true rfl)
  rw [lg_entry_eq]
  generalize (lg_sl ([.ref (ad (6, g, 0)), .ref (ad (2, q, 0))]) ++ List.replicate (3 - (lg_sl ([.ref (ad (6, g, 0)), .ref (ad (2, q, 0))])).length) Slot.unset).toArray = ls at hl ⊢
  have hl : lv_has ls 3 [(0, .ref (ad (6, g, 0))), (1, .ref (ad (2, q, 0)))] := hl
  have key : ∀ (n i : Nat), i + n = 64 → ∀ ls : Array Slot, lv_has ls 3 [(2, .int (nI i)), (0, .ref (ad (6, g, 0))), (1, .ref (ad (2, q, 0)))] → ∀ (H : Heap) (locs : List Loc), gW D c sz ad k I J (sRemN P g q i) LG LP H → va_S (gA sz) s.heap H locs → W p l e (headSpec wG_removePage { frames := 0, cells := 0, slots := 0, locals := 0 }).room s m ([.ref (ad (6, g, 0)), .ref (ad (2, q, 0))] : List Value).toArray below meth cd H locs 0 0 (MQ below (va_Qv (fun u => u = (ad, k, I, J, sRem P g q, LG, LP)) (gB D c sz) (gA sz)) ([.ref (ad (6, g, 0)), .ref (ad (2, q, 0))] : List Value).toArray s 0 0 (gA sz)) (F0 m 2 ls []) := by
    intro n
    induction n with
    | zero =>
      intro i hi ls hl H locs hH hS
      refine lv_iload_n hx hb dG_removePage_2 rfl (lv_at hl 0 rfl) ?_
      refine lv_bipush (v := 64) hx hb dG_removePage_3 (by decide) ?_
      refine lv_icmp_ge hx hb dG_removePage_5 rfl (fun h_1 => ?_) (fun h_1 => ?_)
      · skip
        exact r_v hx hb hr hlk hK hH hS dG_removePage_31 (by rw [show i = 64 by omega]; rfl)
      · exact absurd (show (64 : Int32) ≤ nI i from nI_le (a := 64) (by omega) (by omega)) h_1
    | succ n ih =>
      intro i hi ls hl H locs hH hS
      have hPl : ∀ g' a q', sRemN P g q i g' a = some q' → q' < 24 := fun g' a q' h => sRemN_lt hPl h
      refine lv_iload_n hx hb dG_removePage_2 rfl (lv_at hl 0 rfl) ?_
      refine lv_bipush (v := 64) hx hb dG_removePage_3 (by decide) ?_
      refine lv_icmp_ge hx hb dG_removePage_5 rfl (fun h_2 => ?_) (fun h_2 => ?_)
      · exact absurd h_2 (nI_ge (b := 64) (show i < 64 by omega) (by decide))
      · skip
        refine lv_aload_n hx hb dG_removePage_8 rfl (lv_at hl 1 rfl) ?_
        refine s_get hx hb hw inG hown hK hH 1 (by decide) (hw _ (gwd_2 (List.mem_of_getElem? (i := 15) rfl))) (by first | exact ⟨rfl, rfl⟩ | exact ⟨by assumption, rfl⟩ | exact ⟨by assumption, by assumption⟩ | exact ⟨by omega, rfl⟩ | exact ⟨by omega, by omega⟩ | exact ⟨by decide, rfl⟩) rfl rfl rfl rfl dG_removePage_9 ?_
        refine lv_iload_n hx hb dG_removePage_12 rfl (lv_at hl 0 rfl) ?_
        refine s_aaL hx hb hK hH (by first | assumption | decide | omega) _ (by first | rfl | assumption) (by omega) dG_removePage_13 (fun q_4 h_3 => ?_) (fun h_3 => ?_)
        · have hlt_q_4 : q_4 < 24 := hPl _ _ _ h_3
          refine lv_aload_n hx hb dG_removePage_14 rfl (lv_at hl 2 rfl) ?_
          refine lv_acmp_ne (rx := some _) (ry := some _) hx hb dG_removePage_15 rfl (fun h_5 => ?_) (fun h_5 => ?_)
          · rw [sRemN_at] at h_3
            refine lv_iinc (k := 0) (v := nI (i + 1)) hx hb dG_removePage_25 hl rfl (by rw [nI_succ]; rfl) (by decide) rfl (fun ls hl => ?_)
            have hl : lv_has ls 3 [(2, .int _), (0, .ref _), (1, .ref _)] := hl
            refine lv_goto hx hb dG_removePage_28 rfl ?_
            exact ih (i + 1) (by omega) ls (lv_sub hl [0, 1, 2] rfl) H locs (by rw [(sRemN_succ_ne (fun z => by rw [z] at h_3; cases h_3; exact h_5 rfl))]; exact hH) hS
          · have heq := gH.inj hH (n := (2, _, 0)) (n' := (2, q, 0)) ⟨by assumption, rfl⟩ ⟨by assumption, rfl⟩ (Option.some.inj h_5)
            cases heq
            rw [sRemN_at] at h_3
            refine lv_aload_n hx hb dG_removePage_18 rfl (lv_at hl 1 rfl) ?_
            refine s_get hx hb hw inG hown hK hH 1 (by decide) (hw _ (gwd_2 (List.mem_of_getElem? (i := 15) rfl))) (by first | exact ⟨rfl, rfl⟩ | exact ⟨by assumption, rfl⟩ | exact ⟨by assumption, by assumption⟩ | exact ⟨by omega, rfl⟩ | exact ⟨by omega, by omega⟩ | exact ⟨by decide, rfl⟩) rfl rfl rfl rfl dG_removePage_19 ?_
            refine lv_iload_n hx hb dG_removePage_22 rfl (lv_at hl 0 rfl) ?_
            refine lv_null hx hb dG_removePage_23 ?_
            refine s_asN hx hb hK hH hS (by first | assumption | decide | omega) _ (by first | rfl | assumption) (by omega) dG_removePage_24 (fun H locs hH hS => ?_)
            refine lv_iinc (k := 0) (v := nI (i + 1)) hx hb dG_removePage_25 hl rfl (by rw [nI_succ]; rfl) (by decide) rfl (fun ls hl => ?_)
            have hl : lv_has ls 3 [(2, .int _), (0, .ref _), (1, .ref _)] := hl
            refine lv_goto hx hb dG_removePage_28 rfl ?_
            exact ih (i + 1) (by omega) ls (lv_sub hl [0, 1, 2] rfl) H locs (by rw [(sRemN_succ_eq h_3)]; exact hH) hS
        · skip
          refine lv_aload_n hx hb dG_removePage_14 rfl (lv_at hl 2 rfl) ?_
          refine lv_acmp_ne (rx := none) (ry := some _) hx hb dG_removePage_15 rfl (fun h_6 => ?_) (fun h_6 => ?_)
          · skip
            refine lv_iinc (k := 0) (v := nI (i + 1)) hx hb dG_removePage_25 hl rfl (by rw [nI_succ]; rfl) (by decide) rfl (fun ls hl => ?_)
            have hl : lv_has ls 3 [(2, .int _), (0, .ref _), (1, .ref _)] := hl
            refine lv_goto hx hb dG_removePage_28 rfl ?_
            exact ih (i + 1) (by omega) ls (lv_sub hl [0, 1, 2] rfl) H locs (by rw [(sRemN_succ_ne (fun z => by rw [sRemN_at] at h_3; rw [z] at h_3; cases h_3))]; exact hH) hS
          · cases h_6
  refine lv_iconst (v := 0) hx hb dG_removePage_0 (by decide) ?_
  refine lv_istore_n hx hb dG_removePage_1 rfl hl (by decide) rfl (fun ls hl => ?_)
  have hl : lv_has ls 3 [(2, .int _), (0, .ref _), (1, .ref _)] := hl
  exact key 64 0 (by omega) ls (lv_sub hl [0, 1, 2] rfl) s.heap [] (by rw [sRemN_0]; exact hH) hS
end
section
set_option maxHeartbeats 4000000 in
set_option maxRecDepth 100000 in
theorem c_R_receiveAnswer (l : Launch) {D : va_G} {c : Nat → ClassId} {sz : Nat} {ad : gN → Nat} {k : Nat} {I J : gI} {P : gP} {LG : Option Nat} {LP : Option (Nat × Nat)} {g v : Nat} {x : Int32} (hg : g < k) (hv1 : v < 2) (hask : I (9, g, v) 3 = -1 ∨ ∃ a, a < 4 ∧ I (9, g, v) 3 = nI a) : Met l yR_receiveAnswer wR_receiveAnswer { frames := 0, cells := 0, slots := 0, locals := 0 } (gPre D c sz [.ref (ad (9, g, v)), .int x] (ad, k, I, J, P, LG, LP)) (va_Qv (fun u => u = (ad, k, sAns I g v x, J, P, LG, LP)) (gB D c sz) (gA sz)) 0 0 (gA sz) := by
  refine Met.ofW (cc := cR_receiveAnswer) (maxL := 2) (ret := none) (by decide) rfl ?_
  intro p e s m args below meth cd s₁ B hml hv
  obtain ⟨rfl, hK, hH⟩ := hv
  have hx := B.exec
  have hb := B.bytes
  have hr := B.returns
  have hts := atoms_spec (ws := wR_receiveAnswer) B.pre
  have hw : ∀ w ∈ gWd, w.before _ s = true := fun w h => hts w (List.mem_cons_of_mem _ h)
  have hown : s.vm.findClass RR = some m.cls := findClass_of_methodNamed B.named
  have hlk := B.notSynchronized
  have hS : va_S (gA sz) s.heap s.heap [] := va_S.rf
  have hH : gW D c sz ad k I J P LG LP s.heap := hH
  have hl := lv_entry ([.ref (ad (9, g, v)), .int x]) (n := 2) (Nat.le_of_ble_eq_true rfl)
  rw [lg_entry_eq]
  generalize (lg_sl ([.ref (ad (9, g, v)), .int x]) ++ List.replicate (2 - (lg_sl ([.ref (ad (9, g, v)), .int x])).length) Slot.unset).toArray = ls at hl ⊢
  have hl : lv_has ls 2 [(0, .ref (ad (9, g, v))), (1, .int x)] := hl
  refine lv_aload_n hx hb dR_receiveAnswer_0 rfl (lv_at hl 0 rfl) ?_
  refine s_get hx hb hw inR hown hK hH 3 (by decide) (hw _ (gwd_2 (List.mem_of_getElem? (i := 9) rfl))) (by first | exact ⟨rfl, rfl⟩ | exact ⟨by assumption, rfl⟩ | exact ⟨by assumption, by assumption⟩ | exact ⟨by omega, rfl⟩ | exact ⟨by omega, by omega⟩ | exact ⟨by decide, rfl⟩) rfl rfl rfl rfl dR_receiveAnswer_1 ?_
  refine lv_iconst (v := -1) hx hb dR_receiveAnswer_4 (by decide) ?_
  refine lv_icmp_eq hx hb dR_receiveAnswer_5 rfl (fun h_1 => ?_) (fun h_1 => ?_)
  · skip
    exact r_v hx hb hr hlk hK hH hS dR_receiveAnswer_23 (by first | (simp [sAns, h_1]; done) | (unfold sAns; rw [if_neg h_1, ea, ix_nI (show a < 2 ^ 31 by omega)]))
  · skip
    obtain ⟨a, ha, ea⟩ := hask.resolve_left h_1
    refine lv_aload_n hx hb dR_receiveAnswer_8 rfl (lv_at hl 0 rfl) ?_
    refine s_get hx hb hw inR hown hK hH 0 (by decide) (hw _ (gwd_2 (List.mem_of_getElem? (i := 5) rfl))) (by first | exact ⟨rfl, rfl⟩ | exact ⟨by assumption, rfl⟩ | exact ⟨by assumption, by assumption⟩ | exact ⟨by omega, rfl⟩ | exact ⟨by omega, by omega⟩ | exact ⟨by decide, rfl⟩) rfl rfl rfl rfl dR_receiveAnswer_9 ?_
    refine lv_aload_n hx hb dR_receiveAnswer_12 rfl (lv_at hl 0 rfl) ?_
    refine s_get hx hb hw inR hown hK hH 3 (by decide) (hw _ (gwd_2 (List.mem_of_getElem? (i := 9) rfl))) (by first | exact ⟨rfl, rfl⟩ | exact ⟨by assumption, rfl⟩ | exact ⟨by assumption, by assumption⟩ | exact ⟨by omega, rfl⟩ | exact ⟨by omega, by omega⟩ | exact ⟨by decide, rfl⟩) rfl rfl rfl rfl dR_receiveAnswer_13 ?_
    refine lv_iload_n hx hb dR_receiveAnswer_16 rfl (lv_at hl 1 rfl) ?_
    refine s_iast hx hb hK hH hS (by first | exact ⟨rfl, rfl⟩ | exact ⟨by assumption, rfl⟩ | exact ⟨by assumption, by assumption⟩ | exact ⟨by omega, rfl⟩ | exact ⟨by omega, by omega⟩ | exact ⟨by decide, rfl⟩) rfl a ea ha (by decide) rfl dR_receiveAnswer_17 (fun H locs hH hS => ?_)
    refine lv_aload_n hx hb dR_receiveAnswer_18 rfl (lv_at hl 0 rfl) ?_
    refine lv_iconst (v := -1) hx hb dR_receiveAnswer_19 (by decide) ?_
    refine s_put hx hb hw inR tyR_ok nR hown hK hH hS 3 (by decide) (hw _ (gwd_2 (List.mem_of_getElem? (i := 9) rfl))) (by first | exact ⟨rfl, rfl⟩ | exact ⟨by assumption, rfl⟩ | exact ⟨by assumption, by assumption⟩ | exact ⟨by omega, rfl⟩ | exact ⟨by omega, by omega⟩ | exact ⟨by decide, rfl⟩) rfl rfl rfl rfl rfl rfl rfl (Nat.le_of_ble_eq_true rfl) rfl dR_receiveAnswer_20 (fun H locs hH hS => ?_)
    exact r_v hx hb hr hlk hK hH hS dR_receiveAnswer_23 (by first | (simp [sAns, h_1]; done) | (unfold sAns; rw [if_neg h_1, ea, ix_nI (show a < 2 ^ 31 by omega)]))
set_option maxHeartbeats 4000000 in
set_option maxRecDepth 100000 in
theorem c_R_faultAt (l : Launch) {D : va_G} {c : Nat → ClassId} {sz : Nat} {ad : gN → Nat} {k : Nat} {I J : gI} {P : gP} {LG : Option Nat} {LP : Option (Nat × Nat)} {g v : Nat} {x : Int32} (hg : g < k) (hv1 : v < 2) : Met l yR_faultAt wR_faultAt { frames := 0, cells := 0, slots := 0, locals := 0 } (gPre D c sz [.ref (ad (9, g, v)), .int x] (ad, k, I, J, P, LG, LP)) (va_Qi (fun r u => r = 1 ∧ u = (ad, k, sFault I g v x, J, P, LG, LP)) (gB D c sz) (gA sz)) 0 0 (gA sz) := by
  refine Met.ofW (cc := cR_faultAt) (maxL := 2) (ret := (some .int)) (by decide) rfl ?_
  intro p e s m args below meth cd s₁ B hml hv
  obtain ⟨rfl, hK, hH⟩ := hv
  have hx := B.exec
  have hb := B.bytes
  have hr := B.returns
  have hts := atoms_spec (ws := wR_faultAt) B.pre
  have hw : ∀ w ∈ gWd, w.before _ s = true := fun w h => hts w (List.mem_cons_of_mem _ h)
  have hown : s.vm.findClass RR = some m.cls := findClass_of_methodNamed B.named
  have hlk := B.notSynchronized
  have hS : va_S (gA sz) s.heap s.heap [] := va_S.rf
  have hH : gW D c sz ad k I J P LG LP s.heap := hH
  have hl := lv_entry ([.ref (ad (9, g, v)), .int x]) (n := 2) (Nat.le_of_ble_eq_true rfl)
  rw [lg_entry_eq]
  generalize (lg_sl ([.ref (ad (9, g, v)), .int x]) ++ List.replicate (2 - (lg_sl ([.ref (ad (9, g, v)), .int x])).length) Slot.unset).toArray = ls at hl ⊢
  have hl : lv_has ls 2 [(0, .ref (ad (9, g, v))), (1, .int x)] := hl
  refine lv_aload_n hx hb dR_faultAt_0 rfl (lv_at hl 0 rfl) ?_
  refine lv_iload_n hx hb dR_faultAt_1 rfl (lv_at hl 1 rfl) ?_
  refine s_put hx hb hw inR tyR_ok nR hown hK hH hS 2 (by decide) (hw _ (gwd_2 (List.mem_of_getElem? (i := 7) rfl))) (by first | exact ⟨rfl, rfl⟩ | exact ⟨by assumption, rfl⟩ | exact ⟨by assumption, by assumption⟩ | exact ⟨by omega, rfl⟩ | exact ⟨by omega, by omega⟩ | exact ⟨by decide, rfl⟩) rfl rfl rfl rfl rfl rfl rfl (Nat.le_of_ble_eq_true rfl) rfl dR_faultAt_2 (fun H locs hH hS => ?_)
  refine lv_iconst (v := 1) hx hb dR_faultAt_5 (by decide) ?_
  exact r_i hx hb hr hlk hK hH hS dR_faultAt_6 (⟨rfl, rfl⟩)
set_option maxHeartbeats 4000000 in
set_option maxRecDepth 100000 in
theorem c_R_moveWord (l : Launch) {D : va_G} {c : Nat → ClassId} {sz : Nat} {ad : gN → Nat} {k : Nat} {I J : gI} {P : gP} {LG : Option Nat} {LP : Option (Nat × Nat)} {g v a t : Nat} (b : Prop) [Decidable b] {x : Int32} (hg : g < k) (hv1 : v < 2) (ha : a < 4) (ht : t < 256) (hxb : x = bz b) (hPl : ∀ g a q, P g a = some q → q < 24) : Met l yR_moveWord wR_moveWord { frames := 1, cells := 0, slots := 0, locals := 21 } (gPre D c sz [.ref (ad (9, g, v)), .int x, .int (nI a), .int (nI t), .ref (ad (6, g, 0))] (ad, k, I, J, P, LG, LP)) (va_Qi (fun r u => r = (sMove I P g v b a t).1 ∧ u = (ad, k, (sMove I P g v b a t).2, J, P, LG, LP)) (gB D c sz) (gA sz)) 0 0 (gA sz) := by
  refine Met.ofW (cc := cR_moveWord) (maxL := 6) (ret := (some .int)) (by decide) rfl ?_
  intro p e s m args below meth cd s₁ B hml hv
  obtain ⟨rfl, hK, hH⟩ := hv
  have hx := B.exec
  have hb := B.bytes
  have hr := B.returns
  have hts := atoms_spec (ws := wR_moveWord) B.pre
  have hw : ∀ w ∈ gWd, w.before _ s = true := fun w h => hts w (List.mem_cons_of_mem _ h)
  have hown : s.vm.findClass RR = some m.cls := findClass_of_methodNamed B.named
  have hlk := B.notSynchronized
  have hS : va_S (gA sz) s.heap s.heap [] := va_S.rf
  have hH : gW D c sz ad k I J P LG LP s.heap := hH
  have hl := lv_entry ([.ref (ad (9, g, v)), .int x, .int (nI a), .int (nI t), .ref (ad (6, g, 0))]) (n := 6) (Nat.le_of_ble_eq_true rfl)
  rw [lg_entry_eq]
  generalize (lg_sl ([.ref (ad (9, g, v)), .int x, .int (nI a), .int (nI t), .ref (ad (6, g, 0))]) ++ List.replicate (6 - (lg_sl ([.ref (ad (9, g, v)), .int x, .int (nI a), .int (nI t), .ref (ad (6, g, 0))])).length) Slot.unset).toArray = ls at hl ⊢
  have hl : lv_has ls 6 [(0, .ref (ad (9, g, v))), (1, .int x), (2, .int (nI a)), (3, .int (nI t)), (4, .ref (ad (6, g, 0)))] := hl
  have erem : nI t - nI t / 4 * 4 = nI (t % 4) := pk_rem (d := 4) (by omega) (by decide) (by decide)
  refine lv_aload hx hb dR_moveWord_0 (lv_at hl 4 rfl) ?_
  refine lv_iload_n hx hb dR_moveWord_2 rfl (lv_at hl 3 rfl) ?_
  refine s_cqE (va_runV (As := [.int _]) (rest := []) ⟨hx, hb, hml, hown, hw⟩ (c_G_pageAtAddress l  (by assumption) (by first | assumption | omega) (hPl)) (cwV 1 hw (gd_V (gwd_4 (List.mem_of_getElem? (i := 32) rfl)) (gwd_4 (List.mem_of_getElem? (i := 33) rfl)) (gwd_4 (List.mem_of_getElem? (i := 34) rfl)) (gwd_0 (List.mem_of_getElem? (i := 4) rfl)) (gwd_4 (List.mem_of_getElem? (i := 35) rfl))) rfl rfl rfl (by decide +kernel) ⟨Nat.le_of_ble_eq_true rfl, Nat.le_of_ble_eq_true rfl⟩) (gPre.V (n := (6, _, 0)) hK hH (by first | exact ⟨rfl, rfl⟩ | exact ⟨by assumption, rfl⟩ | exact ⟨by assumption, by assumption⟩ | exact ⟨by omega, rfl⟩ | exact ⟨by omega, by omega⟩ | exact ⟨by decide, rfl⟩) rfl rfl) rfl rfl hl.1 rfl (lv_room (Nat.le_of_ble_eq_true rfl)) dR_moveWord_3 ⟨Nat.zero_le _, Nat.zero_le _⟩) hS (fun H locs h_1 hH hS => ?_) (fun H locs g_2 h_1 hH hS => ?_)
  · skip
    refine lv_astoreN hx hb dR_moveWord_6 hl (by decide) rfl (fun ls hl => ?_)
    have hl : lv_has ls 6 [(5, .null), (0, .ref _), (1, .int _), (2, .int _), (3, .int _), (4, .ref _)] := hl
    refine lv_aloadN hx hb dR_moveWord_8 (lv_at hl 0 rfl) ?_
    refine lv_ifnonnullN hx hb dR_moveWord_10 ?_
    refine lv_aload_n hx hb dR_moveWord_13 rfl (lv_at hl 1 rfl) ?_
    refine lv_iload_n hx hb dR_moveWord_14 rfl (lv_at hl 4 rfl) ?_
    refine s_ciE (va_runV (As := [.int _]) (rest := []) ⟨hx, hb, hml, hown, hw⟩ (c_R_faultAt l  (by assumption) (by assumption)) (cwV 1 hw (gd_V (gwd_4 (List.mem_of_getElem? (i := 36) rfl)) (gwd_4 (List.mem_of_getElem? (i := 37) rfl)) (gwd_9 (List.mem_of_getElem? (i := 19) rfl)) (gwd_0 (List.mem_of_getElem? (i := 5) rfl)) (gwd_4 (List.mem_of_getElem? (i := 38) rfl))) rfl rfl rfl (by decide +kernel) ⟨Nat.le_of_ble_eq_true rfl, Nat.le_of_ble_eq_true rfl⟩) (gPre.V (n := (9, _, _)) hK hH (by first | exact ⟨rfl, rfl⟩ | exact ⟨by assumption, rfl⟩ | exact ⟨by assumption, by assumption⟩ | exact ⟨by omega, rfl⟩ | exact ⟨by omega, by omega⟩ | exact ⟨by decide, rfl⟩) rfl rfl) rfl rfl hl.1 rfl (lv_room (Nat.le_of_ble_eq_true rfl)) dR_moveWord_15 ⟨Nat.zero_le _, Nat.zero_le _⟩) hS (fun H locs hH hS => ?_)
    exact r_i hx hb hr hlk hK hH hS dR_moveWord_18 (by first | (simp [sMove, h_1]; done) | (simp [sMove, h_1, hyb]; done) | (simp [sMove, h_1, hnb]; done))
  · skip
    have hlt_g_2 : g_2 < 24 := hPl _ _ _ h_1
    refine lv_astore hx hb dR_moveWord_6 hl (by decide) rfl (fun ls hl => ?_)
    have hl : lv_has ls 6 [(5, .ref _), (0, .ref _), (1, .int _), (2, .int _), (3, .int _), (4, .ref _)] := hl
    refine lv_aload hx hb dR_moveWord_8 (lv_at hl 0 rfl) ?_
    refine lv_ifnonnull hx hb dR_moveWord_10 rfl ?_
    refine lv_iload_n hx hb dR_moveWord_19 rfl (lv_at hl 2 rfl) ?_
    refine lv_if_eq hx hb dR_moveWord_20 rfl (fun h_3 => ?_) (fun h_3 => ?_)
    · skip
      have hnb : ¬ b := bz_0.mp (hxb ▸ h_3)
      refine lv_aload hx hb dR_moveWord_41 (lv_at hl 0 rfl) ?_
      refine s_get hx hb hw inP hown hK hH 0 (by decide) (hw _ (gwd_0 (List.mem_of_getElem? (i := 21) rfl))) (by first | exact ⟨rfl, rfl⟩ | exact ⟨by assumption, rfl⟩ | exact ⟨by assumption, by assumption⟩ | exact ⟨by omega, rfl⟩ | exact ⟨by omega, by omega⟩ | exact ⟨by decide, rfl⟩) rfl rfl rfl rfl dR_moveWord_43 ?_
      refine lv_iload_n hx hb dR_moveWord_46 rfl (lv_at hl 4 rfl) ?_
      refine lv_iconst (v := 4) hx hb dR_moveWord_47 (by decide) ?_
      refine lv_irem hx hb dR_moveWord_48 (by decide) ?_
      rw [erem]
      refine lv_aload_n hx hb dR_moveWord_49 rfl (lv_at hl 1 rfl) ?_
      refine s_get hx hb hw inR hown hK hH 0 (by decide) (hw _ (gwd_2 (List.mem_of_getElem? (i := 5) rfl))) (by first | exact ⟨rfl, rfl⟩ | exact ⟨by assumption, rfl⟩ | exact ⟨by assumption, by assumption⟩ | exact ⟨by omega, rfl⟩ | exact ⟨by omega, by omega⟩ | exact ⟨by decide, rfl⟩) rfl rfl rfl rfl dR_moveWord_50 ?_
      refine lv_iload_n hx hb dR_moveWord_53 rfl (lv_at hl 3 rfl) ?_
      refine s_iald hx hb hK hH (by first | exact ⟨rfl, rfl⟩ | exact ⟨by assumption, rfl⟩ | exact ⟨by assumption, by assumption⟩ | exact ⟨by omega, rfl⟩ | exact ⟨by omega, by omega⟩ | exact ⟨by decide, rfl⟩) rfl _ (by first | rfl | assumption) (by first | assumption | decide | omega) (by decide) dR_moveWord_54 ?_
      refine s_iast hx hb hK hH hS (by first | exact ⟨rfl, rfl⟩ | exact ⟨by assumption, rfl⟩ | exact ⟨by assumption, by assumption⟩ | exact ⟨by omega, rfl⟩ | exact ⟨by omega, by omega⟩ | exact ⟨by decide, rfl⟩) rfl _ (by first | rfl | assumption) (by omega) (by decide) rfl dR_moveWord_55 (fun H locs hH hS => ?_)
      refine lv_iconst (v := 0) hx hb dR_moveWord_56 (by decide) ?_
      exact r_i hx hb hr hlk hK hH hS dR_moveWord_57 (by first | (simp [sMove, h_1, h_3]; done) | (simp [sMove, h_1, h_3, hyb]; done) | (simp [sMove, h_1, h_3, hnb]; done))
    · skip
      have hyb : b := by by_cases z : b; exact z; exact absurd (hxb.trans (bz_f z)) h_3
      refine lv_aload_n hx hb dR_moveWord_23 rfl (lv_at hl 1 rfl) ?_
      refine s_get hx hb hw inR hown hK hH 0 (by decide) (hw _ (gwd_2 (List.mem_of_getElem? (i := 5) rfl))) (by first | exact ⟨rfl, rfl⟩ | exact ⟨by assumption, rfl⟩ | exact ⟨by assumption, by assumption⟩ | exact ⟨by omega, rfl⟩ | exact ⟨by omega, by omega⟩ | exact ⟨by decide, rfl⟩) rfl rfl rfl rfl dR_moveWord_24 ?_
      refine lv_iload_n hx hb dR_moveWord_27 rfl (lv_at hl 3 rfl) ?_
      refine lv_aload hx hb dR_moveWord_28 (lv_at hl 0 rfl) ?_
      refine s_get hx hb hw inP hown hK hH 0 (by decide) (hw _ (gwd_0 (List.mem_of_getElem? (i := 21) rfl))) (by first | exact ⟨rfl, rfl⟩ | exact ⟨by assumption, rfl⟩ | exact ⟨by assumption, by assumption⟩ | exact ⟨by omega, rfl⟩ | exact ⟨by omega, by omega⟩ | exact ⟨by decide, rfl⟩) rfl rfl rfl rfl dR_moveWord_30 ?_
      refine lv_iload_n hx hb dR_moveWord_33 rfl (lv_at hl 4 rfl) ?_
      refine lv_iconst (v := 4) hx hb dR_moveWord_34 (by decide) ?_
      refine lv_irem hx hb dR_moveWord_35 (by decide) ?_
      rw [erem]
      refine s_iald hx hb hK hH (by first | exact ⟨rfl, rfl⟩ | exact ⟨by assumption, rfl⟩ | exact ⟨by assumption, by assumption⟩ | exact ⟨by omega, rfl⟩ | exact ⟨by omega, by omega⟩ | exact ⟨by decide, rfl⟩) rfl _ (by first | rfl | assumption) (by omega) (by decide) dR_moveWord_36 ?_
      refine s_iast hx hb hK hH hS (by first | exact ⟨rfl, rfl⟩ | exact ⟨by assumption, rfl⟩ | exact ⟨by assumption, by assumption⟩ | exact ⟨by omega, rfl⟩ | exact ⟨by omega, by omega⟩ | exact ⟨by decide, rfl⟩) rfl _ (by first | rfl | assumption) (by first | assumption | decide | omega) (by decide) rfl dR_moveWord_37 (fun H locs hH hS => ?_)
      refine lv_goto hx hb dR_moveWord_38 rfl ?_
      refine lv_iconst (v := 0) hx hb dR_moveWord_56 (by decide) ?_
      exact r_i hx hb hr hlk hK hH hS dR_moveWord_57 (by first | (simp [sMove, h_1, h_3]; done) | (simp [sMove, h_1, h_3, hyb]; done) | (simp [sMove, h_1, h_3, hnb]; done))
theorem sMove_01 {I : gI} {P : gP} {g v : Nat} {b : Prop} [Decidable b] {a t : Nat} : (sMove I P g v b a t).1 = 1 ∨ (sMove I P g v b a t).1 = 0 := by
  unfold sMove
  split
  · exact Or.inl rfl
  · split <;> exact Or.inr rfl
theorem sPerf_mv {I : gI} {P : gP} {g v : Nat} {w : Int32} (h : w &&& 15 = 3 ∨ w &&& 15 = 4) : sPerf I P g v w = (if (sMove I P g v (w &&& 15 = 3) (wA w) (ix ((I (rg g v) (wB w) + wI w) &&& 255))).1 = 1 then sMove I P g v (w &&& 15 = 3) (wA w) (ix ((I (rg g v) (wB w) + wI w) &&& 255)) else (0, iu (sMove I P g v (w &&& 15 = 3) (wA w) (ix ((I (rg g v) (wB w) + wI w) &&& 255))).2 (pr g v) 1 (sNext I g v))) := by
  have h0 : ¬ w &&& 15 = 0 := by rcases h with h | h <;> rw [h] <;> decide
  have h1 : ¬ w &&& 15 = 1 := by rcases h with h | h <;> rw [h] <;> decide
  have h2 : ¬ w &&& 15 = 2 := by rcases h with h | h <;> rw [h] <;> decide
  unfold sPerf
  rw [if_neg h0, if_neg h1, if_neg h2, if_pos h]
theorem sPerf_bad {I : gI} {P : gP} {g v : Nat} {w : Int32} (h : ∀ n : Nat, n < 11 → ¬ w &&& 15 = nI n) : sPerf I P g v w = (5, I) := by
  have h0 : ¬ w &&& 15 = 0 := h 0 (by omega)
  have h1 : ¬ w &&& 15 = 1 := h 1 (by omega)
  have h2 : ¬ w &&& 15 = 2 := h 2 (by omega)
  have h3 : ¬ w &&& 15 = 3 := h 3 (by omega)
  have h4 : ¬ w &&& 15 = 4 := h 4 (by omega)
  have h5 : ¬ w &&& 15 = 5 := h 5 (by omega)
  have h6 : ¬ w &&& 15 = 6 := h 6 (by omega)
  have h7 : ¬ w &&& 15 = 7 := h 7 (by omega)
  have h8 : ¬ w &&& 15 = 8 := h 8 (by omega)
  have h9 : ¬ w &&& 15 = 9 := h 9 (by omega)
  have h10 : ¬ w &&& 15 = 10 := h 10 (by omega)
  unfold sPerf
  rw [if_neg h0, if_neg h1, if_neg h2, if_neg (fun q => q.elim h3 h4), if_neg h5, if_neg (fun q => q.elim h6 h7), if_neg h8, if_neg h9, if_neg h10]
theorem sChg_01 {I : gI} {P : gP} {g a : Nat} {x : Int32} : (sChg I P g a x).1 = 0 ∨ (sChg I P g a x).1 = 1 := by
  unfold sChg
  split
  · exact Or.inl rfl
  · split
    · exact Or.inl rfl
    · exact Or.inr rfl
set_option maxHeartbeats 4000000 in
set_option maxRecDepth 100000 in
theorem c_R_perform (l : Launch) {D : va_G} {c : Nat → ClassId} {sz : Nat} {ad : gN → Nat} {k : Nat} {I J : gI} {P : gP} {LG : Option Nat} {LP : Option (Nat × Nat)} {g v : Nat} {w : Int32} (hg : g < k) (hv1 : v < 2) (hPl : ∀ g a q, P g a = some q → q < 24) : Met l yR_perform wR_perform { frames := 3, cells := 0, slots := 0, locals := 64 } (gPre D c sz [.ref (ad (9, g, v)), .int w, .ref (ad (6, g, 0))] (ad, k, I, J, P, LG, LP)) (va_Qi (fun r u => r = (sPerf I P g v w).1 ∧ u = (ad, k, (sPerf I P g v w).2, J, P, LG, LP)) (gB D c sz) (gA sz)) 0 0 (gA sz) := by
  refine Met.ofW (cc := cR_perform) (maxL := 9) (ret := (some .int)) (by decide) rfl ?_
  intro p e s m args below meth cd s₁ B hml hv
  obtain ⟨rfl, hK, hH⟩ := hv
  have hx := B.exec
  have hb := B.bytes
  have hr := B.returns
  have hts := atoms_spec (ws := wR_perform) B.pre
  have hw : ∀ w ∈ gWd, w.before _ s = true := fun w h => hts w (List.mem_cons_of_mem _ h)
  have hown : s.vm.findClass RR = some m.cls := findClass_of_methodNamed B.named
  have hlk := B.notSynchronized
  have hS : va_S (gA sz) s.heap s.heap [] := va_S.rf
  have hH : gW D c sz ad k I J P LG LP s.heap := hH
  have hl := lv_entry ([.ref (ad (9, g, v)), .int w, .ref (ad (6, g, 0))]) (n := 9) (Nat.le_of_ble_eq_true rfl)
  rw [lg_entry_eq]
  generalize (lg_sl ([.ref (ad (9, g, v)), .int w, .ref (ad (6, g, 0))]) ++ List.replicate (9 - (lg_sl ([.ref (ad (9, g, v)), .int w, .ref (ad (6, g, 0))])).length) Slot.unset).toArray = ls at hl ⊢
  have hl : lv_has ls 9 [(0, .ref (ad (9, g, v))), (1, .int w), (2, .ref (ad (6, g, 0)))] := hl
  obtain ⟨o, ho, eo⟩ := pk_andE (m := 15) w 4 (by decide)
  obtain ⟨a, ha, ea⟩ := pk_andE (m := 3) (w >>> ((4 : Int32) &&& 31)) 2 (by decide)
  obtain ⟨b, hbb, eb⟩ := pk_andE (m := 3) (w >>> ((6 : Int32) &&& 31)) 2 (by decide)
  have hA : ix (w >>> ((4 : Int32) &&& 31) &&& 3) = a := by rw [ea]; exact nI_clamp (by omega)
  have hB : ix (w >>> ((6 : Int32) &&& 31) &&& 3) = b := by rw [eb]; exact nI_clamp (by omega)
  have ho : o < 16 := ho
  have ha : a < 4 := ha
  have hbb : b < 4 := hbb
  have hbg : 10 < o → ∀ n : Nat, n < 11 → ¬ w &&& 15 = nI n := fun h n hn q => by have := n32 (by omega) (by omega) (eo.symm.trans q); omega
  refine lv_iload_n hx hb dR_perform_0 rfl (lv_at hl 1 rfl) ?_
  refine lv_bipush (v := 15) hx hb dR_perform_1 (by decide) ?_
  refine lv_iand hx hb dR_perform_3 ?_
  rw [eo]
  refine lv_istore_n hx hb dR_perform_4 rfl hl (by decide) rfl (fun ls hl => ?_)
  have hl : lv_has ls 9 [(3, .int _), (0, .ref _), (1, .int _), (2, .ref _)] := hl
  refine lv_iload_n hx hb dR_perform_5 rfl (lv_at hl 2 rfl) ?_
  refine lv_iconst (v := 4) hx hb dR_perform_6 (by decide) ?_
  refine lv_ishr hx hb dR_perform_7 ?_
  refine lv_iconst (v := 3) hx hb dR_perform_8 (by decide) ?_
  refine lv_iand hx hb dR_perform_9 ?_
  rw [ea]
  refine lv_istore hx hb dR_perform_10 hl (by decide) rfl (fun ls hl => ?_)
  have hl : lv_has ls 9 [(4, .int _), (3, .int _), (0, .ref _), (1, .int _), (2, .ref _)] := hl
  refine lv_iload_n hx hb dR_perform_12 rfl (lv_at hl 3 rfl) ?_
  refine lv_bipush (v := 6) hx hb dR_perform_13 (by decide) ?_
  refine lv_ishr hx hb dR_perform_15 ?_
  refine lv_iconst (v := 3) hx hb dR_perform_16 (by decide) ?_
  refine lv_iand hx hb dR_perform_17 ?_
  rw [eb]
  refine lv_istore hx hb dR_perform_18 hl (by decide) rfl (fun ls hl => ?_)
  have hl : lv_has ls 9 [(5, .int _), (4, .int _), (3, .int _), (0, .ref _), (1, .int _), (2, .ref _)] := hl
  refine lv_iload_n hx hb dR_perform_20 rfl (lv_at hl 4 rfl) ?_
  refine lv_bipush (v := 8) hx hb dR_perform_21 (by decide) ?_
  refine lv_ishr hx hb dR_perform_23 ?_
  refine lv_istore hx hb dR_perform_24 hl (by decide) rfl (fun ls hl => ?_)
  have hl : lv_has ls 9 [(6, .int _), (5, .int _), (4, .int _), (3, .int _), (0, .ref _), (1, .int _), (2, .ref _)] := hl
  refine lv_aload_n hx hb dR_perform_26 rfl (lv_at hl 4 rfl) ?_
  refine s_get hx hb hw inR hown hK hH 1 (by decide) (hw _ (gwd_2 (List.mem_of_getElem? (i := 6) rfl))) (by first | exact ⟨rfl, rfl⟩ | exact ⟨by assumption, rfl⟩ | exact ⟨by assumption, by assumption⟩ | exact ⟨by omega, rfl⟩ | exact ⟨by omega, by omega⟩ | exact ⟨by decide, rfl⟩) rfl rfl rfl rfl dR_perform_27 ?_
  refine lv_iconst (v := 1) hx hb dR_perform_30 (by decide) ?_
  refine lv_iadd hx hb dR_perform_31 ?_
  refine lv_sipush (v := 255) hx hb dR_perform_32 (by decide) ?_
  refine lv_iand hx hb dR_perform_35 ?_
  refine lv_istore hx hb dR_perform_36 hl (by decide) rfl (fun ls hl => ?_)
  have hl : lv_has ls 9 [(7, .int _), (6, .int _), (5, .int _), (4, .int _), (3, .int _), (0, .ref _), (1, .int _), (2, .ref _)] := hl
  refine lv_iconst (v := 0) hx hb dR_perform_38 (by decide) ?_
  refine lv_istore hx hb dR_perform_39 hl (by decide) rfl (fun ls hl => ?_)
  have hl : lv_has ls 9 [(8, .int _), (7, .int _), (6, .int _), (5, .int _), (4, .int _), (3, .int _), (0, .ref _), (1, .int _), (2, .ref _)] := hl
  refine lv_iload_n hx hb dR_perform_41 rfl (lv_at hl 5 rfl) ?_
  rcases (show o = 0 ∨ o = 1 ∨ o = 2 ∨ o = 3 ∨ o = 4 ∨ o = 5 ∨ o = 6 ∨ o = 7 ∨ o = 8 ∨ o = 9 ∨ o = 10 ∨ 10 < o by omega) with rfl | rfl | rfl | rfl | rfl | rfl | rfl | rfl | rfl | rfl | rfl | hbig
  · have eo : w &&& 15 = 0 := eo
    refine lv_tableIn (off := 58) (tgt := 100) hx hb dR_perform_42 (by decide) (by decide) (by decide) (by decide) ?_
    refine lv_iconst (v := 4) hx hb dR_perform_100 (by decide) ?_
    refine lv_istore hx hb dR_perform_101 hl (by decide) rfl (fun ls hl => ?_)
    have hl : lv_has ls 9 [(8, .int _), (7, .int _), (6, .int _), (5, .int _), (4, .int _), (3, .int _), (0, .ref _), (1, .int _), (2, .ref _)] := hl
    refine lv_goto hx hb dR_perform_103 rfl ?_
    refine lv_iload hx hb dR_perform_295 (lv_at hl 0 rfl) ?_
    refine lv_iconst (v := 1) hx hb dR_perform_297 (by decide) ?_
    refine lv_icmp_eq hx hb dR_perform_298 rfl (fun h_1 => ?_) (fun h_1 => ?_)
    · exact absurd h_1 (by decide)
    · skip
      refine lv_iload hx hb dR_perform_301 (lv_at hl 0 rfl) ?_
      refine lv_iconst (v := 5) hx hb dR_perform_303 (by decide) ?_
      refine lv_icmp_eq hx hb dR_perform_304 rfl (fun h_2 => ?_) (fun h_2 => ?_)
      · exact absurd h_2 (by decide)
      · skip
        refine lv_aload_n hx hb dR_perform_307 rfl (lv_at hl 6 rfl) ?_
        refine lv_iload hx hb dR_perform_308 (lv_at hl 1 rfl) ?_
        refine s_put hx hb hw inR tyR_ok nR hown hK hH hS 1 (by decide) (hw _ (gwd_2 (List.mem_of_getElem? (i := 6) rfl))) (by first | exact ⟨rfl, rfl⟩ | exact ⟨by assumption, rfl⟩ | exact ⟨by assumption, by assumption⟩ | exact ⟨by omega, rfl⟩ | exact ⟨by omega, by omega⟩ | exact ⟨by decide, rfl⟩) rfl rfl rfl rfl rfl rfl rfl (Nat.le_of_ble_eq_true rfl) rfl dR_perform_310 (fun H locs hH hS => ?_)
        refine lv_iload hx hb dR_perform_313 (lv_at hl 0 rfl) ?_
        exact r_i hx hb hr hlk hK hH hS dR_perform_315 (by simp [sPerf, eo, hA, hB, bz])
  · have eo : w &&& 15 = 1 := eo
    refine lv_tableIn (off := 64) (tgt := 106) hx hb dR_perform_42 (by decide) (by decide) (by decide) (by decide) ?_
    refine lv_aload_n hx hb dR_perform_106 rfl (lv_at hl 6 rfl) ?_
    refine s_get hx hb hw inR hown hK hH 0 (by decide) (hw _ (gwd_2 (List.mem_of_getElem? (i := 5) rfl))) (by first | exact ⟨rfl, rfl⟩ | exact ⟨by assumption, rfl⟩ | exact ⟨by assumption, by assumption⟩ | exact ⟨by omega, rfl⟩ | exact ⟨by omega, by omega⟩ | exact ⟨by decide, rfl⟩) rfl rfl rfl rfl dR_perform_107 ?_
    refine lv_iload hx hb dR_perform_110 (lv_at hl 4 rfl) ?_
    refine lv_iload hx hb dR_perform_112 (lv_at hl 2 rfl) ?_
    refine s_iast hx hb hK hH hS (by first | exact ⟨rfl, rfl⟩ | exact ⟨by assumption, rfl⟩ | exact ⟨by assumption, by assumption⟩ | exact ⟨by omega, rfl⟩ | exact ⟨by omega, by omega⟩ | exact ⟨by decide, rfl⟩) rfl _ (by first | rfl | assumption) (by first | assumption | decide | omega) (by decide) rfl dR_perform_114 (fun H locs hH hS => ?_)
    refine lv_goto hx hb dR_perform_115 rfl ?_
    refine lv_iload hx hb dR_perform_295 (lv_at hl 0 rfl) ?_
    refine lv_iconst (v := 1) hx hb dR_perform_297 (by decide) ?_
    refine lv_icmp_eq hx hb dR_perform_298 rfl (fun h_3 => ?_) (fun h_3 => ?_)
    · exact absurd h_3 (by decide)
    · skip
      refine lv_iload hx hb dR_perform_301 (lv_at hl 0 rfl) ?_
      refine lv_iconst (v := 5) hx hb dR_perform_303 (by decide) ?_
      refine lv_icmp_eq hx hb dR_perform_304 rfl (fun h_4 => ?_) (fun h_4 => ?_)
      · exact absurd h_4 (by decide)
      · skip
        refine lv_aload_n hx hb dR_perform_307 rfl (lv_at hl 6 rfl) ?_
        refine lv_iload hx hb dR_perform_308 (lv_at hl 1 rfl) ?_
        refine s_put hx hb hw inR tyR_ok nR hown hK hH hS 1 (by decide) (hw _ (gwd_2 (List.mem_of_getElem? (i := 6) rfl))) (by first | exact ⟨rfl, rfl⟩ | exact ⟨by assumption, rfl⟩ | exact ⟨by assumption, by assumption⟩ | exact ⟨by omega, rfl⟩ | exact ⟨by omega, by omega⟩ | exact ⟨by decide, rfl⟩) rfl rfl rfl rfl rfl rfl rfl (Nat.le_of_ble_eq_true rfl) rfl dR_perform_310 (fun H locs hH hS => ?_)
        refine lv_iload hx hb dR_perform_313 (lv_at hl 0 rfl) ?_
        exact r_i hx hb hr hlk hK hH hS dR_perform_315 (by simp [sPerf, eo, hA, hB, bz])
  · have eo : w &&& 15 = 2 := eo
    refine lv_tableIn (off := 76) (tgt := 118) hx hb dR_perform_42 (by decide) (by decide) (by decide) (by decide) ?_
    refine lv_aload_n hx hb dR_perform_118 rfl (lv_at hl 6 rfl) ?_
    refine s_get hx hb hw inR hown hK hH 0 (by decide) (hw _ (gwd_2 (List.mem_of_getElem? (i := 5) rfl))) (by first | exact ⟨rfl, rfl⟩ | exact ⟨by assumption, rfl⟩ | exact ⟨by assumption, by assumption⟩ | exact ⟨by omega, rfl⟩ | exact ⟨by omega, by omega⟩ | exact ⟨by decide, rfl⟩) rfl rfl rfl rfl dR_perform_119 ?_
    refine lv_iload hx hb dR_perform_122 (lv_at hl 4 rfl) ?_
    refine lv_dup2_11 hx hb dR_perform_124 rfl rfl ?_
    refine s_iald hx hb hK hH (by first | exact ⟨rfl, rfl⟩ | exact ⟨by assumption, rfl⟩ | exact ⟨by assumption, by assumption⟩ | exact ⟨by omega, rfl⟩ | exact ⟨by omega, by omega⟩ | exact ⟨by decide, rfl⟩) rfl _ (by first | rfl | assumption) (by first | assumption | decide | omega) (by decide) dR_perform_125 ?_
    refine lv_aload_n hx hb dR_perform_126 rfl (lv_at hl 6 rfl) ?_
    refine s_get hx hb hw inR hown hK hH 0 (by decide) (hw _ (gwd_2 (List.mem_of_getElem? (i := 5) rfl))) (by first | exact ⟨rfl, rfl⟩ | exact ⟨by assumption, rfl⟩ | exact ⟨by assumption, by assumption⟩ | exact ⟨by omega, rfl⟩ | exact ⟨by omega, by omega⟩ | exact ⟨by decide, rfl⟩) rfl rfl rfl rfl dR_perform_127 ?_
    refine lv_iload hx hb dR_perform_130 (lv_at hl 3 rfl) ?_
    refine s_iald hx hb hK hH (by first | exact ⟨rfl, rfl⟩ | exact ⟨by assumption, rfl⟩ | exact ⟨by assumption, by assumption⟩ | exact ⟨by omega, rfl⟩ | exact ⟨by omega, by omega⟩ | exact ⟨by decide, rfl⟩) rfl _ (by first | rfl | assumption) (by first | assumption | decide | omega) (by decide) dR_perform_132 ?_
    refine lv_iadd hx hb dR_perform_133 ?_
    refine s_iast hx hb hK hH hS (by first | exact ⟨rfl, rfl⟩ | exact ⟨by assumption, rfl⟩ | exact ⟨by assumption, by assumption⟩ | exact ⟨by omega, rfl⟩ | exact ⟨by omega, by omega⟩ | exact ⟨by decide, rfl⟩) rfl _ (by first | rfl | assumption) (by first | assumption | decide | omega) (by decide) rfl dR_perform_134 (fun H locs hH hS => ?_)
    refine lv_goto hx hb dR_perform_135 rfl ?_
    refine lv_iload hx hb dR_perform_295 (lv_at hl 0 rfl) ?_
    refine lv_iconst (v := 1) hx hb dR_perform_297 (by decide) ?_
    refine lv_icmp_eq hx hb dR_perform_298 rfl (fun h_5 => ?_) (fun h_5 => ?_)
    · exact absurd h_5 (by decide)
    · skip
      refine lv_iload hx hb dR_perform_301 (lv_at hl 0 rfl) ?_
      refine lv_iconst (v := 5) hx hb dR_perform_303 (by decide) ?_
      refine lv_icmp_eq hx hb dR_perform_304 rfl (fun h_6 => ?_) (fun h_6 => ?_)
      · exact absurd h_6 (by decide)
      · skip
        refine lv_aload_n hx hb dR_perform_307 rfl (lv_at hl 6 rfl) ?_
        refine lv_iload hx hb dR_perform_308 (lv_at hl 1 rfl) ?_
        refine s_put hx hb hw inR tyR_ok nR hown hK hH hS 1 (by decide) (hw _ (gwd_2 (List.mem_of_getElem? (i := 6) rfl))) (by first | exact ⟨rfl, rfl⟩ | exact ⟨by assumption, rfl⟩ | exact ⟨by assumption, by assumption⟩ | exact ⟨by omega, rfl⟩ | exact ⟨by omega, by omega⟩ | exact ⟨by decide, rfl⟩) rfl rfl rfl rfl rfl rfl rfl (Nat.le_of_ble_eq_true rfl) rfl dR_perform_310 (fun H locs hH hS => ?_)
        refine lv_iload hx hb dR_perform_313 (lv_at hl 0 rfl) ?_
        exact r_i hx hb hr hlk hK hH hS dR_perform_315 (by simp [sPerf, eo, hA, hB, bz])
  · have eo : w &&& 15 = 3 := eo
    refine lv_tableIn (off := 96) (tgt := 138) hx hb dR_perform_42 (by decide) (by decide) (by decide) (by decide) ?_
    obtain ⟨t, ht, et⟩ := pk_andE (m := 255) (I (10, g, v) b + w >>> ((8 : Int32) &&& 31)) 8 (by decide)
    have hT : ix (nI t) = t := nI_clamp (by omega)
    have ht : t < 256 := ht
    refine lv_aload_n hx hb dR_perform_138 rfl (lv_at hl 6 rfl) ?_
    refine lv_iload_n hx hb dR_perform_139 rfl (lv_at hl 5 rfl) ?_
    refine lv_iconst (v := 3) hx hb dR_perform_140 (by decide) ?_
    refine lv_icmp_ne hx hb dR_perform_141 rfl (fun h_7 => ?_) (fun h_7 => ?_)
    · exact absurd h_7 (by decide)
    · skip
      refine lv_iconst (v := 1) hx hb dR_perform_144 (by decide) ?_
      refine lv_goto hx hb dR_perform_145 rfl ?_
      refine lv_iload hx hb dR_perform_149 (lv_at hl 4 rfl) ?_
      refine lv_aload_n hx hb dR_perform_151 rfl (lv_at hl 6 rfl) ?_
      refine s_get hx hb hw inR hown hK hH 0 (by decide) (hw _ (gwd_2 (List.mem_of_getElem? (i := 5) rfl))) (by first | exact ⟨rfl, rfl⟩ | exact ⟨by assumption, rfl⟩ | exact ⟨by assumption, by assumption⟩ | exact ⟨by omega, rfl⟩ | exact ⟨by omega, by omega⟩ | exact ⟨by decide, rfl⟩) rfl rfl rfl rfl dR_perform_152 ?_
      refine lv_iload hx hb dR_perform_155 (lv_at hl 3 rfl) ?_
      refine s_iald hx hb hK hH (by first | exact ⟨rfl, rfl⟩ | exact ⟨by assumption, rfl⟩ | exact ⟨by assumption, by assumption⟩ | exact ⟨by omega, rfl⟩ | exact ⟨by omega, by omega⟩ | exact ⟨by decide, rfl⟩) rfl _ (by first | rfl | assumption) (by first | assumption | decide | omega) (by decide) dR_perform_157 ?_
      refine lv_iload hx hb dR_perform_158 (lv_at hl 2 rfl) ?_
      refine lv_iadd hx hb dR_perform_160 ?_
      refine lv_sipush (v := 255) hx hb dR_perform_161 (by decide) ?_
      refine lv_iand hx hb dR_perform_164 ?_
      rw [et]
      refine lv_aload_n hx hb dR_perform_165 rfl (lv_at hl 8 rfl) ?_
      refine s_ciE (va_runV (As := [.int _, .int _, .int _, .ref _]) (rest := []) ⟨hx, hb, hml, hown, hw⟩ (c_R_moveWord l (w &&& 15 = 3) (by assumption) (by assumption) (by assumption) (by assumption) (by first | exact (bz_t eo).symm | exact (bz_f (by rw [eo]; decide)).symm) (hPl)) (cwV 4 hw (gd_V (gwd_4 (List.mem_of_getElem? (i := 42) rfl)) (gwd_4 (List.mem_of_getElem? (i := 43) rfl)) (gwd_9 (List.mem_of_getElem? (i := 21) rfl)) (gwd_0 (List.mem_of_getElem? (i := 5) rfl)) (gwd_4 (List.mem_of_getElem? (i := 44) rfl))) rfl rfl rfl (by decide +kernel) ⟨Nat.le_of_ble_eq_true rfl, Nat.le_of_ble_eq_true rfl⟩) (gPre.V (n := (9, _, _)) hK hH (by first | exact ⟨rfl, rfl⟩ | exact ⟨by assumption, rfl⟩ | exact ⟨by assumption, by assumption⟩ | exact ⟨by omega, rfl⟩ | exact ⟨by omega, by omega⟩ | exact ⟨by decide, rfl⟩) rfl rfl) rfl rfl hl.1 rfl (lv_room (Nat.le_of_ble_eq_true rfl)) dR_perform_166 ⟨Nat.zero_le _, Nat.zero_le _⟩) hS (fun H locs hH hS => ?_)
      refine lv_istore hx hb dR_perform_169 hl (by decide) rfl (fun ls hl => ?_)
      have hl : lv_has ls 9 [(8, .int _), (7, .int _), (6, .int _), (5, .int _), (4, .int _), (3, .int _), (0, .ref _), (1, .int _), (2, .ref _)] := hl
      refine lv_goto hx hb dR_perform_171 rfl ?_
      refine lv_iload hx hb dR_perform_295 (lv_at hl 0 rfl) ?_
      refine lv_iconst (v := 1) hx hb dR_perform_297 (by decide) ?_
      refine lv_icmp_eq hx hb dR_perform_298 rfl (fun h_8 => ?_) (fun h_8 => ?_)
      · skip
        refine lv_iload hx hb dR_perform_313 (lv_at hl 0 rfl) ?_
        exact r_i hx hb hr hlk hK hH hS dR_perform_315 (by rw [sPerf_mv (Or.inl eo), show wA w = a from hA, show wB w = b from hB, et, hT]; first | (rw [if_pos h_8]; exact ⟨rfl, rfl⟩) | (rw [if_neg h_8]; exact ⟨sMove_01.resolve_left h_8, rfl⟩))
      · skip
        refine lv_iload hx hb dR_perform_301 (lv_at hl 0 rfl) ?_
        refine lv_iconst (v := 5) hx hb dR_perform_303 (by decide) ?_
        refine lv_icmp_eq hx hb dR_perform_304 rfl (fun h_9 => ?_) (fun h_9 => ?_)
        · exact absurd h_9 (by rcases sMove_01 (I := I) (P := P) (g := g) (v := v) (b := (w &&& 15 = 3)) (a := a) (t := t) with z | z <;> rw [z] <;> decide)
        · skip
          refine lv_aload_n hx hb dR_perform_307 rfl (lv_at hl 6 rfl) ?_
          refine lv_iload hx hb dR_perform_308 (lv_at hl 1 rfl) ?_
          refine s_put hx hb hw inR tyR_ok nR hown hK hH hS 1 (by decide) (hw _ (gwd_2 (List.mem_of_getElem? (i := 6) rfl))) (by first | exact ⟨rfl, rfl⟩ | exact ⟨by assumption, rfl⟩ | exact ⟨by assumption, by assumption⟩ | exact ⟨by omega, rfl⟩ | exact ⟨by omega, by omega⟩ | exact ⟨by decide, rfl⟩) rfl rfl rfl rfl rfl rfl rfl (Nat.le_of_ble_eq_true rfl) rfl dR_perform_310 (fun H locs hH hS => ?_)
          refine lv_iload hx hb dR_perform_313 (lv_at hl 0 rfl) ?_
          exact r_i hx hb hr hlk hK hH hS dR_perform_315 (by rw [sPerf_mv (Or.inl eo), show wA w = a from hA, show wB w = b from hB, et, hT]; first | (rw [if_pos h_8]; exact ⟨rfl, rfl⟩) | (rw [if_neg h_8]; exact ⟨sMove_01.resolve_left h_8, rfl⟩))
  · have eo : w &&& 15 = 4 := eo
    refine lv_tableIn (off := 96) (tgt := 138) hx hb dR_perform_42 (by decide) (by decide) (by decide) (by decide) ?_
    obtain ⟨t, ht, et⟩ := pk_andE (m := 255) (I (10, g, v) b + w >>> ((8 : Int32) &&& 31)) 8 (by decide)
    have hT : ix (nI t) = t := nI_clamp (by omega)
    have ht : t < 256 := ht
    refine lv_aload_n hx hb dR_perform_138 rfl (lv_at hl 6 rfl) ?_
    refine lv_iload_n hx hb dR_perform_139 rfl (lv_at hl 5 rfl) ?_
    refine lv_iconst (v := 3) hx hb dR_perform_140 (by decide) ?_
    refine lv_icmp_ne hx hb dR_perform_141 rfl (fun h_10 => ?_) (fun h_10 => ?_)
    · skip
      refine lv_iconst (v := 0) hx hb dR_perform_148 (by decide) ?_
      refine lv_iload hx hb dR_perform_149 (lv_at hl 4 rfl) ?_
      refine lv_aload_n hx hb dR_perform_151 rfl (lv_at hl 6 rfl) ?_
      refine s_get hx hb hw inR hown hK hH 0 (by decide) (hw _ (gwd_2 (List.mem_of_getElem? (i := 5) rfl))) (by first | exact ⟨rfl, rfl⟩ | exact ⟨by assumption, rfl⟩ | exact ⟨by assumption, by assumption⟩ | exact ⟨by omega, rfl⟩ | exact ⟨by omega, by omega⟩ | exact ⟨by decide, rfl⟩) rfl rfl rfl rfl dR_perform_152 ?_
      refine lv_iload hx hb dR_perform_155 (lv_at hl 3 rfl) ?_
      refine s_iald hx hb hK hH (by first | exact ⟨rfl, rfl⟩ | exact ⟨by assumption, rfl⟩ | exact ⟨by assumption, by assumption⟩ | exact ⟨by omega, rfl⟩ | exact ⟨by omega, by omega⟩ | exact ⟨by decide, rfl⟩) rfl _ (by first | rfl | assumption) (by first | assumption | decide | omega) (by decide) dR_perform_157 ?_
      refine lv_iload hx hb dR_perform_158 (lv_at hl 2 rfl) ?_
      refine lv_iadd hx hb dR_perform_160 ?_
      refine lv_sipush (v := 255) hx hb dR_perform_161 (by decide) ?_
      refine lv_iand hx hb dR_perform_164 ?_
      rw [et]
      refine lv_aload_n hx hb dR_perform_165 rfl (lv_at hl 8 rfl) ?_
      refine s_ciE (va_runV (As := [.int _, .int _, .int _, .ref _]) (rest := []) ⟨hx, hb, hml, hown, hw⟩ (c_R_moveWord l (w &&& 15 = 3) (by assumption) (by assumption) (by assumption) (by assumption) (by first | exact (bz_t eo).symm | exact (bz_f (by rw [eo]; decide)).symm) (hPl)) (cwV 4 hw (gd_V (gwd_4 (List.mem_of_getElem? (i := 42) rfl)) (gwd_4 (List.mem_of_getElem? (i := 43) rfl)) (gwd_9 (List.mem_of_getElem? (i := 21) rfl)) (gwd_0 (List.mem_of_getElem? (i := 5) rfl)) (gwd_4 (List.mem_of_getElem? (i := 44) rfl))) rfl rfl rfl (by decide +kernel) ⟨Nat.le_of_ble_eq_true rfl, Nat.le_of_ble_eq_true rfl⟩) (gPre.V (n := (9, _, _)) hK hH (by first | exact ⟨rfl, rfl⟩ | exact ⟨by assumption, rfl⟩ | exact ⟨by assumption, by assumption⟩ | exact ⟨by omega, rfl⟩ | exact ⟨by omega, by omega⟩ | exact ⟨by decide, rfl⟩) rfl rfl) rfl rfl hl.1 rfl (lv_room (Nat.le_of_ble_eq_true rfl)) dR_perform_166 ⟨Nat.zero_le _, Nat.zero_le _⟩) hS (fun H locs hH hS => ?_)
      refine lv_istore hx hb dR_perform_169 hl (by decide) rfl (fun ls hl => ?_)
      have hl : lv_has ls 9 [(8, .int _), (7, .int _), (6, .int _), (5, .int _), (4, .int _), (3, .int _), (0, .ref _), (1, .int _), (2, .ref _)] := hl
      refine lv_goto hx hb dR_perform_171 rfl ?_
      refine lv_iload hx hb dR_perform_295 (lv_at hl 0 rfl) ?_
      refine lv_iconst (v := 1) hx hb dR_perform_297 (by decide) ?_
      refine lv_icmp_eq hx hb dR_perform_298 rfl (fun h_11 => ?_) (fun h_11 => ?_)
      · skip
        refine lv_iload hx hb dR_perform_313 (lv_at hl 0 rfl) ?_
        exact r_i hx hb hr hlk hK hH hS dR_perform_315 (by rw [sPerf_mv (Or.inr eo), show wA w = a from hA, show wB w = b from hB, et, hT]; first | (rw [if_pos h_11]; exact ⟨rfl, rfl⟩) | (rw [if_neg h_11]; exact ⟨sMove_01.resolve_left h_11, rfl⟩))
      · skip
        refine lv_iload hx hb dR_perform_301 (lv_at hl 0 rfl) ?_
        refine lv_iconst (v := 5) hx hb dR_perform_303 (by decide) ?_
        refine lv_icmp_eq hx hb dR_perform_304 rfl (fun h_12 => ?_) (fun h_12 => ?_)
        · exact absurd h_12 (by rcases sMove_01 (I := I) (P := P) (g := g) (v := v) (b := (w &&& 15 = 3)) (a := a) (t := t) with z | z <;> rw [z] <;> decide)
        · skip
          refine lv_aload_n hx hb dR_perform_307 rfl (lv_at hl 6 rfl) ?_
          refine lv_iload hx hb dR_perform_308 (lv_at hl 1 rfl) ?_
          refine s_put hx hb hw inR tyR_ok nR hown hK hH hS 1 (by decide) (hw _ (gwd_2 (List.mem_of_getElem? (i := 6) rfl))) (by first | exact ⟨rfl, rfl⟩ | exact ⟨by assumption, rfl⟩ | exact ⟨by assumption, by assumption⟩ | exact ⟨by omega, rfl⟩ | exact ⟨by omega, by omega⟩ | exact ⟨by decide, rfl⟩) rfl rfl rfl rfl rfl rfl rfl (Nat.le_of_ble_eq_true rfl) rfl dR_perform_310 (fun H locs hH hS => ?_)
          refine lv_iload hx hb dR_perform_313 (lv_at hl 0 rfl) ?_
          exact r_i hx hb hr hlk hK hH hS dR_perform_315 (by rw [sPerf_mv (Or.inr eo), show wA w = a from hA, show wB w = b from hB, et, hT]; first | (rw [if_pos h_11]; exact ⟨rfl, rfl⟩) | (rw [if_neg h_11]; exact ⟨sMove_01.resolve_left h_11, rfl⟩))
    · exact absurd h_10 (by decide)
  · have eo : w &&& 15 = 5 := eo
    refine lv_tableIn (off := 132) (tgt := 174) hx hb dR_perform_42 (by decide) (by decide) (by decide) (by decide) ?_
    refine lv_aload_n hx hb dR_perform_174 rfl (lv_at hl 6 rfl) ?_
    refine s_get hx hb hw inR hown hK hH 0 (by decide) (hw _ (gwd_2 (List.mem_of_getElem? (i := 5) rfl))) (by first | exact ⟨rfl, rfl⟩ | exact ⟨by assumption, rfl⟩ | exact ⟨by assumption, by assumption⟩ | exact ⟨by omega, rfl⟩ | exact ⟨by omega, by omega⟩ | exact ⟨by decide, rfl⟩) rfl rfl rfl rfl dR_perform_175 ?_
    refine lv_iload hx hb dR_perform_178 (lv_at hl 4 rfl) ?_
    refine s_iald hx hb hK hH (by first | exact ⟨rfl, rfl⟩ | exact ⟨by assumption, rfl⟩ | exact ⟨by assumption, by assumption⟩ | exact ⟨by omega, rfl⟩ | exact ⟨by omega, by omega⟩ | exact ⟨by decide, rfl⟩) rfl _ (by first | rfl | assumption) (by first | assumption | decide | omega) (by decide) dR_perform_180 ?_
    refine lv_if_eq hx hb dR_perform_181 rfl (fun h_13 => ?_) (fun h_13 => ?_)
    · skip
      refine lv_iload hx hb dR_perform_193 (lv_at hl 1 rfl) ?_
      refine lv_istore hx hb dR_perform_195 hl (by decide) rfl (fun ls hl => ?_)
      have hl : lv_has ls 9 [(7, .int _), (8, .int _), (6, .int _), (5, .int _), (4, .int _), (3, .int _), (0, .ref _), (1, .int _), (2, .ref _)] := hl
      refine lv_goto hx hb dR_perform_197 rfl ?_
      refine lv_iload hx hb dR_perform_295 (lv_at hl 1 rfl) ?_
      refine lv_iconst (v := 1) hx hb dR_perform_297 (by decide) ?_
      refine lv_icmp_eq hx hb dR_perform_298 rfl (fun h_14 => ?_) (fun h_14 => ?_)
      · exact absurd h_14 (by decide)
      · skip
        refine lv_iload hx hb dR_perform_301 (lv_at hl 1 rfl) ?_
        refine lv_iconst (v := 5) hx hb dR_perform_303 (by decide) ?_
        refine lv_icmp_eq hx hb dR_perform_304 rfl (fun h_15 => ?_) (fun h_15 => ?_)
        · exact absurd h_15 (by decide)
        · skip
          refine lv_aload_n hx hb dR_perform_307 rfl (lv_at hl 6 rfl) ?_
          refine lv_iload hx hb dR_perform_308 (lv_at hl 0 rfl) ?_
          refine s_put hx hb hw inR tyR_ok nR hown hK hH hS 1 (by decide) (hw _ (gwd_2 (List.mem_of_getElem? (i := 6) rfl))) (by first | exact ⟨rfl, rfl⟩ | exact ⟨by assumption, rfl⟩ | exact ⟨by assumption, by assumption⟩ | exact ⟨by omega, rfl⟩ | exact ⟨by omega, by omega⟩ | exact ⟨by decide, rfl⟩) rfl rfl rfl rfl rfl rfl rfl (Nat.le_of_ble_eq_true rfl) rfl dR_perform_310 (fun H locs hH hS => ?_)
          refine lv_iload hx hb dR_perform_313 (lv_at hl 1 rfl) ?_
          exact r_i hx hb hr hlk hK hH hS dR_perform_315 (by simp [sPerf, eo, hA, hB, bz, h_13])
    · skip
      refine lv_iload hx hb dR_perform_184 (lv_at hl 2 rfl) ?_
      refine lv_sipush (v := 255) hx hb dR_perform_186 (by decide) ?_
      refine lv_iand hx hb dR_perform_189 ?_
      refine lv_goto hx hb dR_perform_190 rfl ?_
      refine lv_istore hx hb dR_perform_195 hl (by decide) rfl (fun ls hl => ?_)
      have hl : lv_has ls 9 [(7, .int _), (8, .int _), (6, .int _), (5, .int _), (4, .int _), (3, .int _), (0, .ref _), (1, .int _), (2, .ref _)] := hl
      refine lv_goto hx hb dR_perform_197 rfl ?_
      refine lv_iload hx hb dR_perform_295 (lv_at hl 1 rfl) ?_
      refine lv_iconst (v := 1) hx hb dR_perform_297 (by decide) ?_
      refine lv_icmp_eq hx hb dR_perform_298 rfl (fun h_16 => ?_) (fun h_16 => ?_)
      · exact absurd h_16 (by decide)
      · skip
        refine lv_iload hx hb dR_perform_301 (lv_at hl 1 rfl) ?_
        refine lv_iconst (v := 5) hx hb dR_perform_303 (by decide) ?_
        refine lv_icmp_eq hx hb dR_perform_304 rfl (fun h_17 => ?_) (fun h_17 => ?_)
        · exact absurd h_17 (by decide)
        · skip
          refine lv_aload_n hx hb dR_perform_307 rfl (lv_at hl 6 rfl) ?_
          refine lv_iload hx hb dR_perform_308 (lv_at hl 0 rfl) ?_
          refine s_put hx hb hw inR tyR_ok nR hown hK hH hS 1 (by decide) (hw _ (gwd_2 (List.mem_of_getElem? (i := 6) rfl))) (by first | exact ⟨rfl, rfl⟩ | exact ⟨by assumption, rfl⟩ | exact ⟨by assumption, by assumption⟩ | exact ⟨by omega, rfl⟩ | exact ⟨by omega, by omega⟩ | exact ⟨by decide, rfl⟩) rfl rfl rfl rfl rfl rfl rfl (Nat.le_of_ble_eq_true rfl) rfl dR_perform_310 (fun H locs hH hS => ?_)
          refine lv_iload hx hb dR_perform_313 (lv_at hl 1 rfl) ?_
          exact r_i hx hb hr hlk hK hH hS dR_perform_315 (by simp [sPerf, eo, hA, hB, bz, h_13])
  · have eo : w &&& 15 = 6 := eo
    refine lv_tableIn (off := 158) (tgt := 200) hx hb dR_perform_42 (by decide) (by decide) (by decide) (by decide) ?_
    obtain ⟨t, ht, et⟩ := pk_andE (m := 63) (I (10, g, v) a) 6 (by decide)
    have hT : ix (nI t) = t := nI_clamp (by omega)
    have ht : t < 64 := ht
    refine lv_aload_n hx hb dR_perform_200 rfl (lv_at hl 6 rfl) ?_
    refine s_get hx hb hw inR hown hK hH 0 (by decide) (hw _ (gwd_2 (List.mem_of_getElem? (i := 5) rfl))) (by first | exact ⟨rfl, rfl⟩ | exact ⟨by assumption, rfl⟩ | exact ⟨by assumption, by assumption⟩ | exact ⟨by omega, rfl⟩ | exact ⟨by omega, by omega⟩ | exact ⟨by decide, rfl⟩) rfl rfl rfl rfl dR_perform_201 ?_
    refine lv_iload hx hb dR_perform_204 (lv_at hl 4 rfl) ?_
    refine lv_aload_n hx hb dR_perform_206 rfl (lv_at hl 8 rfl) ?_
    refine lv_aload_n hx hb dR_perform_207 rfl (lv_at hl 6 rfl) ?_
    refine s_get hx hb hw inR hown hK hH 0 (by decide) (hw _ (gwd_2 (List.mem_of_getElem? (i := 5) rfl))) (by first | exact ⟨rfl, rfl⟩ | exact ⟨by assumption, rfl⟩ | exact ⟨by assumption, by assumption⟩ | exact ⟨by omega, rfl⟩ | exact ⟨by omega, by omega⟩ | exact ⟨by decide, rfl⟩) rfl rfl rfl rfl dR_perform_208 ?_
    refine lv_iload hx hb dR_perform_211 (lv_at hl 4 rfl) ?_
    refine s_iald hx hb hK hH (by first | exact ⟨rfl, rfl⟩ | exact ⟨by assumption, rfl⟩ | exact ⟨by assumption, by assumption⟩ | exact ⟨by omega, rfl⟩ | exact ⟨by omega, by omega⟩ | exact ⟨by decide, rfl⟩) rfl _ (by first | rfl | assumption) (by first | assumption | decide | omega) (by decide) dR_perform_213 ?_
    refine lv_bipush (v := 63) hx hb dR_perform_214 (by decide) ?_
    refine lv_iand hx hb dR_perform_216 ?_
    rw [et]
    refine lv_iload_n hx hb dR_perform_217 rfl (lv_at hl 5 rfl) ?_
    refine lv_bipush (v := 6) hx hb dR_perform_218 (by decide) ?_
    refine lv_icmp_ne hx hb dR_perform_220 rfl (fun h_18 => ?_) (fun h_18 => ?_)
    · exact absurd h_18 (by decide)
    · skip
      refine lv_iconst (v := 1) hx hb dR_perform_223 (by decide) ?_
      refine lv_goto hx hb dR_perform_224 rfl ?_
      refine s_ciE (va_runV (As := [.int _, .int _]) (rest := [.int _, .ref _]) ⟨hx, hb, hml, hown, hw⟩ (c_G_changeSharingAt l  (by assumption) (by first | assumption | omega) (by first | exact Or.inl rfl | exact Or.inr rfl | exact bz_01 _ | assumption) (hPl)) (cwV 2 hw (gd_V (gwd_4 (List.mem_of_getElem? (i := 45) rfl)) (gwd_4 (List.mem_of_getElem? (i := 46) rfl)) (gwd_4 (List.mem_of_getElem? (i := 47) rfl)) (gwd_0 (List.mem_of_getElem? (i := 4) rfl)) (gwd_5 (List.mem_of_getElem? (i := 0) rfl))) rfl rfl rfl (by decide +kernel) ⟨Nat.le_of_ble_eq_true rfl, Nat.le_of_ble_eq_true rfl⟩) (gPre.V (n := (6, _, 0)) hK hH (by first | exact ⟨rfl, rfl⟩ | exact ⟨by assumption, rfl⟩ | exact ⟨by assumption, by assumption⟩ | exact ⟨by omega, rfl⟩ | exact ⟨by omega, by omega⟩ | exact ⟨by decide, rfl⟩) rfl rfl) rfl rfl hl.1 rfl (lv_room (Nat.le_of_ble_eq_true rfl)) dR_perform_228 ⟨Nat.zero_le _, Nat.zero_le _⟩) hS (fun H locs hH hS => ?_)
      refine lv_if_eq hx hb dR_perform_231 rfl (fun h_19 => ?_) (fun h_19 => ?_)
      · skip
        refine lv_iconst (v := 0) hx hb dR_perform_238 (by decide) ?_
        refine s_iast hx hb hK hH hS (by first | exact ⟨rfl, rfl⟩ | exact ⟨by assumption, rfl⟩ | exact ⟨by assumption, by assumption⟩ | exact ⟨by omega, rfl⟩ | exact ⟨by omega, by omega⟩ | exact ⟨by decide, rfl⟩) rfl _ (by first | rfl | assumption) (by first | assumption | decide | omega) (by decide) rfl dR_perform_239 (fun H locs hH hS => ?_)
        refine lv_goto hx hb dR_perform_240 rfl ?_
        refine lv_iload hx hb dR_perform_295 (lv_at hl 0 rfl) ?_
        refine lv_iconst (v := 1) hx hb dR_perform_297 (by decide) ?_
        refine lv_icmp_eq hx hb dR_perform_298 rfl (fun h_20 => ?_) (fun h_20 => ?_)
        · exact absurd h_20 (by decide)
        · skip
          refine lv_iload hx hb dR_perform_301 (lv_at hl 0 rfl) ?_
          refine lv_iconst (v := 5) hx hb dR_perform_303 (by decide) ?_
          refine lv_icmp_eq hx hb dR_perform_304 rfl (fun h_21 => ?_) (fun h_21 => ?_)
          · exact absurd h_21 (by decide)
          · skip
            refine lv_aload_n hx hb dR_perform_307 rfl (lv_at hl 6 rfl) ?_
            refine lv_iload hx hb dR_perform_308 (lv_at hl 1 rfl) ?_
            refine s_put hx hb hw inR tyR_ok nR hown hK hH hS 1 (by decide) (hw _ (gwd_2 (List.mem_of_getElem? (i := 6) rfl))) (by first | exact ⟨rfl, rfl⟩ | exact ⟨by assumption, rfl⟩ | exact ⟨by assumption, by assumption⟩ | exact ⟨by omega, rfl⟩ | exact ⟨by omega, by omega⟩ | exact ⟨by decide, rfl⟩) rfl rfl rfl rfl rfl rfl rfl (Nat.le_of_ble_eq_true rfl) rfl dR_perform_310 (fun H locs hH hS => ?_)
            refine lv_iload hx hb dR_perform_313 (lv_at hl 0 rfl) ?_
            exact r_i hx hb hr hlk hK hH hS dR_perform_315 (by simp [sPerf, eo, hA, hB, bz, et, hT, h_19])
      · skip
        have h_19 := sChg_01.resolve_left h_19
        refine lv_iconst (v := 1) hx hb dR_perform_234 (by decide) ?_
        refine lv_goto hx hb dR_perform_235 rfl ?_
        refine s_iast hx hb hK hH hS (by first | exact ⟨rfl, rfl⟩ | exact ⟨by assumption, rfl⟩ | exact ⟨by assumption, by assumption⟩ | exact ⟨by omega, rfl⟩ | exact ⟨by omega, by omega⟩ | exact ⟨by decide, rfl⟩) rfl _ (by first | rfl | assumption) (by first | assumption | decide | omega) (by decide) rfl dR_perform_239 (fun H locs hH hS => ?_)
        refine lv_goto hx hb dR_perform_240 rfl ?_
        refine lv_iload hx hb dR_perform_295 (lv_at hl 0 rfl) ?_
        refine lv_iconst (v := 1) hx hb dR_perform_297 (by decide) ?_
        refine lv_icmp_eq hx hb dR_perform_298 rfl (fun h_22 => ?_) (fun h_22 => ?_)
        · exact absurd h_22 (by decide)
        · skip
          refine lv_iload hx hb dR_perform_301 (lv_at hl 0 rfl) ?_
          refine lv_iconst (v := 5) hx hb dR_perform_303 (by decide) ?_
          refine lv_icmp_eq hx hb dR_perform_304 rfl (fun h_23 => ?_) (fun h_23 => ?_)
          · exact absurd h_23 (by decide)
          · skip
            refine lv_aload_n hx hb dR_perform_307 rfl (lv_at hl 6 rfl) ?_
            refine lv_iload hx hb dR_perform_308 (lv_at hl 1 rfl) ?_
            refine s_put hx hb hw inR tyR_ok nR hown hK hH hS 1 (by decide) (hw _ (gwd_2 (List.mem_of_getElem? (i := 6) rfl))) (by first | exact ⟨rfl, rfl⟩ | exact ⟨by assumption, rfl⟩ | exact ⟨by assumption, by assumption⟩ | exact ⟨by omega, rfl⟩ | exact ⟨by omega, by omega⟩ | exact ⟨by decide, rfl⟩) rfl rfl rfl rfl rfl rfl rfl (Nat.le_of_ble_eq_true rfl) rfl dR_perform_310 (fun H locs hH hS => ?_)
            refine lv_iload hx hb dR_perform_313 (lv_at hl 0 rfl) ?_
            exact r_i hx hb hr hlk hK hH hS dR_perform_315 (by simp [sPerf, eo, hA, hB, bz, et, hT, h_19])
  · have eo : w &&& 15 = 7 := eo
    refine lv_tableIn (off := 158) (tgt := 200) hx hb dR_perform_42 (by decide) (by decide) (by decide) (by decide) ?_
    obtain ⟨t, ht, et⟩ := pk_andE (m := 63) (I (10, g, v) a) 6 (by decide)
    have hT : ix (nI t) = t := nI_clamp (by omega)
    have ht : t < 64 := ht
    refine lv_aload_n hx hb dR_perform_200 rfl (lv_at hl 6 rfl) ?_
    refine s_get hx hb hw inR hown hK hH 0 (by decide) (hw _ (gwd_2 (List.mem_of_getElem? (i := 5) rfl))) (by first | exact ⟨rfl, rfl⟩ | exact ⟨by assumption, rfl⟩ | exact ⟨by assumption, by assumption⟩ | exact ⟨by omega, rfl⟩ | exact ⟨by omega, by omega⟩ | exact ⟨by decide, rfl⟩) rfl rfl rfl rfl dR_perform_201 ?_
    refine lv_iload hx hb dR_perform_204 (lv_at hl 4 rfl) ?_
    refine lv_aload_n hx hb dR_perform_206 rfl (lv_at hl 8 rfl) ?_
    refine lv_aload_n hx hb dR_perform_207 rfl (lv_at hl 6 rfl) ?_
    refine s_get hx hb hw inR hown hK hH 0 (by decide) (hw _ (gwd_2 (List.mem_of_getElem? (i := 5) rfl))) (by first | exact ⟨rfl, rfl⟩ | exact ⟨by assumption, rfl⟩ | exact ⟨by assumption, by assumption⟩ | exact ⟨by omega, rfl⟩ | exact ⟨by omega, by omega⟩ | exact ⟨by decide, rfl⟩) rfl rfl rfl rfl dR_perform_208 ?_
    refine lv_iload hx hb dR_perform_211 (lv_at hl 4 rfl) ?_
    refine s_iald hx hb hK hH (by first | exact ⟨rfl, rfl⟩ | exact ⟨by assumption, rfl⟩ | exact ⟨by assumption, by assumption⟩ | exact ⟨by omega, rfl⟩ | exact ⟨by omega, by omega⟩ | exact ⟨by decide, rfl⟩) rfl _ (by first | rfl | assumption) (by first | assumption | decide | omega) (by decide) dR_perform_213 ?_
    refine lv_bipush (v := 63) hx hb dR_perform_214 (by decide) ?_
    refine lv_iand hx hb dR_perform_216 ?_
    rw [et]
    refine lv_iload_n hx hb dR_perform_217 rfl (lv_at hl 5 rfl) ?_
    refine lv_bipush (v := 6) hx hb dR_perform_218 (by decide) ?_
    refine lv_icmp_ne hx hb dR_perform_220 rfl (fun h_24 => ?_) (fun h_24 => ?_)
    · skip
      refine lv_iconst (v := 0) hx hb dR_perform_227 (by decide) ?_
      refine s_ciE (va_runV (As := [.int _, .int _]) (rest := [.int _, .ref _]) ⟨hx, hb, hml, hown, hw⟩ (c_G_changeSharingAt l  (by assumption) (by first | assumption | omega) (by first | exact Or.inl rfl | exact Or.inr rfl | exact bz_01 _ | assumption) (hPl)) (cwV 2 hw (gd_V (gwd_4 (List.mem_of_getElem? (i := 45) rfl)) (gwd_4 (List.mem_of_getElem? (i := 46) rfl)) (gwd_4 (List.mem_of_getElem? (i := 47) rfl)) (gwd_0 (List.mem_of_getElem? (i := 4) rfl)) (gwd_5 (List.mem_of_getElem? (i := 0) rfl))) rfl rfl rfl (by decide +kernel) ⟨Nat.le_of_ble_eq_true rfl, Nat.le_of_ble_eq_true rfl⟩) (gPre.V (n := (6, _, 0)) hK hH (by first | exact ⟨rfl, rfl⟩ | exact ⟨by assumption, rfl⟩ | exact ⟨by assumption, by assumption⟩ | exact ⟨by omega, rfl⟩ | exact ⟨by omega, by omega⟩ | exact ⟨by decide, rfl⟩) rfl rfl) rfl rfl hl.1 rfl (lv_room (Nat.le_of_ble_eq_true rfl)) dR_perform_228 ⟨Nat.zero_le _, Nat.zero_le _⟩) hS (fun H locs hH hS => ?_)
      refine lv_if_eq hx hb dR_perform_231 rfl (fun h_25 => ?_) (fun h_25 => ?_)
      · skip
        refine lv_iconst (v := 0) hx hb dR_perform_238 (by decide) ?_
        refine s_iast hx hb hK hH hS (by first | exact ⟨rfl, rfl⟩ | exact ⟨by assumption, rfl⟩ | exact ⟨by assumption, by assumption⟩ | exact ⟨by omega, rfl⟩ | exact ⟨by omega, by omega⟩ | exact ⟨by decide, rfl⟩) rfl _ (by first | rfl | assumption) (by first | assumption | decide | omega) (by decide) rfl dR_perform_239 (fun H locs hH hS => ?_)
        refine lv_goto hx hb dR_perform_240 rfl ?_
        refine lv_iload hx hb dR_perform_295 (lv_at hl 0 rfl) ?_
        refine lv_iconst (v := 1) hx hb dR_perform_297 (by decide) ?_
        refine lv_icmp_eq hx hb dR_perform_298 rfl (fun h_26 => ?_) (fun h_26 => ?_)
        · exact absurd h_26 (by decide)
        · skip
          refine lv_iload hx hb dR_perform_301 (lv_at hl 0 rfl) ?_
          refine lv_iconst (v := 5) hx hb dR_perform_303 (by decide) ?_
          refine lv_icmp_eq hx hb dR_perform_304 rfl (fun h_27 => ?_) (fun h_27 => ?_)
          · exact absurd h_27 (by decide)
          · skip
            refine lv_aload_n hx hb dR_perform_307 rfl (lv_at hl 6 rfl) ?_
            refine lv_iload hx hb dR_perform_308 (lv_at hl 1 rfl) ?_
            refine s_put hx hb hw inR tyR_ok nR hown hK hH hS 1 (by decide) (hw _ (gwd_2 (List.mem_of_getElem? (i := 6) rfl))) (by first | exact ⟨rfl, rfl⟩ | exact ⟨by assumption, rfl⟩ | exact ⟨by assumption, by assumption⟩ | exact ⟨by omega, rfl⟩ | exact ⟨by omega, by omega⟩ | exact ⟨by decide, rfl⟩) rfl rfl rfl rfl rfl rfl rfl (Nat.le_of_ble_eq_true rfl) rfl dR_perform_310 (fun H locs hH hS => ?_)
            refine lv_iload hx hb dR_perform_313 (lv_at hl 0 rfl) ?_
            exact r_i hx hb hr hlk hK hH hS dR_perform_315 (by simp [sPerf, eo, hA, hB, bz, et, hT, h_25])
      · skip
        have h_25 := sChg_01.resolve_left h_25
        refine lv_iconst (v := 1) hx hb dR_perform_234 (by decide) ?_
        refine lv_goto hx hb dR_perform_235 rfl ?_
        refine s_iast hx hb hK hH hS (by first | exact ⟨rfl, rfl⟩ | exact ⟨by assumption, rfl⟩ | exact ⟨by assumption, by assumption⟩ | exact ⟨by omega, rfl⟩ | exact ⟨by omega, by omega⟩ | exact ⟨by decide, rfl⟩) rfl _ (by first | rfl | assumption) (by first | assumption | decide | omega) (by decide) rfl dR_perform_239 (fun H locs hH hS => ?_)
        refine lv_goto hx hb dR_perform_240 rfl ?_
        refine lv_iload hx hb dR_perform_295 (lv_at hl 0 rfl) ?_
        refine lv_iconst (v := 1) hx hb dR_perform_297 (by decide) ?_
        refine lv_icmp_eq hx hb dR_perform_298 rfl (fun h_28 => ?_) (fun h_28 => ?_)
        · exact absurd h_28 (by decide)
        · skip
          refine lv_iload hx hb dR_perform_301 (lv_at hl 0 rfl) ?_
          refine lv_iconst (v := 5) hx hb dR_perform_303 (by decide) ?_
          refine lv_icmp_eq hx hb dR_perform_304 rfl (fun h_29 => ?_) (fun h_29 => ?_)
          · exact absurd h_29 (by decide)
          · skip
            refine lv_aload_n hx hb dR_perform_307 rfl (lv_at hl 6 rfl) ?_
            refine lv_iload hx hb dR_perform_308 (lv_at hl 1 rfl) ?_
            refine s_put hx hb hw inR tyR_ok nR hown hK hH hS 1 (by decide) (hw _ (gwd_2 (List.mem_of_getElem? (i := 6) rfl))) (by first | exact ⟨rfl, rfl⟩ | exact ⟨by assumption, rfl⟩ | exact ⟨by assumption, by assumption⟩ | exact ⟨by omega, rfl⟩ | exact ⟨by omega, by omega⟩ | exact ⟨by decide, rfl⟩) rfl rfl rfl rfl rfl rfl rfl (Nat.le_of_ble_eq_true rfl) rfl dR_perform_310 (fun H locs hH hS => ?_)
            refine lv_iload hx hb dR_perform_313 (lv_at hl 0 rfl) ?_
            exact r_i hx hb hr hlk hK hH hS dR_perform_315 (by simp [sPerf, eo, hA, hB, bz, et, hT, h_25])
    · exact absurd h_24 (by decide)
  · have eo : w &&& 15 = 8 := eo
    refine lv_tableIn (off := 201) (tgt := 243) hx hb dR_perform_42 (by decide) (by decide) (by decide) (by decide) ?_
    refine lv_aload_n hx hb dR_perform_243 rfl (lv_at hl 6 rfl) ?_
    refine lv_aload_n hx hb dR_perform_244 rfl (lv_at hl 6 rfl) ?_
    refine s_get hx hb hw inR hown hK hH 0 (by decide) (hw _ (gwd_2 (List.mem_of_getElem? (i := 5) rfl))) (by first | exact ⟨rfl, rfl⟩ | exact ⟨by assumption, rfl⟩ | exact ⟨by assumption, by assumption⟩ | exact ⟨by omega, rfl⟩ | exact ⟨by omega, by omega⟩ | exact ⟨by decide, rfl⟩) rfl rfl rfl rfl dR_perform_245 ?_
    refine lv_iload hx hb dR_perform_248 (lv_at hl 4 rfl) ?_
    refine s_iald hx hb hK hH (by first | exact ⟨rfl, rfl⟩ | exact ⟨by assumption, rfl⟩ | exact ⟨by assumption, by assumption⟩ | exact ⟨by omega, rfl⟩ | exact ⟨by omega, by omega⟩ | exact ⟨by decide, rfl⟩) rfl _ (by first | rfl | assumption) (by first | assumption | decide | omega) (by decide) dR_perform_250 ?_
    refine s_put hx hb hw inR tyR_ok nR hown hK hH hS 2 (by decide) (hw _ (gwd_2 (List.mem_of_getElem? (i := 7) rfl))) (by first | exact ⟨rfl, rfl⟩ | exact ⟨by assumption, rfl⟩ | exact ⟨by assumption, by assumption⟩ | exact ⟨by omega, rfl⟩ | exact ⟨by omega, by omega⟩ | exact ⟨by decide, rfl⟩) rfl rfl rfl rfl rfl rfl rfl (Nat.le_of_ble_eq_true rfl) rfl dR_perform_251 (fun H locs hH hS => ?_)
    refine lv_iconst (v := 2) hx hb dR_perform_254 (by decide) ?_
    refine lv_istore hx hb dR_perform_255 hl (by decide) rfl (fun ls hl => ?_)
    have hl : lv_has ls 9 [(8, .int _), (7, .int _), (6, .int _), (5, .int _), (4, .int _), (3, .int _), (0, .ref _), (1, .int _), (2, .ref _)] := hl
    refine lv_goto hx hb dR_perform_257 rfl ?_
    refine lv_iload hx hb dR_perform_295 (lv_at hl 0 rfl) ?_
    refine lv_iconst (v := 1) hx hb dR_perform_297 (by decide) ?_
    refine lv_icmp_eq hx hb dR_perform_298 rfl (fun h_30 => ?_) (fun h_30 => ?_)
    · exact absurd h_30 (by decide)
    · skip
      refine lv_iload hx hb dR_perform_301 (lv_at hl 0 rfl) ?_
      refine lv_iconst (v := 5) hx hb dR_perform_303 (by decide) ?_
      refine lv_icmp_eq hx hb dR_perform_304 rfl (fun h_31 => ?_) (fun h_31 => ?_)
      · exact absurd h_31 (by decide)
      · skip
        refine lv_aload_n hx hb dR_perform_307 rfl (lv_at hl 6 rfl) ?_
        refine lv_iload hx hb dR_perform_308 (lv_at hl 1 rfl) ?_
        refine s_put hx hb hw inR tyR_ok nR hown hK hH hS 1 (by decide) (hw _ (gwd_2 (List.mem_of_getElem? (i := 6) rfl))) (by first | exact ⟨rfl, rfl⟩ | exact ⟨by assumption, rfl⟩ | exact ⟨by assumption, by assumption⟩ | exact ⟨by omega, rfl⟩ | exact ⟨by omega, by omega⟩ | exact ⟨by decide, rfl⟩) rfl rfl rfl rfl rfl rfl rfl (Nat.le_of_ble_eq_true rfl) rfl dR_perform_310 (fun H locs hH hS => ?_)
        refine lv_iload hx hb dR_perform_313 (lv_at hl 0 rfl) ?_
        exact r_i hx hb hr hlk hK hH hS dR_perform_315 (by simp [sPerf, eo, hA, hB, bz])
  · have eo : w &&& 15 = 9 := eo
    refine lv_tableIn (off := 218) (tgt := 260) hx hb dR_perform_42 (by decide) (by decide) (by decide) (by decide) ?_
    refine lv_aload_n hx hb dR_perform_260 rfl (lv_at hl 6 rfl) ?_
    refine lv_iload hx hb dR_perform_261 (lv_at hl 4 rfl) ?_
    refine s_put hx hb hw inR tyR_ok nR hown hK hH hS 3 (by decide) (hw _ (gwd_2 (List.mem_of_getElem? (i := 9) rfl))) (by first | exact ⟨rfl, rfl⟩ | exact ⟨by assumption, rfl⟩ | exact ⟨by assumption, by assumption⟩ | exact ⟨by omega, rfl⟩ | exact ⟨by omega, by omega⟩ | exact ⟨by decide, rfl⟩) rfl rfl rfl rfl rfl rfl rfl (Nat.le_of_ble_eq_true rfl) rfl dR_perform_263 (fun H locs hH hS => ?_)
    refine lv_iconst (v := 3) hx hb dR_perform_266 (by decide) ?_
    refine lv_istore hx hb dR_perform_267 hl (by decide) rfl (fun ls hl => ?_)
    have hl : lv_has ls 9 [(8, .int _), (7, .int _), (6, .int _), (5, .int _), (4, .int _), (3, .int _), (0, .ref _), (1, .int _), (2, .ref _)] := hl
    refine lv_goto hx hb dR_perform_269 rfl ?_
    refine lv_iload hx hb dR_perform_295 (lv_at hl 0 rfl) ?_
    refine lv_iconst (v := 1) hx hb dR_perform_297 (by decide) ?_
    refine lv_icmp_eq hx hb dR_perform_298 rfl (fun h_32 => ?_) (fun h_32 => ?_)
    · exact absurd h_32 (by decide)
    · skip
      refine lv_iload hx hb dR_perform_301 (lv_at hl 0 rfl) ?_
      refine lv_iconst (v := 5) hx hb dR_perform_303 (by decide) ?_
      refine lv_icmp_eq hx hb dR_perform_304 rfl (fun h_33 => ?_) (fun h_33 => ?_)
      · exact absurd h_33 (by decide)
      · skip
        refine lv_aload_n hx hb dR_perform_307 rfl (lv_at hl 6 rfl) ?_
        refine lv_iload hx hb dR_perform_308 (lv_at hl 1 rfl) ?_
        refine s_put hx hb hw inR tyR_ok nR hown hK hH hS 1 (by decide) (hw _ (gwd_2 (List.mem_of_getElem? (i := 6) rfl))) (by first | exact ⟨rfl, rfl⟩ | exact ⟨by assumption, rfl⟩ | exact ⟨by assumption, by assumption⟩ | exact ⟨by omega, rfl⟩ | exact ⟨by omega, by omega⟩ | exact ⟨by decide, rfl⟩) rfl rfl rfl rfl rfl rfl rfl (Nat.le_of_ble_eq_true rfl) rfl dR_perform_310 (fun H locs hH hS => ?_)
        refine lv_iload hx hb dR_perform_313 (lv_at hl 0 rfl) ?_
        exact r_i hx hb hr hlk hK hH hS dR_perform_315 (by simp [sPerf, eo, hA, hB, bz])
  · have eo : w &&& 15 = 10 := eo
    refine lv_tableIn (off := 230) (tgt := 272) hx hb dR_perform_42 (by decide) (by decide) (by decide) (by decide) ?_
    refine lv_aload_n hx hb dR_perform_272 rfl (lv_at hl 6 rfl) ?_
    refine s_get hx hb hw inR hown hK hH 0 (by decide) (hw _ (gwd_2 (List.mem_of_getElem? (i := 5) rfl))) (by first | exact ⟨rfl, rfl⟩ | exact ⟨by assumption, rfl⟩ | exact ⟨by assumption, by assumption⟩ | exact ⟨by omega, rfl⟩ | exact ⟨by omega, by omega⟩ | exact ⟨by decide, rfl⟩) rfl rfl rfl rfl dR_perform_273 ?_
    refine lv_iload hx hb dR_perform_276 (lv_at hl 4 rfl) ?_
    refine lv_dup2_11 hx hb dR_perform_278 rfl rfl ?_
    refine s_iald hx hb hK hH (by first | exact ⟨rfl, rfl⟩ | exact ⟨by assumption, rfl⟩ | exact ⟨by assumption, by assumption⟩ | exact ⟨by omega, rfl⟩ | exact ⟨by omega, by omega⟩ | exact ⟨by decide, rfl⟩) rfl _ (by first | rfl | assumption) (by first | assumption | decide | omega) (by decide) dR_perform_279 ?_
    refine lv_aload_n hx hb dR_perform_280 rfl (lv_at hl 6 rfl) ?_
    refine s_get hx hb hw inR hown hK hH 0 (by decide) (hw _ (gwd_2 (List.mem_of_getElem? (i := 5) rfl))) (by first | exact ⟨rfl, rfl⟩ | exact ⟨by assumption, rfl⟩ | exact ⟨by assumption, by assumption⟩ | exact ⟨by omega, rfl⟩ | exact ⟨by omega, by omega⟩ | exact ⟨by decide, rfl⟩) rfl rfl rfl rfl dR_perform_281 ?_
    refine lv_iload hx hb dR_perform_284 (lv_at hl 3 rfl) ?_
    refine s_iald hx hb hK hH (by first | exact ⟨rfl, rfl⟩ | exact ⟨by assumption, rfl⟩ | exact ⟨by assumption, by assumption⟩ | exact ⟨by omega, rfl⟩ | exact ⟨by omega, by omega⟩ | exact ⟨by decide, rfl⟩) rfl _ (by first | rfl | assumption) (by first | assumption | decide | omega) (by decide) dR_perform_286 ?_
    refine lv_ixor hx hb dR_perform_287 ?_
    refine s_iast hx hb hK hH hS (by first | exact ⟨rfl, rfl⟩ | exact ⟨by assumption, rfl⟩ | exact ⟨by assumption, by assumption⟩ | exact ⟨by omega, rfl⟩ | exact ⟨by omega, by omega⟩ | exact ⟨by decide, rfl⟩) rfl _ (by first | rfl | assumption) (by first | assumption | decide | omega) (by decide) rfl dR_perform_288 (fun H locs hH hS => ?_)
    refine lv_goto hx hb dR_perform_289 rfl ?_
    refine lv_iload hx hb dR_perform_295 (lv_at hl 0 rfl) ?_
    refine lv_iconst (v := 1) hx hb dR_perform_297 (by decide) ?_
    refine lv_icmp_eq hx hb dR_perform_298 rfl (fun h_34 => ?_) (fun h_34 => ?_)
    · exact absurd h_34 (by decide)
    · skip
      refine lv_iload hx hb dR_perform_301 (lv_at hl 0 rfl) ?_
      refine lv_iconst (v := 5) hx hb dR_perform_303 (by decide) ?_
      refine lv_icmp_eq hx hb dR_perform_304 rfl (fun h_35 => ?_) (fun h_35 => ?_)
      · exact absurd h_35 (by decide)
      · skip
        refine lv_aload_n hx hb dR_perform_307 rfl (lv_at hl 6 rfl) ?_
        refine lv_iload hx hb dR_perform_308 (lv_at hl 1 rfl) ?_
        refine s_put hx hb hw inR tyR_ok nR hown hK hH hS 1 (by decide) (hw _ (gwd_2 (List.mem_of_getElem? (i := 6) rfl))) (by first | exact ⟨rfl, rfl⟩ | exact ⟨by assumption, rfl⟩ | exact ⟨by assumption, by assumption⟩ | exact ⟨by omega, rfl⟩ | exact ⟨by omega, by omega⟩ | exact ⟨by decide, rfl⟩) rfl rfl rfl rfl rfl rfl rfl (Nat.le_of_ble_eq_true rfl) rfl dR_perform_310 (fun H locs hH hS => ?_)
        refine lv_iload hx hb dR_perform_313 (lv_at hl 0 rfl) ?_
        exact r_i hx hb hr hlk hK hH hS dR_perform_315 (by simp [sPerf, eo, hA, hB, bz])
  · have hb2 : (10 : Int32).toInt < (nI o).toInt := by rw [nI_toInt (by omega)]; exact Int.ofNat_lt.mpr hbig
    refine lv_tableOut (tgt := 292) hx hb dR_perform_42 (Or.inr hb2) (by decide) ?_
    refine lv_iconst (v := 5) hx hb dR_perform_292 (by decide) ?_
    refine lv_istore hx hb dR_perform_293 hl (by decide) rfl (fun ls hl => ?_)
    have hl : lv_has ls 9 [(8, .int _), (7, .int _), (6, .int _), (5, .int _), (4, .int _), (3, .int _), (0, .ref _), (1, .int _), (2, .ref _)] := hl
    refine lv_iload hx hb dR_perform_295 (lv_at hl 0 rfl) ?_
    refine lv_iconst (v := 1) hx hb dR_perform_297 (by decide) ?_
    refine lv_icmp_eq hx hb dR_perform_298 rfl (fun h_36 => ?_) (fun h_36 => ?_)
    · exact absurd h_36 (by decide)
    · skip
      refine lv_iload hx hb dR_perform_301 (lv_at hl 0 rfl) ?_
      refine lv_iconst (v := 5) hx hb dR_perform_303 (by decide) ?_
      refine lv_icmp_eq hx hb dR_perform_304 rfl (fun h_37 => ?_) (fun h_37 => ?_)
      · skip
        refine lv_iload hx hb dR_perform_313 (lv_at hl 0 rfl) ?_
        exact r_i hx hb hr hlk hK hH hS dR_perform_315 (by rw [sPerf_bad (hbg hbig)]; exact ⟨rfl, rfl⟩)
      · exact absurd h_37 (by decide)
end
section
def pcOK (I : gI) (g v : Nat) : Prop := ∃ t, t < 256 ∧ I (9, g, v) 1 = nI t
theorem and255 (x : Int32) : ∃ t, t < 256 ∧ x &&& 255 = nI t := pk_andE (m := 255) x 8 (by decide)
theorem sMove_pc {I : gI} {P : gP} {g v : Nat} {b : Prop} [Decidable b] {a t : Nat} : (sMove I P g v b a t).2 (9, g, v) 1 = I (9, g, v) 1 := by
  unfold sMove
  split
  · simp [sFault, iu_at]
  · split <;> simp [iu_at]
theorem pc_iu {I : gI} {g v : Nat} {x : Int32} (h : ∃ t, t < 256 ∧ x = nI t) : pcOK (iu I (pr g v) 1 x) g v := by
  obtain ⟨t, ht, rfl⟩ := h
  exact ⟨t, ht, by simp [iu_at]⟩
theorem sPerf_pc {I : gI} {P : gP} {g v : Nat} {w : Int32} (h : pcOK I g v) : pcOK (sPerf I P g v w).2 g v := by
  unfold sPerf
  split
  · exact pc_iu (and255 _)
  split
  · exact pc_iu (and255 _)
  split
  · exact pc_iu (and255 _)
  split
  · split
    · obtain ⟨t, ht, e⟩ := h
      exact ⟨t, ht, by rw [sMove_pc]; exact e⟩
    · exact pc_iu (and255 _)
  split
  · refine pc_iu ?_
    split
    · exact and255 _
    · exact and255 _
  split
  · exact pc_iu (and255 _)
  split
  · exact pc_iu (and255 _)
  split
  · exact pc_iu (and255 _)
  split
  · exact pc_iu (and255 _)
  · exact h
theorem sStep_pc {I : gI} {P : gP} {g v : Nat} (h : pcOK I g v) : pcOK (sStep P g v I).2 g v := by
  unfold sStep
  split
  · obtain ⟨t, ht, e⟩ := h
    exact ⟨t, ht, by simp [sFault, iu_at]; exact e⟩
  · exact sPerf_pc h
set_option maxHeartbeats 4000000 in
set_option maxRecDepth 100000 in
theorem c_R_makeStep (l : Launch) {D : va_G} {c : Nat → ClassId} {sz : Nat} {ad : gN → Nat} {k : Nat} {I J : gI} {P : gP} {LG : Option Nat} {LP : Option (Nat × Nat)} {g v : Nat} (hg : g < k) (hv1 : v < 2) (hpc : pcOK I g v) (hPl : ∀ g a q, P g a = some q → q < 24) : Met l yR_makeStep wR_makeStep { frames := 4, cells := 0, slots := 0, locals := 92 } (gPre D c sz [.ref (ad (9, g, v)), .ref (ad (6, g, 0))] (ad, k, I, J, P, LG, LP)) (va_Qi (fun r u => r = (sStep P g v I).1 ∧ u = (ad, k, (sStep P g v I).2, J, P, LG, LP)) (gB D c sz) (gA sz)) 0 0 (gA sz) := by
  refine Met.ofW (cc := cR_makeStep) (maxL := 3) (ret := (some .int)) (by decide) rfl ?_
  intro p e s m args below meth cd s₁ B hml hv
  obtain ⟨rfl, hK, hH⟩ := hv
  have hx := B.exec
  have hb := B.bytes
  have hr := B.returns
  have hts := atoms_spec (ws := wR_makeStep) B.pre
  have hw : ∀ w ∈ gWd, w.before _ s = true := fun w h => hts w (List.mem_cons_of_mem _ h)
  have hown : s.vm.findClass RR = some m.cls := findClass_of_methodNamed B.named
  have hlk := B.notSynchronized
  have hS : va_S (gA sz) s.heap s.heap [] := va_S.rf
  have hH : gW D c sz ad k I J P LG LP s.heap := hH
  have hl := lv_entry ([.ref (ad (9, g, v)), .ref (ad (6, g, 0))]) (n := 3) (Nat.le_of_ble_eq_true rfl)
  rw [lg_entry_eq]
  generalize (lg_sl ([.ref (ad (9, g, v)), .ref (ad (6, g, 0))]) ++ List.replicate (3 - (lg_sl ([.ref (ad (9, g, v)), .ref (ad (6, g, 0))])).length) Slot.unset).toArray = ls at hl ⊢
  have hl : lv_has ls 3 [(0, .ref (ad (9, g, v))), (1, .ref (ad (6, g, 0)))] := hl
  obtain ⟨t, ht, et⟩ := hpc
  have erem : nI t - nI t / 4 * 4 = nI (t % 4) := pk_rem (d := 4) (by omega) (by decide) (by decide)
  refine lv_aload_n hx hb dR_makeStep_0 rfl (lv_at hl 1 rfl) ?_
  refine lv_aload_n hx hb dR_makeStep_1 rfl (lv_at hl 0 rfl) ?_
  refine s_get hx hb hw inR hown hK hH 1 (by decide) (hw _ (gwd_2 (List.mem_of_getElem? (i := 6) rfl))) (by first | exact ⟨rfl, rfl⟩ | exact ⟨by assumption, rfl⟩ | exact ⟨by assumption, by assumption⟩ | exact ⟨by omega, rfl⟩ | exact ⟨by omega, by omega⟩ | exact ⟨by decide, rfl⟩) rfl rfl rfl rfl dR_makeStep_2 ?_
  rw [et]
  refine s_cqE (va_runV (As := [.int _]) (rest := []) ⟨hx, hb, hml, hown, hw⟩ (c_G_pageAtAddress l  (by assumption) (by first | assumption | omega) (hPl)) (cwV 1 hw (gd_V (gwd_4 (List.mem_of_getElem? (i := 32) rfl)) (gwd_4 (List.mem_of_getElem? (i := 33) rfl)) (gwd_4 (List.mem_of_getElem? (i := 34) rfl)) (gwd_0 (List.mem_of_getElem? (i := 4) rfl)) (gwd_4 (List.mem_of_getElem? (i := 35) rfl))) rfl rfl rfl (by decide +kernel) ⟨Nat.le_of_ble_eq_true rfl, Nat.le_of_ble_eq_true rfl⟩) (gPre.V (n := (6, _, 0)) hK hH (by first | exact ⟨rfl, rfl⟩ | exact ⟨by assumption, rfl⟩ | exact ⟨by assumption, by assumption⟩ | exact ⟨by omega, rfl⟩ | exact ⟨by omega, by omega⟩ | exact ⟨by decide, rfl⟩) rfl rfl) rfl rfl hl.1 rfl (lv_room (Nat.le_of_ble_eq_true rfl)) dR_makeStep_5 ⟨Nat.zero_le _, Nat.zero_le _⟩) hS (fun H locs h_1 hH hS => ?_) (fun H locs g_2 h_1 hH hS => ?_)
  · skip
    refine lv_astore_nN hx hb dR_makeStep_8 rfl hl (by decide) rfl (fun ls hl => ?_)
    have hl : lv_has ls 3 [(2, .null), (0, .ref _), (1, .ref _)] := hl
    refine lv_aload_nN hx hb dR_makeStep_9 rfl (lv_at hl 0 rfl) ?_
    refine lv_ifnonnullN hx hb dR_makeStep_10 ?_
    refine lv_aload_n hx hb dR_makeStep_13 rfl (lv_at hl 1 rfl) ?_
    refine lv_aload_n hx hb dR_makeStep_14 rfl (lv_at hl 1 rfl) ?_
    refine s_get hx hb hw inR hown hK hH 1 (by decide) (hw _ (gwd_2 (List.mem_of_getElem? (i := 6) rfl))) (by first | exact ⟨rfl, rfl⟩ | exact ⟨by assumption, rfl⟩ | exact ⟨by assumption, by assumption⟩ | exact ⟨by omega, rfl⟩ | exact ⟨by omega, by omega⟩ | exact ⟨by decide, rfl⟩) rfl rfl rfl rfl dR_makeStep_15 ?_
    refine s_ciE (va_runV (As := [.int _]) (rest := []) ⟨hx, hb, hml, hown, hw⟩ (c_R_faultAt l  (by assumption) (by assumption)) (cwV 1 hw (gd_V (gwd_4 (List.mem_of_getElem? (i := 36) rfl)) (gwd_4 (List.mem_of_getElem? (i := 37) rfl)) (gwd_9 (List.mem_of_getElem? (i := 19) rfl)) (gwd_0 (List.mem_of_getElem? (i := 5) rfl)) (gwd_4 (List.mem_of_getElem? (i := 38) rfl))) rfl rfl rfl (by decide +kernel) ⟨Nat.le_of_ble_eq_true rfl, Nat.le_of_ble_eq_true rfl⟩) (gPre.V (n := (9, _, _)) hK hH (by first | exact ⟨rfl, rfl⟩ | exact ⟨by assumption, rfl⟩ | exact ⟨by assumption, by assumption⟩ | exact ⟨by omega, rfl⟩ | exact ⟨by omega, by omega⟩ | exact ⟨by decide, rfl⟩) rfl rfl) rfl rfl hl.1 rfl (lv_room (Nat.le_of_ble_eq_true rfl)) dR_makeStep_18 ⟨Nat.zero_le _, Nat.zero_le _⟩) hS (fun H locs hH hS => ?_)
    exact r_i hx hb hr hlk hK hH hS dR_makeStep_21 (by simp [sStep, et, ix_nI (show t < 2 ^ 31 by omega), h_1])
  · skip
    have hlt_g_2 : g_2 < 24 := hPl _ _ _ h_1
    refine lv_astore_n hx hb dR_makeStep_8 rfl hl (by decide) rfl (fun ls hl => ?_)
    have hl : lv_has ls 3 [(2, .ref _), (0, .ref _), (1, .ref _)] := hl
    refine lv_aload_n hx hb dR_makeStep_9 rfl (lv_at hl 0 rfl) ?_
    refine lv_ifnonnull hx hb dR_makeStep_10 rfl ?_
    refine lv_aload_n hx hb dR_makeStep_22 rfl (lv_at hl 1 rfl) ?_
    refine lv_aload_n hx hb dR_makeStep_23 rfl (lv_at hl 0 rfl) ?_
    refine s_get hx hb hw inP hown hK hH 0 (by decide) (hw _ (gwd_0 (List.mem_of_getElem? (i := 21) rfl))) (by first | exact ⟨rfl, rfl⟩ | exact ⟨by assumption, rfl⟩ | exact ⟨by assumption, by assumption⟩ | exact ⟨by omega, rfl⟩ | exact ⟨by omega, by omega⟩ | exact ⟨by decide, rfl⟩) rfl rfl rfl rfl dR_makeStep_24 ?_
    refine lv_aload_n hx hb dR_makeStep_27 rfl (lv_at hl 1 rfl) ?_
    refine s_get hx hb hw inR hown hK hH 1 (by decide) (hw _ (gwd_2 (List.mem_of_getElem? (i := 6) rfl))) (by first | exact ⟨rfl, rfl⟩ | exact ⟨by assumption, rfl⟩ | exact ⟨by assumption, by assumption⟩ | exact ⟨by omega, rfl⟩ | exact ⟨by omega, by omega⟩ | exact ⟨by decide, rfl⟩) rfl rfl rfl rfl dR_makeStep_28 ?_
    refine lv_iconst (v := 4) hx hb dR_makeStep_31 (by decide) ?_
    refine lv_irem hx hb dR_makeStep_32 (by decide) ?_
    rw [et, erem]
    refine s_iald hx hb hK hH (by first | exact ⟨rfl, rfl⟩ | exact ⟨by assumption, rfl⟩ | exact ⟨by assumption, by assumption⟩ | exact ⟨by omega, rfl⟩ | exact ⟨by omega, by omega⟩ | exact ⟨by decide, rfl⟩) rfl _ (by first | rfl | assumption) (by omega) (by decide) dR_makeStep_33 ?_
    refine lv_aload_n hx hb dR_makeStep_34 rfl (lv_at hl 2 rfl) ?_
    refine s_ciE (va_runV (As := [.int _, .ref _]) (rest := []) ⟨hx, hb, hml, hown, hw⟩ (c_R_perform l  (by assumption) (by assumption) (hPl)) (cwV 2 hw (gd_V (gwd_4 (List.mem_of_getElem? (i := 39) rfl)) (gwd_4 (List.mem_of_getElem? (i := 40) rfl)) (gwd_9 (List.mem_of_getElem? (i := 20) rfl)) (gwd_0 (List.mem_of_getElem? (i := 5) rfl)) (gwd_4 (List.mem_of_getElem? (i := 41) rfl))) rfl rfl rfl (by decide +kernel) ⟨Nat.le_of_ble_eq_true rfl, Nat.le_of_ble_eq_true rfl⟩) (gPre.V (n := (9, _, _)) hK hH (by first | exact ⟨rfl, rfl⟩ | exact ⟨by assumption, rfl⟩ | exact ⟨by assumption, by assumption⟩ | exact ⟨by omega, rfl⟩ | exact ⟨by omega, by omega⟩ | exact ⟨by decide, rfl⟩) rfl rfl) rfl rfl hl.1 rfl (lv_room (Nat.le_of_ble_eq_true rfl)) dR_makeStep_35 ⟨Nat.zero_le _, Nat.zero_le _⟩) hS (fun H locs hH hS => ?_)
    exact r_i hx hb hr hlk hK hH hS dR_makeStep_38 (by simp [sStep, et, ix_nI (show t < 2 ^ 31 by omega), h_1])
set_option maxHeartbeats 4000000 in
set_option maxRecDepth 100000 in
theorem c_R_makeSteps (l : Launch) {D : va_G} {c : Nat → ClassId} {sz : Nat} {ad : gN → Nat} {k : Nat} {I J : gI} {P : gP} {LG : Option Nat} {LP : Option (Nat × Nat)} {g v n : Nat} (hg : g < k) (hv1 : v < 2) (hn : n ≤ 64) (hpc : pcOK I g v) (hPl : ∀ g a q, P g a = some q → q < 24) : Met l yR_makeSteps wR_makeSteps { frames := 5, cells := 0, slots := 0, locals := 114 } (gPre D c sz [.ref (ad (9, g, v)), .int (nI n), .ref (ad (6, g, 0))] (ad, k, I, J, P, LG, LP)) (va_Qi (fun r u => r = (sMk P g v I n).1 ∧ u = (ad, k, (sMk P g v I n).2, J, P, LG, LP)) (gB D c sz) (gA sz)) 0 0 (gA sz) := by
  refine Met.ofW (cc := cR_makeSteps) (maxL := 5) (ret := (some .int)) (by decide) rfl ?_
  intro p e s m args below meth cd s₁ B hml hv
  obtain ⟨rfl, hK, hH⟩ := hv
  have hx := B.exec
  have hb := B.bytes
  have hr := B.returns
  have hts := atoms_spec (ws := wR_makeSteps) B.pre
  have hw : ∀ w ∈ gWd, w.before _ s = true := fun w h => hts w (List.mem_cons_of_mem _ h)
  have hown : s.vm.findClass RR = some m.cls := findClass_of_methodNamed B.named
  have hlk := B.notSynchronized
  have hS : va_S (gA sz) s.heap s.heap [] := va_S.rf
  have hH : gW D c sz ad k I J P LG LP s.heap := hH
  have hl := lv_entry ([.ref (ad (9, g, v)), .int (nI n), .ref (ad (6, g, 0))]) (n := 5) (Nat.le_of_ble_eq_true rfl)
  rw [lg_entry_eq]
  generalize (lg_sl ([.ref (ad (9, g, v)), .int (nI n), .ref (ad (6, g, 0))]) ++ List.replicate (5 - (lg_sl ([.ref (ad (9, g, v)), .int (nI n), .ref (ad (6, g, 0))])).length) Slot.unset).toArray = ls at hl ⊢
  have hl : lv_has ls 5 [(0, .ref (ad (9, g, v))), (1, .int (nI n)), (2, .ref (ad (6, g, 0)))] := hl
  have key : ∀ (n' i : Nat) (I' : gI), i + n' = n → pcOK I' g v → stepsN (sStep P g v) n' I' = stepsN (sStep P g v) n (iu I (pr g v) 2 0) → ∀ ls : Array Slot, lv_has ls 5 [(3, .int (nI i)), (0, .ref (ad (9, g, v))), (1, .int (nI n)), (2, .ref (ad (6, g, 0)))] → ∀ (H : Heap) (locs : List Loc), gW D c sz ad k I' J P LG LP H → va_S (gA sz) s.heap H locs → W p l e (headSpec wR_makeSteps { frames := 5, cells := 0, slots := 0, locals := 114 }).room s m ([.ref (ad (9, g, v)), .int (nI n), .ref (ad (6, g, 0))] : List Value).toArray below meth cd H locs 0 0 (MQ below (va_Qi (fun r u => r = (sMk P g v I n).1 ∧ u = (ad, k, (sMk P g v I n).2, J, P, LG, LP)) (gB D c sz) (gA sz)) ([.ref (ad (9, g, v)), .int (nI n), .ref (ad (6, g, 0))] : List Value).toArray s 0 0 (gA sz)) (F0 m 7 ls []) := by
    intro n'
    induction n' with
    | zero =>
      intro i I' hi hpc hst ls hl H locs hH hS
      refine lv_iload_n hx hb dR_makeSteps_7 rfl (lv_at hl 0 rfl) ?_
      refine lv_iload_n hx hb dR_makeSteps_8 rfl (lv_at hl 2 rfl) ?_
      refine lv_icmp_ge hx hb dR_makeSteps_9 rfl (fun h_1 => ?_) (fun h_1 => ?_)
      · skip
        refine lv_iconst (v := 0) hx hb dR_makeSteps_33 (by decide) ?_
        exact r_i hx hb hr hlk hK hH hS dR_makeSteps_34 (by unfold sMk; rw [← hst]; exact ⟨rfl, rfl⟩)
      · exact absurd (nI_le (show n ≤ i by omega) (by omega)) h_1
    | succ n' ih =>
      intro i I' hi hpc hst ls hl H locs hH hS
      refine lv_iload_n hx hb dR_makeSteps_7 rfl (lv_at hl 0 rfl) ?_
      refine lv_iload_n hx hb dR_makeSteps_8 rfl (lv_at hl 2 rfl) ?_
      refine lv_icmp_ge hx hb dR_makeSteps_9 rfl (fun h_2 => ?_) (fun h_2 => ?_)
      · exact absurd h_2 (nI_ge (show i < n by omega) (by omega))
      · skip
        refine lv_aload_n hx hb dR_makeSteps_12 rfl (lv_at hl 1 rfl) ?_
        refine lv_aload_n hx hb dR_makeSteps_13 rfl (lv_at hl 3 rfl) ?_
        refine s_ciE (va_runV (As := [.ref _]) (rest := []) ⟨hx, hb, hml, hown, hw⟩ (c_R_makeStep l  (by assumption) (by assumption) (by assumption) (hPl)) (cwV 1 hw (gd_V (gwd_4 (List.mem_of_getElem? (i := 29) rfl)) (gwd_4 (List.mem_of_getElem? (i := 30) rfl)) (gwd_9 (List.mem_of_getElem? (i := 18) rfl)) (gwd_0 (List.mem_of_getElem? (i := 5) rfl)) (gwd_4 (List.mem_of_getElem? (i := 31) rfl))) rfl rfl rfl (by decide +kernel) ⟨Nat.le_of_ble_eq_true rfl, Nat.le_of_ble_eq_true rfl⟩) (gPre.V (n := (9, _, _)) hK hH (by first | exact ⟨rfl, rfl⟩ | exact ⟨by assumption, rfl⟩ | exact ⟨by assumption, by assumption⟩ | exact ⟨by omega, rfl⟩ | exact ⟨by omega, by omega⟩ | exact ⟨by decide, rfl⟩) rfl rfl) rfl rfl hl.1 rfl (lv_room (Nat.le_of_ble_eq_true rfl)) dR_makeSteps_14 ⟨Nat.zero_le _, Nat.zero_le _⟩) hS (fun H locs hH hS => ?_)
        refine lv_istore hx hb dR_makeSteps_17 hl (by decide) rfl (fun ls hl => ?_)
        have hl : lv_has ls 5 [(4, .int _), (3, .int _), (0, .ref _), (1, .int _), (2, .ref _)] := hl
        refine lv_iload hx hb dR_makeSteps_19 (lv_at hl 0 rfl) ?_
        refine lv_if_eq hx hb dR_makeSteps_21 rfl (fun h_3 => ?_) (fun h_3 => ?_)
        · skip
          refine lv_iinc (k := 1) (v := nI (i + 1)) hx hb dR_makeSteps_27 hl rfl (by rw [nI_succ]; rfl) (by decide) rfl (fun ls hl => ?_)
          have hl : lv_has ls 5 [(3, .int _), (4, .int _), (0, .ref _), (1, .int _), (2, .ref _)] := hl
          refine lv_goto hx hb dR_makeSteps_30 rfl ?_
          exact ih (i + 1) _ (by omega) (sStep_pc hpc) (by rw [← hst]; simp [stepsN, h_3]) ls (lv_sub hl [0, 2, 3, 4] rfl) H locs hH hS
        · skip
          refine lv_iload hx hb dR_makeSteps_24 (lv_at hl 0 rfl) ?_
          exact r_i hx hb hr hlk hK hH hS dR_makeSteps_26 (by unfold sMk; rw [← hst]; simp [stepsN, h_3])
  refine lv_aload_n hx hb dR_makeSteps_0 rfl (lv_at hl 0 rfl) ?_
  refine lv_iconst (v := 0) hx hb dR_makeSteps_1 (by decide) ?_
  refine s_put hx hb hw inR tyR_ok nR hown hK hH hS 2 (by decide) (hw _ (gwd_2 (List.mem_of_getElem? (i := 7) rfl))) (by first | exact ⟨rfl, rfl⟩ | exact ⟨by assumption, rfl⟩ | exact ⟨by assumption, by assumption⟩ | exact ⟨by omega, rfl⟩ | exact ⟨by omega, by omega⟩ | exact ⟨by decide, rfl⟩) rfl rfl rfl rfl rfl rfl rfl (Nat.le_of_ble_eq_true rfl) rfl dR_makeSteps_2 (fun H locs hH hS => ?_)
  refine lv_iconst (v := 0) hx hb dR_makeSteps_5 (by decide) ?_
  refine lv_istore_n hx hb dR_makeSteps_6 rfl hl (by decide) rfl (fun ls hl => ?_)
  have hl : lv_has ls 5 [(3, .int _), (0, .ref _), (1, .int _), (2, .ref _)] := hl
  exact key n 0 _ (by omega) (by obtain ⟨t, ht, e⟩ := hpc; exact ⟨t, ht, by simp [iu_at]; exact e⟩) rfl ls (lv_sub hl [0, 1, 2, 3] rfl) H locs hH hS
end
section
theorem bz_iff {a b : Prop} [Decidable a] [Decidable b] (h : a ↔ b) : bz a = bz b := by
  by_cases z : a
  · rw [bz_t z, bz_t (h.mp z)]
  · rw [bz_f z, bz_f (fun q => z (h.mpr q))]
theorem sLiv_lt {I : gI} {k g : Nat} {x : Int32} (h : sLiv I k x = some g) : g < k := by
  unfold sLiv at h
  split at h
  · cases h
  · split at h
    · rename_i h2
      cases h
      exact h2.1
    · cases h
theorem liv_ix {x : Int32} (h1 : ¬ x < 1) (h2 : x ≤ 6) : ∃ j, j < 6 ∧ x = nI (j + 1) := by
  have h0 : ¬ x < 0 := fun q => h1 (Int32.lt_of_lt_of_le q (by decide))
  obtain ⟨j, hj, rfl⟩ := ix_le 6 6 rfl (by decide) h0 h2
  have : ¬ j = 0 := fun q => h1 (by rw [q]; decide)
  exact ⟨j - 1, by omega, by rw [show j - 1 + 1 = j by omega]⟩
set_option maxHeartbeats 4000000 in
set_option maxRecDepth 100000 in
theorem c_K_isPage (l : Launch) {D : va_G} {c : Nat → ClassId} {sz : Nat} {ad : gN → Nat} {k : Nat} {I J : gI} {P : gP} {LG : Option Nat} {LP : Option (Nat × Nat)} {x : Int32}  : Met l yK_isPage wK_isPage { frames := 0, cells := 0, slots := 0, locals := 0 } (gPre D c sz [.int x] (ad, k, I, J, P, LG, LP)) (va_Qi (fun r u => r = bz (isP x) ∧ u = (ad, k, I, J, P, LG, LP)) (gB D c sz) (gA sz)) 0 0 (gA sz) := by
  refine Met.ofW (cc := cK_isPage) (maxL := 1) (ret := (some .boolean)) (by decide) rfl ?_
  intro p e s m args below meth cd s₁ B hml hv
  obtain ⟨rfl, hK, hH⟩ := hv
  have hx := B.exec
  have hb := B.bytes
  have hr := B.returns
  have hts := atoms_spec (ws := wK_isPage) B.pre
  have hw : ∀ w ∈ gWd, w.before _ s = true := fun w h => hts w (List.mem_cons_of_mem _ h)
  have hown : s.vm.findClass RK = some m.cls := findClass_of_methodNamed B.named
  have hlk := B.notSynchronized
  have hS : va_S (gA sz) s.heap s.heap [] := va_S.rf
  have hH : gW D c sz ad k I J P LG LP s.heap := hH
  have hl := lv_entry ([.int x]) (n := 1) (Nat.le_of_ble_eq_true rfl)
  rw [lg_entry_eq]
  generalize (lg_sl ([.int x]) ++ List.replicate (1 - (lg_sl ([.int x])).length) Slot.unset).toArray = ls at hl ⊢
  have hl : lv_has ls 1 [(0, .int x)] := hl
  refine lv_iload_n hx hb dK_isPage_0 rfl (lv_at hl 0 rfl) ?_
  refine lv_if_lt hx hb dK_isPage_1 rfl (fun h_1 => ?_) (fun h_1 => ?_)
  · skip
    refine lv_iconst (v := 0) hx hb dK_isPage_14 (by decide) ?_
    exact r_z hx hb hr hlk hK hH hS dK_isPage_15 (by first | exact Or.inl rfl | exact Or.inr rfl | exact bz_01 _ | assumption) (⟨(bz_f (fun q => q.1 h_1)).symm, rfl⟩)
  · skip
    refine lv_iload_n hx hb dK_isPage_4 rfl (lv_at hl 0 rfl) ?_
    refine lv_bipush (v := 24) hx hb dK_isPage_5 (by decide) ?_
    refine lv_icmp_ge hx hb dK_isPage_7 rfl (fun h_2 => ?_) (fun h_2 => ?_)
    · skip
      refine lv_iconst (v := 0) hx hb dK_isPage_14 (by decide) ?_
      exact r_z hx hb hr hlk hK hH hS dK_isPage_15 (by first | exact Or.inl rfl | exact Or.inr rfl | exact bz_01 _ | assumption) (⟨by first | exact (bz_t ⟨h_1, h_2⟩).symm | exact (bz_f (fun q => q.2 h_2)).symm, rfl⟩)
    · skip
      refine lv_iconst (v := 1) hx hb dK_isPage_10 (by decide) ?_
      refine lv_goto hx hb dK_isPage_11 rfl ?_
      exact r_z hx hb hr hlk hK hH hS dK_isPage_15 (by first | exact Or.inl rfl | exact Or.inr rfl | exact bz_01 _ | assumption) (⟨by first | exact (bz_t ⟨h_1, h_2⟩).symm | exact (bz_f (fun q => q.2 h_2)).symm, rfl⟩)
set_option maxHeartbeats 4000000 in
set_option maxRecDepth 100000 in
theorem c_K_isWord (l : Launch) {D : va_G} {c : Nat → ClassId} {sz : Nat} {ad : gN → Nat} {k : Nat} {I J : gI} {P : gP} {LG : Option Nat} {LP : Option (Nat × Nat)} {x : Int32}  : Met l yK_isWord wK_isWord { frames := 0, cells := 0, slots := 0, locals := 0 } (gPre D c sz [.int x] (ad, k, I, J, P, LG, LP)) (va_Qi (fun r u => r = bz (is4 x) ∧ u = (ad, k, I, J, P, LG, LP)) (gB D c sz) (gA sz)) 0 0 (gA sz) := by
  refine Met.ofW (cc := cK_isWord) (maxL := 1) (ret := (some .boolean)) (by decide) rfl ?_
  intro p e s m args below meth cd s₁ B hml hv
  obtain ⟨rfl, hK, hH⟩ := hv
  have hx := B.exec
  have hb := B.bytes
  have hr := B.returns
  have hts := atoms_spec (ws := wK_isWord) B.pre
  have hw : ∀ w ∈ gWd, w.before _ s = true := fun w h => hts w (List.mem_cons_of_mem _ h)
  have hown : s.vm.findClass RK = some m.cls := findClass_of_methodNamed B.named
  have hlk := B.notSynchronized
  have hS : va_S (gA sz) s.heap s.heap [] := va_S.rf
  have hH : gW D c sz ad k I J P LG LP s.heap := hH
  have hl := lv_entry ([.int x]) (n := 1) (Nat.le_of_ble_eq_true rfl)
  rw [lg_entry_eq]
  generalize (lg_sl ([.int x]) ++ List.replicate (1 - (lg_sl ([.int x])).length) Slot.unset).toArray = ls at hl ⊢
  have hl : lv_has ls 1 [(0, .int x)] := hl
  refine lv_iload_n hx hb dK_isWord_0 rfl (lv_at hl 0 rfl) ?_
  refine lv_if_lt hx hb dK_isWord_1 rfl (fun h_1 => ?_) (fun h_1 => ?_)
  · skip
    refine lv_iconst (v := 0) hx hb dK_isWord_13 (by decide) ?_
    exact r_z hx hb hr hlk hK hH hS dK_isWord_14 (by first | exact Or.inl rfl | exact Or.inr rfl | exact bz_01 _ | assumption) (⟨(bz_f (fun q => q.1 h_1)).symm, rfl⟩)
  · skip
    refine lv_iload_n hx hb dK_isWord_4 rfl (lv_at hl 0 rfl) ?_
    refine lv_iconst (v := 4) hx hb dK_isWord_5 (by decide) ?_
    refine lv_icmp_ge hx hb dK_isWord_6 rfl (fun h_2 => ?_) (fun h_2 => ?_)
    · skip
      refine lv_iconst (v := 0) hx hb dK_isWord_13 (by decide) ?_
      exact r_z hx hb hr hlk hK hH hS dK_isWord_14 (by first | exact Or.inl rfl | exact Or.inr rfl | exact bz_01 _ | assumption) (⟨by first | exact (bz_t ⟨h_1, h_2⟩).symm | exact (bz_f (fun q => q.2 h_2)).symm, rfl⟩)
    · skip
      refine lv_iconst (v := 1) hx hb dK_isWord_9 (by decide) ?_
      refine lv_goto hx hb dK_isWord_10 rfl ?_
      exact r_z hx hb hr hlk hK hH hS dK_isWord_14 (by first | exact Or.inl rfl | exact Or.inr rfl | exact bz_01 _ | assumption) (⟨by first | exact (bz_t ⟨h_1, h_2⟩).symm | exact (bz_f (fun q => q.2 h_2)).symm, rfl⟩)
set_option maxHeartbeats 4000000 in
set_option maxRecDepth 100000 in
theorem c_K_isRegister (l : Launch) {D : va_G} {c : Nat → ClassId} {sz : Nat} {ad : gN → Nat} {k : Nat} {I J : gI} {P : gP} {LG : Option Nat} {LP : Option (Nat × Nat)} {x : Int32}  : Met l yK_isRegister wK_isRegister { frames := 0, cells := 0, slots := 0, locals := 0 } (gPre D c sz [.int x] (ad, k, I, J, P, LG, LP)) (va_Qi (fun r u => r = bz (is4 x) ∧ u = (ad, k, I, J, P, LG, LP)) (gB D c sz) (gA sz)) 0 0 (gA sz) := by
  refine Met.ofW (cc := cK_isRegister) (maxL := 1) (ret := (some .boolean)) (by decide) rfl ?_
  intro p e s m args below meth cd s₁ B hml hv
  obtain ⟨rfl, hK, hH⟩ := hv
  have hx := B.exec
  have hb := B.bytes
  have hr := B.returns
  have hts := atoms_spec (ws := wK_isRegister) B.pre
  have hw : ∀ w ∈ gWd, w.before _ s = true := fun w h => hts w (List.mem_cons_of_mem _ h)
  have hown : s.vm.findClass RK = some m.cls := findClass_of_methodNamed B.named
  have hlk := B.notSynchronized
  have hS : va_S (gA sz) s.heap s.heap [] := va_S.rf
  have hH : gW D c sz ad k I J P LG LP s.heap := hH
  have hl := lv_entry ([.int x]) (n := 1) (Nat.le_of_ble_eq_true rfl)
  rw [lg_entry_eq]
  generalize (lg_sl ([.int x]) ++ List.replicate (1 - (lg_sl ([.int x])).length) Slot.unset).toArray = ls at hl ⊢
  have hl : lv_has ls 1 [(0, .int x)] := hl
  refine lv_iload_n hx hb dK_isRegister_0 rfl (lv_at hl 0 rfl) ?_
  refine lv_if_lt hx hb dK_isRegister_1 rfl (fun h_1 => ?_) (fun h_1 => ?_)
  · skip
    refine lv_iconst (v := 0) hx hb dK_isRegister_13 (by decide) ?_
    exact r_z hx hb hr hlk hK hH hS dK_isRegister_14 (by first | exact Or.inl rfl | exact Or.inr rfl | exact bz_01 _ | assumption) (⟨(bz_f (fun q => q.1 h_1)).symm, rfl⟩)
  · skip
    refine lv_iload_n hx hb dK_isRegister_4 rfl (lv_at hl 0 rfl) ?_
    refine lv_iconst (v := 4) hx hb dK_isRegister_5 (by decide) ?_
    refine lv_icmp_ge hx hb dK_isRegister_6 rfl (fun h_2 => ?_) (fun h_2 => ?_)
    · skip
      refine lv_iconst (v := 0) hx hb dK_isRegister_13 (by decide) ?_
      exact r_z hx hb hr hlk hK hH hS dK_isRegister_14 (by first | exact Or.inl rfl | exact Or.inr rfl | exact bz_01 _ | assumption) (⟨by first | exact (bz_t ⟨h_1, h_2⟩).symm | exact (bz_f (fun q => q.2 h_2)).symm, rfl⟩)
    · skip
      refine lv_iconst (v := 1) hx hb dK_isRegister_9 (by decide) ?_
      refine lv_goto hx hb dK_isRegister_10 rfl ?_
      exact r_z hx hb hr hlk hK hH hS dK_isRegister_14 (by first | exact Or.inl rfl | exact Or.inr rfl | exact bz_01 _ | assumption) (⟨by first | exact (bz_t ⟨h_1, h_2⟩).symm | exact (bz_f (fun q => q.2 h_2)).symm, rfl⟩)
set_option maxHeartbeats 4000000 in
set_option maxRecDepth 100000 in
theorem c_K_isFreePage (l : Launch) {D : va_G} {c : Nat → ClassId} {sz : Nat} {ad : gN → Nat} {k : Nat} {I J : gI} {P : gP} {LG : Option Nat} {LP : Option (Nat × Nat)} {x : Int32}  : Met l yK_isFreePage wK_isFreePage { frames := 1, cells := 0, slots := 0, locals := 20 } (gPre D c sz [.ref (ad (0, 0, 0)), .int x] (ad, k, I, J, P, LG, LP)) (va_Qi (fun r u => r = bz (sFree I x) ∧ u = (ad, k, I, J, P, LG, LP)) (gB D c sz) (gA sz)) 0 0 (gA sz) := by
  refine Met.ofW (cc := cK_isFreePage) (maxL := 2) (ret := (some .boolean)) (by decide) rfl ?_
  intro p e s m args below meth cd s₁ B hml hv
  obtain ⟨rfl, hK, hH⟩ := hv
  have hx := B.exec
  have hb := B.bytes
  have hr := B.returns
  have hts := atoms_spec (ws := wK_isFreePage) B.pre
  have hw : ∀ w ∈ gWd, w.before _ s = true := fun w h => hts w (List.mem_cons_of_mem _ h)
  have hown : s.vm.findClass RK = some m.cls := findClass_of_methodNamed B.named
  have hlk := B.notSynchronized
  have hS : va_S (gA sz) s.heap s.heap [] := va_S.rf
  have hH : gW D c sz ad k I J P LG LP s.heap := hH
  have hl := lv_entry ([.ref (ad (0, 0, 0)), .int x]) (n := 2) (Nat.le_of_ble_eq_true rfl)
  rw [lg_entry_eq]
  generalize (lg_sl ([.ref (ad (0, 0, 0)), .int x]) ++ List.replicate (2 - (lg_sl ([.ref (ad (0, 0, 0)), .int x])).length) Slot.unset).toArray = ls at hl ⊢
  have hl : lv_has ls 2 [(0, .ref (ad (0, 0, 0))), (1, .int x)] := hl
  refine lv_iload_n hx hb dK_isFreePage_0 rfl (lv_at hl 1 rfl) ?_
  refine s_ciE (va_runS (As := [.int _]) (rest := []) ⟨hx, hb, hml, hown, hw⟩ (c_K_isPage l  ) (cwS 1 hw (gd_S (gwd_1 (List.mem_of_getElem? (i := 13) rfl)) (gwd_1 (List.mem_of_getElem? (i := 14) rfl)) (gwd_0 (List.mem_of_getElem? (i := 1) rfl)) (gwd_1 (List.mem_of_getElem? (i := 15) rfl))) rfl rfl rfl (by decide +kernel) ⟨Nat.le_of_ble_eq_true rfl, Nat.le_of_ble_eq_true rfl⟩) (gPre.S hK hH) rfl rfl hl.1 rfl (lv_room (Nat.le_of_ble_eq_true rfl)) dK_isFreePage_1 ⟨Nat.zero_le _, Nat.zero_le _⟩) hS (fun H locs hH hS => ?_)
  refine s_ifeq hx hb dK_isFreePage_4 rfl (fun h_1 => ?_) (fun h_1 => ?_)
  · skip
    refine lv_iconst (v := 0) hx hb dK_isFreePage_35 (by decide) ?_
    exact r_z hx hb hr hlk hK hH hS dK_isFreePage_36 (by first | exact Or.inl rfl | exact Or.inr rfl | exact bz_01 _ | assumption) (⟨(bz_f (fun q => h_1 q.1)).symm, rfl⟩)
  · skip
    obtain ⟨j, hj, rfl⟩ := isP_ix h_1
    have hi : ix (nI j) = j := ix_nI (by omega)
    refine lv_aload_n hx hb dK_isFreePage_7 rfl (lv_at hl 0 rfl) ?_
    refine s_get hx hb hw inK hown hK hH 0 (by decide) (hw _ (gwd_0 (List.mem_of_getElem? (i := 41) rfl))) (by first | exact ⟨rfl, rfl⟩ | exact ⟨by assumption, rfl⟩ | exact ⟨by assumption, by assumption⟩ | exact ⟨by omega, rfl⟩ | exact ⟨by omega, by omega⟩ | exact ⟨by decide, rfl⟩) rfl rfl rfl rfl dK_isFreePage_8 ?_
    refine lv_iload_n hx hb dK_isFreePage_11 rfl (lv_at hl 1 rfl) ?_
    refine s_aaP hx hb hK hH _ (by first | rfl | assumption) (by first | assumption | decide | omega) dK_isFreePage_12 ?_
    refine s_get hx hb hw inP hown hK hH 1 (by decide) (hw _ (gwd_0 (List.mem_of_getElem? (i := 24) rfl))) (by first | exact ⟨rfl, rfl⟩ | exact ⟨by assumption, rfl⟩ | exact ⟨by assumption, by assumption⟩ | exact ⟨by omega, rfl⟩ | exact ⟨by omega, by omega⟩ | exact ⟨by decide, rfl⟩) rfl rfl rfl rfl dK_isFreePage_13 ?_
    refine lv_if_ne hx hb dK_isFreePage_16 rfl (fun h_2 => ?_) (fun h_2 => ?_)
    · skip
      refine lv_iconst (v := 0) hx hb dK_isFreePage_35 (by decide) ?_
      exact r_z hx hb hr hlk hK hH hS dK_isFreePage_36 (by first | exact Or.inl rfl | exact Or.inr rfl | exact bz_01 _ | assumption) (⟨(bz_f (fun q => h_2 (by have z := q.2.1; rw [hi] at z; exact z))).symm, rfl⟩)
    · skip
      refine lv_aload_n hx hb dK_isFreePage_19 rfl (lv_at hl 0 rfl) ?_
      refine s_get hx hb hw inK hown hK hH 0 (by decide) (hw _ (gwd_0 (List.mem_of_getElem? (i := 41) rfl))) (by first | exact ⟨rfl, rfl⟩ | exact ⟨by assumption, rfl⟩ | exact ⟨by assumption, by assumption⟩ | exact ⟨by omega, rfl⟩ | exact ⟨by omega, by omega⟩ | exact ⟨by decide, rfl⟩) rfl rfl rfl rfl dK_isFreePage_20 ?_
      refine lv_iload_n hx hb dK_isFreePage_23 rfl (lv_at hl 1 rfl) ?_
      refine s_aaP hx hb hK hH _ (by first | rfl | assumption) (by first | assumption | decide | omega) dK_isFreePage_24 ?_
      refine s_get hx hb hw inP hown hK hH 2 (by decide) (hw _ (gwd_0 (List.mem_of_getElem? (i := 26) rfl))) (by first | exact ⟨rfl, rfl⟩ | exact ⟨by assumption, rfl⟩ | exact ⟨by assumption, by assumption⟩ | exact ⟨by omega, rfl⟩ | exact ⟨by omega, by omega⟩ | exact ⟨by decide, rfl⟩) rfl rfl rfl rfl dK_isFreePage_25 ?_
      refine lv_if_ne hx hb dK_isFreePage_28 rfl (fun h_3 => ?_) (fun h_3 => ?_)
      · skip
        refine lv_iconst (v := 0) hx hb dK_isFreePage_35 (by decide) ?_
        exact r_z hx hb hr hlk hK hH hS dK_isFreePage_36 (by first | exact Or.inl rfl | exact Or.inr rfl | exact bz_01 _ | assumption) (⟨by first | exact (bz_t ⟨h_1, by rw [hi]; exact h_2, by rw [hi]; exact h_3⟩).symm | exact (bz_f (fun q => h_3 (by have z := q.2.2; rw [hi] at z; exact z))).symm, rfl⟩)
      · skip
        refine lv_iconst (v := 1) hx hb dK_isFreePage_31 (by decide) ?_
        refine lv_goto hx hb dK_isFreePage_32 rfl ?_
        exact r_z hx hb hr hlk hK hH hS dK_isFreePage_36 (by first | exact Or.inl rfl | exact Or.inr rfl | exact bz_01 _ | assumption) (⟨by first | exact (bz_t ⟨h_1, by rw [hi]; exact h_2, by rw [hi]; exact h_3⟩).symm | exact (bz_f (fun q => h_3 (by have z := q.2.2; rw [hi] at z; exact z))).symm, rfl⟩)
set_option maxHeartbeats 4000000 in
set_option maxRecDepth 100000 in
theorem c_K_livingGuest (l : Launch) {D : va_G} {c : Nat → ClassId} {sz : Nat} {ad : gN → Nat} {k : Nat} {I J : gI} {P : gP} {LG : Option Nat} {LP : Option (Nat × Nat)} {x : Int32}  : Met l yK_livingGuest wK_livingGuest { frames := 0, cells := 0, slots := 0, locals := 0 } (gPre D c sz [.ref (ad (0, 0, 0)), .int x] (ad, k, I, J, P, LG, LP)) (va_Qq (fun r u => r = (sLiv I k x).map (fun g => ad (6, g, 0)) ∧ u = (ad, k, I, J, P, LG, LP)) (gB D c sz) (gA sz)) 0 0 (gA sz) := by
  refine Met.ofW (cc := cK_livingGuest) (maxL := 3) (ret := (some (.object "GuestKeeper$Guest"))) (by decide) rfl ?_
  intro p e s m args below meth cd s₁ B hml hv
  obtain ⟨rfl, hK, hH⟩ := hv
  have hx := B.exec
  have hb := B.bytes
  have hr := B.returns
  have hts := atoms_spec (ws := wK_livingGuest) B.pre
  have hw : ∀ w ∈ gWd, w.before _ s = true := fun w h => hts w (List.mem_cons_of_mem _ h)
  have hown : s.vm.findClass RK = some m.cls := findClass_of_methodNamed B.named
  have hlk := B.notSynchronized
  have hS : va_S (gA sz) s.heap s.heap [] := va_S.rf
  have hH : gW D c sz ad k I J P LG LP s.heap := hH
  have hl := lv_entry ([.ref (ad (0, 0, 0)), .int x]) (n := 3) (Nat.le_of_ble_eq_true rfl)
  rw [lg_entry_eq]
  generalize (lg_sl ([.ref (ad (0, 0, 0)), .int x]) ++ List.replicate (3 - (lg_sl ([.ref (ad (0, 0, 0)), .int x])).length) Slot.unset).toArray = ls at hl ⊢
  have hl : lv_has ls 3 [(0, .ref (ad (0, 0, 0))), (1, .int x)] := hl
  refine lv_iload_n hx hb dK_livingGuest_0 rfl (lv_at hl 1 rfl) ?_
  refine lv_iconst (v := 1) hx hb dK_livingGuest_1 (by decide) ?_
  refine lv_icmp_lt hx hb dK_livingGuest_2 rfl (fun h_1 => ?_) (fun h_1 => ?_)
  · skip
    refine lv_null hx hb dK_livingGuest_19 ?_
    exact r_q none hx hb hr (Or.inl ⟨_, rfl⟩) hlk hK hH hS dK_livingGuest_20 (⟨by simp [sLiv, h_1], rfl⟩)
  · skip
    refine lv_iload_n hx hb dK_livingGuest_5 rfl (lv_at hl 1 rfl) ?_
    refine lv_aload_n hx hb dK_livingGuest_6 rfl (lv_at hl 0 rfl) ?_
    refine s_get hx hb hw inK hown hK hH 3 (by decide) (hw _ (gwd_0 (List.mem_of_getElem? (i := 44) rfl))) (by first | exact ⟨rfl, rfl⟩ | exact ⟨by assumption, rfl⟩ | exact ⟨by assumption, by assumption⟩ | exact ⟨by omega, rfl⟩ | exact ⟨by omega, by omega⟩ | exact ⟨by decide, rfl⟩) rfl rfl rfl rfl dK_livingGuest_7 ?_
    refine lv_icmp_gt hx hb dK_livingGuest_10 rfl (fun h_2 => ?_) (fun h_2 => ?_)
    · skip
      refine lv_null hx hb dK_livingGuest_19 ?_
      exact r_q none hx hb hr (Or.inl ⟨_, rfl⟩) hlk hK hH hS dK_livingGuest_20 (⟨by simp [sLiv, h_2], rfl⟩)
    · skip
      refine lv_iload_n hx hb dK_livingGuest_13 rfl (lv_at hl 1 rfl) ?_
      refine lv_bipush (v := 6) hx hb dK_livingGuest_14 (by decide) ?_
      refine lv_icmp_le hx hb dK_livingGuest_16 rfl (fun h_3 => ?_) (fun h_3 => ?_)
      · skip
        obtain ⟨j, hj, rfl⟩ := liv_ix h_1 h_3
        have hix : ix (nI (j + 1) - 1) = j := by rw [nI_pred]; exact ix_nI (by omega)
        have h6 : ¬ 6 < nI (j + 1) := fun q => Int32.lt_irrefl (Int32.lt_of_lt_of_le q h_3)
        refine lv_aload_n hx hb dK_livingGuest_21 rfl (lv_at hl 0 rfl) ?_
        refine s_get hx hb hw inK hown hK hH 1 (by decide) (hw _ (gwd_0 (List.mem_of_getElem? (i := 42) rfl))) (by first | exact ⟨rfl, rfl⟩ | exact ⟨by assumption, rfl⟩ | exact ⟨by assumption, by assumption⟩ | exact ⟨by omega, rfl⟩ | exact ⟨by omega, by omega⟩ | exact ⟨by decide, rfl⟩) rfl rfl rfl rfl dK_livingGuest_22 ?_
        refine lv_iload_n hx hb dK_livingGuest_25 rfl (lv_at hl 1 rfl) ?_
        refine lv_iconst (v := 1) hx hb dK_livingGuest_26 (by decide) ?_
        refine lv_isub hx hb dK_livingGuest_27 ?_
        rw [nI_pred]
        refine s_aaG hx hb hK hH _ (by first | rfl | assumption) hj dK_livingGuest_28 (fun h_4 => ?_) (fun h_4 => ?_)
        · skip
          refine lv_astore_n hx hb dK_livingGuest_29 rfl hl (by decide) rfl (fun ls hl => ?_)
          have hl : lv_has ls 3 [(2, .ref _), (0, .ref _), (1, .int _)] := hl
          refine lv_aload_n hx hb dK_livingGuest_30 rfl (lv_at hl 0 rfl) ?_
          refine lv_ifnull hx hb dK_livingGuest_31 ?_
          refine lv_aload_n hx hb dK_livingGuest_34 rfl (lv_at hl 0 rfl) ?_
          refine s_get hx hb hw inG hown hK hH 3 (by decide) (hw _ (gwd_2 (List.mem_of_getElem? (i := 20) rfl))) (by first | exact ⟨rfl, rfl⟩ | exact ⟨by assumption, rfl⟩ | exact ⟨by assumption, by assumption⟩ | exact ⟨by omega, rfl⟩ | exact ⟨by omega, by omega⟩ | exact ⟨by decide, rfl⟩) rfl rfl rfl rfl dK_livingGuest_35 ?_
          refine lv_if_eq hx hb dK_livingGuest_38 rfl (fun h_5 => ?_) (fun h_5 => ?_)
          · skip
            refine lv_null hx hb dK_livingGuest_45 ?_
            exact r_q none hx hb hr (Or.inl ⟨_, rfl⟩) hlk hK hH hS dK_livingGuest_46 (⟨by first | (simp [sLiv, hix, h6, h_1, h_2, h_3, h_4, h_5]; done) | (unfold sLiv; rw [if_pos (Or.inr (Or.inr (Int32.not_le.mp h_3)))]; rfl), rfl⟩)
          · skip
            refine lv_aload_n hx hb dK_livingGuest_41 rfl (lv_at hl 0 rfl) ?_
            refine lv_goto hx hb dK_livingGuest_42 rfl ?_
            exact r_q (some _) hx hb hr (Or.inl ⟨_, rfl⟩) hlk hK hH hS dK_livingGuest_46 (⟨by first | (simp [sLiv, hix, h6, h_1, h_2, h_3, h_4, h_5]; done) | (unfold sLiv; rw [if_pos (Or.inr (Or.inr (Int32.not_le.mp h_3)))]; rfl), rfl⟩)
        · skip
          refine lv_astore_nN hx hb dK_livingGuest_29 rfl hl (by decide) rfl (fun ls hl => ?_)
          have hl : lv_has ls 3 [(2, .null), (0, .ref _), (1, .int _)] := hl
          refine lv_aload_nN hx hb dK_livingGuest_30 rfl (lv_at hl 0 rfl) ?_
          refine lv_ifnullN hx hb dK_livingGuest_31 rfl ?_
          refine lv_null hx hb dK_livingGuest_45 ?_
          exact r_q none hx hb hr (Or.inl ⟨_, rfl⟩) hlk hK hH hS dK_livingGuest_46 (⟨by first | (simp [sLiv, hix, h6, h_1, h_2, h_3, h_4]; done) | (unfold sLiv; rw [if_pos (Or.inr (Or.inr (Int32.not_le.mp h_3)))]; rfl), rfl⟩)
      · skip
        refine lv_null hx hb dK_livingGuest_19 ?_
        exact r_q none hx hb hr (Or.inl ⟨_, rfl⟩) hlk hK hH hS dK_livingGuest_20 (⟨by first | (simp [sLiv, hix, h6, h_1, h_2, h_3]; done) | (unfold sLiv; rw [if_pos (Or.inr (Or.inr (Int32.not_le.mp h_3)))]; rfl), rfl⟩)
set_option maxHeartbeats 4000000 in
set_option maxRecDepth 100000 in
theorem c_K_hostReaches (l : Launch) {D : va_G} {c : Nat → ClassId} {sz : Nat} {ad : gN → Nat} {k : Nat} {I J : gI} {P : gP} {LG : Option Nat} {LP : Option (Nat × Nat)} {q : Nat} (hq : q < 24) : Met l yK_hostReaches wK_hostReaches { frames := 1, cells := 0, slots := 0, locals := 20 } (gPre D c sz [.ref (ad (0, 0, 0)), .ref (ad (2, q, 0))] (ad, k, I, J, P, LG, LP)) (va_Qi (fun r u => r = bz (sRchB I q) ∧ u = (ad, k, sRch I q, J, P, LG, LP)) (gB D c sz) (gA sz)) 0 0 (gA sz) := by
  refine Met.ofW (cc := cK_hostReaches) (maxL := 2) (ret := (some .boolean)) (by decide) rfl ?_
  intro p e s m args below meth cd s₁ B hml hv
  obtain ⟨rfl, hK, hH⟩ := hv
  have hx := B.exec
  have hb := B.bytes
  have hr := B.returns
  have hts := atoms_spec (ws := wK_hostReaches) B.pre
  have hw : ∀ w ∈ gWd, w.before _ s = true := fun w h => hts w (List.mem_cons_of_mem _ h)
  have hown : s.vm.findClass RK = some m.cls := findClass_of_methodNamed B.named
  have hlk := B.notSynchronized
  have hS : va_S (gA sz) s.heap s.heap [] := va_S.rf
  have hH : gW D c sz ad k I J P LG LP s.heap := hH
  have hl := lv_entry ([.ref (ad (0, 0, 0)), .ref (ad (2, q, 0))]) (n := 2) (Nat.le_of_ble_eq_true rfl)
  rw [lg_entry_eq]
  generalize (lg_sl ([.ref (ad (0, 0, 0)), .ref (ad (2, q, 0))]) ++ List.replicate (2 - (lg_sl ([.ref (ad (0, 0, 0)), .ref (ad (2, q, 0))])).length) Slot.unset).toArray = ls at hl ⊢
  have hl : lv_has ls 2 [(0, .ref (ad (0, 0, 0))), (1, .ref (ad (2, q, 0)))] := hl
  refine lv_aload_n hx hb dK_hostReaches_0 rfl (lv_at hl 1 rfl) ?_
  refine s_get hx hb hw inP hown hK hH 5 (by decide) (hw _ (gwd_0 (List.mem_of_getElem? (i := 32) rfl))) (by first | exact ⟨rfl, rfl⟩ | exact ⟨by assumption, rfl⟩ | exact ⟨by assumption, by assumption⟩ | exact ⟨by omega, rfl⟩ | exact ⟨by omega, by omega⟩ | exact ⟨by decide, rfl⟩) rfl rfl rfl rfl dK_hostReaches_1 ?_
  refine lv_if_eq hx hb dK_hostReaches_4 rfl (fun h_1 => ?_) (fun h_1 => ?_)
  · skip
    refine lv_aload_n hx hb dK_hostReaches_9 rfl (lv_at hl 0 rfl) ?_
    refine lv_dup hx hb dK_hostReaches_10 rfl ?_
    refine s_get hx hb hw inK hown hK hH 4 (by decide) (hw _ (gwd_0 (List.mem_of_getElem? (i := 45) rfl))) (by first | exact ⟨rfl, rfl⟩ | exact ⟨by assumption, rfl⟩ | exact ⟨by assumption, by assumption⟩ | exact ⟨by omega, rfl⟩ | exact ⟨by omega, by omega⟩ | exact ⟨by decide, rfl⟩) rfl rfl rfl rfl dK_hostReaches_11 ?_
    refine lv_iconst (v := 1) hx hb dK_hostReaches_14 (by decide) ?_
    refine lv_iadd hx hb dK_hostReaches_15 ?_
    refine s_put hx hb hw inK tyK_ok nK hown hK hH hS 4 (by decide) (hw _ (gwd_0 (List.mem_of_getElem? (i := 45) rfl))) (by first | exact ⟨rfl, rfl⟩ | exact ⟨by assumption, rfl⟩ | exact ⟨by assumption, by assumption⟩ | exact ⟨by omega, rfl⟩ | exact ⟨by omega, by omega⟩ | exact ⟨by decide, rfl⟩) rfl rfl rfl rfl rfl rfl rfl (Nat.le_of_ble_eq_true rfl) rfl dK_hostReaches_16 (fun H locs hH hS => ?_)
    refine lv_aload_n hx hb dK_hostReaches_19 rfl (lv_at hl 1 rfl) ?_
    refine lv_aload_n hx hb dK_hostReaches_20 rfl (lv_at hl 1 rfl) ?_
    refine s_ciE (va_runV (As := []) (rest := [.ref _]) ⟨hx, hb, hml, hown, hw⟩ (c_P_isOpenToHost l  (by first | assumption | omega | decide)) (cwV 0 hw (gd_V (gwd_1 (List.mem_of_getElem? (i := 22) rfl)) (gwd_1 (List.mem_of_getElem? (i := 23) rfl)) (gwd_1 (List.mem_of_getElem? (i := 24) rfl)) (gwd_0 (List.mem_of_getElem? (i := 2) rfl)) (gwd_1 (List.mem_of_getElem? (i := 25) rfl))) rfl rfl rfl (by decide +kernel) ⟨Nat.le_of_ble_eq_true rfl, Nat.le_of_ble_eq_true rfl⟩) (gPre.V (n := (2, _, 0)) hK hH (by first | exact ⟨rfl, rfl⟩ | exact ⟨by assumption, rfl⟩ | exact ⟨by assumption, by assumption⟩ | exact ⟨by omega, rfl⟩ | exact ⟨by omega, by omega⟩ | exact ⟨by decide, rfl⟩) rfl rfl) rfl rfl hl.1 rfl (lv_room (Nat.le_of_ble_eq_true rfl)) dK_hostReaches_21 ⟨Nat.zero_le _, Nat.zero_le _⟩) hS (fun H locs hH hS => ?_)
    refine s_put hx hb hw inP tyP_ok nP hown hK hH hS 5 (by decide) (hw _ (gwd_0 (List.mem_of_getElem? (i := 32) rfl))) (by first | exact ⟨rfl, rfl⟩ | exact ⟨by assumption, rfl⟩ | exact ⟨by assumption, by assumption⟩ | exact ⟨by omega, rfl⟩ | exact ⟨by omega, by omega⟩ | exact ⟨by decide, rfl⟩) rfl rfl rfl rfl rfl (nar01 (by first | exact Or.inl rfl | exact Or.inr rfl | exact bz_01 _ | assumption)) (fit01 (by first | exact Or.inl rfl | exact Or.inr rfl | exact bz_01 _ | assumption)) (Nat.le_of_ble_eq_true rfl) rfl dK_hostReaches_24 (fun H locs hH hS => ?_)
    refine lv_aload_n hx hb dK_hostReaches_27 rfl (lv_at hl 1 rfl) ?_
    refine s_get hx hb hw inP hown hK hH 5 (by decide) (hw _ (gwd_0 (List.mem_of_getElem? (i := 32) rfl))) (by first | exact ⟨rfl, rfl⟩ | exact ⟨by assumption, rfl⟩ | exact ⟨by assumption, by assumption⟩ | exact ⟨by omega, rfl⟩ | exact ⟨by omega, by omega⟩ | exact ⟨by decide, rfl⟩) rfl rfl rfl rfl dK_hostReaches_28 ?_
    simp only [iu_at, and_self, if_true]
    exact r_z hx hb hr hlk hK hH hS dK_hostReaches_31 (by first | exact Or.inl rfl | exact Or.inr rfl | exact bz_01 _ | assumption) (⟨bz_iff ⟨fun z => Or.inr z, fun z => z.elim (fun z => absurd h_1 z) id⟩, by simp [sRch, h_1]⟩)
  · skip
    refine lv_iconst (v := 1) hx hb dK_hostReaches_7 (by decide) ?_
    exact r_z hx hb hr hlk hK hH hS dK_hostReaches_8 (by first | exact Or.inl rfl | exact Or.inr rfl | exact bz_01 _ | assumption) (⟨(bz_t (Or.inl h_1)).symm, by simp [sRch, h_1]⟩)
set_option maxHeartbeats 4000000 in
set_option maxRecDepth 100000 in
theorem c_K_placingRefusal0 (l : Launch) {D : va_G} {c : Nat → ClassId} {sz : Nat} {ad : gN → Nat} {k : Nat} {I J : gI} {P : gP} {LG : Option Nat} {LP : Option (Nat × Nat)} {x y : Int32}  : Met l yK_placingRefusal wK_placingRefusal { frames := 4, cells := 0, slots := 0, locals := 86 } (gPre D c sz [.ref (ad (0, 0, 0)), .null, .int x, .int y] (ad, k, I, J, P, LG, LP)) (va_Qi (fun r u => r = -1 ∧ u = (ad, k, I, J, P, LG, LP)) (gB D c sz) (gA sz)) 0 0 (gA sz) := by
  refine Met.ofW (cc := cK_placingRefusal) (maxL := 4) (ret := (some .int)) (by decide) rfl ?_
  intro p e s m args below meth cd s₁ B hml hv
  obtain ⟨rfl, hK, hH⟩ := hv
  have hx := B.exec
  have hb := B.bytes
  have hr := B.returns
  have hts := atoms_spec (ws := wK_placingRefusal) B.pre
  have hw : ∀ w ∈ gWd, w.before _ s = true := fun w h => hts w (List.mem_cons_of_mem _ h)
  have hown : s.vm.findClass RK = some m.cls := findClass_of_methodNamed B.named
  have hlk := B.notSynchronized
  have hS : va_S (gA sz) s.heap s.heap [] := va_S.rf
  have hH : gW D c sz ad k I J P LG LP s.heap := hH
  have hl := lv_entry ([.ref (ad (0, 0, 0)), .null, .int x, .int y]) (n := 4) (Nat.le_of_ble_eq_true rfl)
  rw [lg_entry_eq]
  generalize (lg_sl ([.ref (ad (0, 0, 0)), .null, .int x, .int y]) ++ List.replicate (4 - (lg_sl ([.ref (ad (0, 0, 0)), .null, .int x, .int y])).length) Slot.unset).toArray = ls at hl ⊢
  have hl : lv_has ls 4 [(0, .ref (ad (0, 0, 0))), (1, .null), (2, .int x), (3, .int y)] := hl
  refine lv_aload_nN hx hb dK_placingRefusal_0 rfl (lv_at hl 1 rfl) ?_
  refine lv_ifnonnullN hx hb dK_placingRefusal_1 ?_
  refine lv_iconst (v := -1) hx hb dK_placingRefusal_4 (by decide) ?_
  exact r_i hx hb hr hlk hK hH hS dK_placingRefusal_5 (⟨rfl, rfl⟩)
set_option maxHeartbeats 4000000 in
set_option maxRecDepth 100000 in
theorem c_K_placingRefusal (l : Launch) {D : va_G} {c : Nat → ClassId} {sz : Nat} {ad : gN → Nat} {k : Nat} {I J : gI} {P : gP} {LG : Option Nat} {LP : Option (Nat × Nat)} {g : Nat} {x y : Int32} (hg : g < k) (hPl : ∀ g a q, P g a = some q → q < 24) : Met l yK_placingRefusal wK_placingRefusal { frames := 4, cells := 0, slots := 0, locals := 86 } (gPre D c sz [.ref (ad (0, 0, 0)), .ref (ad (6, g, 0)), .int x, .int y] (ad, k, I, J, P, LG, LP)) (va_Qi (fun r u => r = sRef I P g x y ∧ u = (ad, k, I, J, P, LG, LP)) (gB D c sz) (gA sz)) 0 0 (gA sz) := by
  refine Met.ofW (cc := cK_placingRefusal) (maxL := 4) (ret := (some .int)) (by decide) rfl ?_
  intro p e s m args below meth cd s₁ B hml hv
  obtain ⟨rfl, hK, hH⟩ := hv
  have hx := B.exec
  have hb := B.bytes
  have hr := B.returns
  have hts := atoms_spec (ws := wK_placingRefusal) B.pre
  have hw : ∀ w ∈ gWd, w.before _ s = true := fun w h => hts w (List.mem_cons_of_mem _ h)
  have hown : s.vm.findClass RK = some m.cls := findClass_of_methodNamed B.named
  have hlk := B.notSynchronized
  have hS : va_S (gA sz) s.heap s.heap [] := va_S.rf
  have hH : gW D c sz ad k I J P LG LP s.heap := hH
  have hl := lv_entry ([.ref (ad (0, 0, 0)), .ref (ad (6, g, 0)), .int x, .int y]) (n := 4) (Nat.le_of_ble_eq_true rfl)
  rw [lg_entry_eq]
  generalize (lg_sl ([.ref (ad (0, 0, 0)), .ref (ad (6, g, 0)), .int x, .int y]) ++ List.replicate (4 - (lg_sl ([.ref (ad (0, 0, 0)), .ref (ad (6, g, 0)), .int x, .int y])).length) Slot.unset).toArray = ls at hl ⊢
  have hl : lv_has ls 4 [(0, .ref (ad (0, 0, 0))), (1, .ref (ad (6, g, 0))), (2, .int x), (3, .int y)] := hl
  refine lv_aload_n hx hb dK_placingRefusal_0 rfl (lv_at hl 1 rfl) ?_
  refine lv_ifnonnull hx hb dK_placingRefusal_1 rfl ?_
  refine lv_aload_n hx hb dK_placingRefusal_6 rfl (lv_at hl 0 rfl) ?_
  refine lv_iload_n hx hb dK_placingRefusal_7 rfl (lv_at hl 2 rfl) ?_
  refine s_ciE (va_runV (As := [.int _]) (rest := []) ⟨hx, hb, hml, hown, hw⟩ (c_K_isFreePage l  ) (cwV 1 hw (gd_V (gwd_1 (List.mem_of_getElem? (i := 39) rfl)) (gwd_1 (List.mem_of_getElem? (i := 40) rfl)) (gwd_9 (List.mem_of_getElem? (i := 13) rfl)) (gwd_0 (List.mem_of_getElem? (i := 1) rfl)) (gwd_1 (List.mem_of_getElem? (i := 41) rfl))) rfl rfl rfl (by decide +kernel) ⟨Nat.le_of_ble_eq_true rfl, Nat.le_of_ble_eq_true rfl⟩) (gPre.V (n := (0, 0, 0)) hK hH (by first | exact ⟨rfl, rfl⟩ | exact ⟨by assumption, rfl⟩ | exact ⟨by assumption, by assumption⟩ | exact ⟨by omega, rfl⟩ | exact ⟨by omega, by omega⟩ | exact ⟨by decide, rfl⟩) rfl rfl) rfl rfl hl.1 rfl (lv_room (Nat.le_of_ble_eq_true rfl)) dK_placingRefusal_8 ⟨Nat.zero_le _, Nat.zero_le _⟩) hS (fun H locs hH hS => ?_)
  refine s_ifne hx hb dK_placingRefusal_11 rfl (fun h_1 => ?_) (fun h_1 => ?_)
  · skip
    refine lv_iload_n hx hb dK_placingRefusal_17 rfl (lv_at hl 3 rfl) ?_
    refine lv_if_lt hx hb dK_placingRefusal_18 rfl (fun h_2 => ?_) (fun h_2 => ?_)
    · skip
      refine lv_bipush (v := -3) hx hb dK_placingRefusal_36 (by decide) ?_
      exact r_i hx hb hr hlk hK hH hS dK_placingRefusal_38 (⟨by first | rw [sRef, if_neg (fun q => q h_1), if_pos (Or.inl h_2)] | rw [sRef, if_neg (fun q => q h_1), if_pos (Or.inr (Or.inl h_2))] | rw [sRef, if_neg (fun q => q h_1), if_pos (Or.inr (Or.inr (fun q => by rw [hia, h_2] at q; cases q)))], rfl⟩)
    · skip
      refine lv_iload_n hx hb dK_placingRefusal_21 rfl (lv_at hl 3 rfl) ?_
      refine lv_bipush (v := 64) hx hb dK_placingRefusal_22 (by decide) ?_
      refine lv_icmp_ge hx hb dK_placingRefusal_24 rfl (fun h_3 => ?_) (fun h_3 => ?_)
      · skip
        refine lv_bipush (v := -3) hx hb dK_placingRefusal_36 (by decide) ?_
        exact r_i hx hb hr hlk hK hH hS dK_placingRefusal_38 (⟨by first | rw [sRef, if_neg (fun q => q h_1), if_pos (Or.inl h_3)] | rw [sRef, if_neg (fun q => q h_1), if_pos (Or.inr (Or.inl h_3))] | rw [sRef, if_neg (fun q => q h_1), if_pos (Or.inr (Or.inr (fun q => by rw [hia, h_3] at q; cases q)))], rfl⟩)
      · skip
        obtain ⟨a, ha, rfl⟩ := ix_lt 64 64 rfl (by decide) h_2 h_3
        have hia : ix (nI a) = a := ix_nI (by omega)
        refine lv_aload_n hx hb dK_placingRefusal_27 rfl (lv_at hl 1 rfl) ?_
        refine s_get hx hb hw inG hown hK hH 1 (by decide) (hw _ (gwd_2 (List.mem_of_getElem? (i := 16) rfl))) (by first | exact ⟨rfl, rfl⟩ | exact ⟨by assumption, rfl⟩ | exact ⟨by assumption, by assumption⟩ | exact ⟨by omega, rfl⟩ | exact ⟨by omega, by omega⟩ | exact ⟨by decide, rfl⟩) rfl rfl rfl rfl dK_placingRefusal_28 ?_
        refine lv_iload_n hx hb dK_placingRefusal_31 rfl (lv_at hl 3 rfl) ?_
        refine s_aaL hx hb hK hH (by first | assumption | decide | omega) _ (by first | rfl | assumption) (by first | assumption | decide | omega) dK_placingRefusal_32 (fun q_5 h_4 => ?_) (fun h_4 => ?_)
        · have hlt_q_5 : q_5 < 24 := hPl _ _ _ h_4
          refine lv_ifnull hx hb dK_placingRefusal_33 ?_
          refine lv_bipush (v := -3) hx hb dK_placingRefusal_36 (by decide) ?_
          exact r_i hx hb hr hlk hK hH hS dK_placingRefusal_38 (⟨by first | rw [sRef, if_neg (fun q => q h_1), if_pos (Or.inl h_4)] | rw [sRef, if_neg (fun q => q h_1), if_pos (Or.inr (Or.inl h_4))] | rw [sRef, if_neg (fun q => q h_1), if_pos (Or.inr (Or.inr (fun q => by rw [hia, h_4] at q; cases q)))], rfl⟩)
        · skip
          refine lv_ifnullN hx hb dK_placingRefusal_33 rfl ?_
          refine lv_aload_n hx hb dK_placingRefusal_39 rfl (lv_at hl 1 rfl) ?_
          refine s_ciE (va_runV (As := []) (rest := []) ⟨hx, hb, hml, hown, hw⟩ (c_G_poolSize l  (by assumption) (hPl)) (cwV 0 hw (gd_V (gwd_3 (List.mem_of_getElem? (i := 6) rfl)) (gwd_3 (List.mem_of_getElem? (i := 7) rfl)) (gwd_3 (List.mem_of_getElem? (i := 8) rfl)) (gwd_0 (List.mem_of_getElem? (i := 4) rfl)) (gwd_3 (List.mem_of_getElem? (i := 9) rfl))) rfl rfl rfl (by decide +kernel) ⟨Nat.le_of_ble_eq_true rfl, Nat.le_of_ble_eq_true rfl⟩) (gPre.V (n := (6, _, 0)) hK hH (by first | exact ⟨rfl, rfl⟩ | exact ⟨by assumption, rfl⟩ | exact ⟨by assumption, by assumption⟩ | exact ⟨by omega, rfl⟩ | exact ⟨by omega, by omega⟩ | exact ⟨by decide, rfl⟩) rfl rfl) rfl rfl hl.1 rfl (lv_room (Nat.le_of_ble_eq_true rfl)) dK_placingRefusal_40 ⟨Nat.zero_le _, Nat.zero_le _⟩) hS (fun H locs hH hS => ?_)
          refine lv_aload_n hx hb dK_placingRefusal_43 rfl (lv_at hl 1 rfl) ?_
          refine lv_iload_n hx hb dK_placingRefusal_44 rfl (lv_at hl 3 rfl) ?_
          refine s_ciE (va_runV (As := [.int _]) (rest := [.int _]) ⟨hx, hb, hml, hown, hw⟩ (c_G_newTablesFor l  (by assumption) (by first | assumption | omega) (hPl)) (cwV 1 hw (gd_V (gwd_3 (List.mem_of_getElem? (i := 27) rfl)) (gwd_3 (List.mem_of_getElem? (i := 28) rfl)) (gwd_3 (List.mem_of_getElem? (i := 29) rfl)) (gwd_0 (List.mem_of_getElem? (i := 4) rfl)) (gwd_3 (List.mem_of_getElem? (i := 30) rfl))) rfl rfl rfl (by decide +kernel) ⟨Nat.le_of_ble_eq_true rfl, Nat.le_of_ble_eq_true rfl⟩) (gPre.V (n := (6, _, 0)) hK hH (by first | exact ⟨rfl, rfl⟩ | exact ⟨by assumption, rfl⟩ | exact ⟨by assumption, by assumption⟩ | exact ⟨by omega, rfl⟩ | exact ⟨by omega, by omega⟩ | exact ⟨by decide, rfl⟩) rfl rfl) rfl rfl hl.1 rfl (lv_room (Nat.le_of_ble_eq_true rfl)) dK_placingRefusal_45 ⟨Nat.zero_le _, Nat.zero_le _⟩) hS (fun H locs hH hS => ?_)
          refine lv_icmp_ge hx hb dK_placingRefusal_48 rfl (fun h_6 => ?_) (fun h_6 => ?_)
          · skip
            refine lv_iconst (v := 0) hx hb dK_placingRefusal_56 (by decide) ?_
            exact r_i hx hb hr hlk hK hH hS dK_placingRefusal_57 (⟨by first | rw [sRef, if_neg (fun q => q h_1), if_neg (fun q => q.elim h_2 (fun q => q.elim h_3 (fun q => q (by rw [hia]; exact h_4)))), hia, if_neg (fun q => Int32.lt_irrefl (Int32.lt_of_lt_of_le q h_6))] | rw [sRef, if_neg (fun q => q h_1), if_neg (fun q => q.elim h_2 (fun q => q.elim h_3 (fun q => q (by rw [hia]; exact h_4)))), hia, if_pos (Int32.not_le.mp h_6)], rfl⟩)
          · skip
            refine lv_bipush (v := -4) hx hb dK_placingRefusal_51 (by decide) ?_
            refine lv_goto hx hb dK_placingRefusal_53 rfl ?_
            exact r_i hx hb hr hlk hK hH hS dK_placingRefusal_57 (⟨by first | rw [sRef, if_neg (fun q => q h_1), if_neg (fun q => q.elim h_2 (fun q => q.elim h_3 (fun q => q (by rw [hia]; exact h_4)))), hia, if_neg (fun q => Int32.lt_irrefl (Int32.lt_of_lt_of_le q h_6))] | rw [sRef, if_neg (fun q => q h_1), if_neg (fun q => q.elim h_2 (fun q => q.elim h_3 (fun q => q (by rw [hia]; exact h_4)))), hia, if_pos (Int32.not_le.mp h_6)], rfl⟩)
  · skip
    refine lv_bipush (v := -2) hx hb dK_placingRefusal_14 (by decide) ?_
    exact r_i hx hb hr hlk hK hH hS dK_placingRefusal_16 (⟨by rw [sRef, if_pos h_1], rfl⟩)
end
section
set_option maxHeartbeats 4000000 in
set_option maxRecDepth 100000 in
theorem c_K_read (l : Launch) {D : va_G} {c : Nat → ClassId} {sz : Nat} {ad : gN → Nat} {k : Nat} {I J : gI} {P : gP} {LG : Option Nat} {LP : Option (Nat × Nat)} {x y : Int32}  : Met l yK_read wK_read { frames := 2, cells := 0, slots := 0, locals := 41 } (gPre D c sz [.ref (ad (0, 0, 0)), .int x, .int y] (ad, k, I, J, P, LG, LP)) (va_Ql (fun r u => r = (cRead I x y).1 ∧ u = (ad, k, (cRead I x y).2, J, P, LG, LP)) (gB D c sz) (gA sz)) 0 0 (gA sz) := by
  refine Met.ofW (cc := cK_read) (maxL := 3) (ret := (some .long)) (by decide) rfl ?_
  intro p e s m args below meth cd s₁ B hml hv
  obtain ⟨rfl, hK, hH⟩ := hv
  have hx := B.exec
  have hb := B.bytes
  have hr := B.returns
  have hts := atoms_spec (ws := wK_read) B.pre
  have hw : ∀ w ∈ gWd, w.before _ s = true := fun w h => hts w (List.mem_cons_of_mem _ h)
  have hown : s.vm.findClass RK = some m.cls := findClass_of_methodNamed B.named
  have hlk := B.notSynchronized
  have hS : va_S (gA sz) s.heap s.heap [] := va_S.rf
  have hH : gW D c sz ad k I J P LG LP s.heap := hH
  have hl := lv_entry ([.ref (ad (0, 0, 0)), .int x, .int y]) (n := 3) (Nat.le_of_ble_eq_true rfl)
  rw [lg_entry_eq]
  generalize (lg_sl ([.ref (ad (0, 0, 0)), .int x, .int y]) ++ List.replicate (3 - (lg_sl ([.ref (ad (0, 0, 0)), .int x, .int y])).length) Slot.unset).toArray = ls at hl ⊢
  have hl : lv_has ls 3 [(0, .ref (ad (0, 0, 0))), (1, .int x), (2, .int y)] := hl
  refine lv_iload_n hx hb dK_read_0 rfl (lv_at hl 1 rfl) ?_
  refine s_ciE (va_runS (As := [.int _]) (rest := []) ⟨hx, hb, hml, hown, hw⟩ (c_K_isPage l  ) (cwS 1 hw (gd_S (gwd_1 (List.mem_of_getElem? (i := 13) rfl)) (gwd_1 (List.mem_of_getElem? (i := 14) rfl)) (gwd_0 (List.mem_of_getElem? (i := 1) rfl)) (gwd_1 (List.mem_of_getElem? (i := 15) rfl))) rfl rfl rfl (by decide +kernel) ⟨Nat.le_of_ble_eq_true rfl, Nat.le_of_ble_eq_true rfl⟩) (gPre.S hK hH) rfl rfl hl.1 rfl (lv_room (Nat.le_of_ble_eq_true rfl)) dK_read_1 ⟨Nat.zero_le _, Nat.zero_le _⟩) hS (fun H locs hH hS => ?_)
  refine s_ifeq hx hb dK_read_4 rfl (fun h_1 => ?_) (fun h_1 => ?_)
  · skip
    refine lv_ldc2 (v := 1099511627776) hx hb hown (hw _ (gwd_1 (List.mem_of_getElem? (i := 26) rfl))) dK_read_27 ?_
    exact r_l hx hb hr hlk hK hH hS dK_read_30 (by rw [cRead, if_neg (fun q => h_1 q.1)]; exact ⟨rfl, rfl⟩)
  · skip
    obtain ⟨j, hj, rfl⟩ := isP_ix h_1
    have hi : ix (nI j) = j := ix_nI (by omega)
    refine lv_iload_n hx hb dK_read_7 rfl (lv_at hl 2 rfl) ?_
    refine s_ciE (va_runS (As := [.int _]) (rest := []) ⟨hx, hb, hml, hown, hw⟩ (c_K_isWord l  ) (cwS 1 hw (gd_S (gwd_1 (List.mem_of_getElem? (i := 16) rfl)) (gwd_1 (List.mem_of_getElem? (i := 17) rfl)) (gwd_0 (List.mem_of_getElem? (i := 1) rfl)) (gwd_1 (List.mem_of_getElem? (i := 18) rfl))) rfl rfl rfl (by decide +kernel) ⟨Nat.le_of_ble_eq_true rfl, Nat.le_of_ble_eq_true rfl⟩) (gPre.S hK hH) rfl rfl hl.1 rfl (lv_room (Nat.le_of_ble_eq_true rfl)) dK_read_8 ⟨Nat.zero_le _, Nat.zero_le _⟩) hS (fun H locs hH hS => ?_)
    refine s_ifeq hx hb dK_read_11 rfl (fun h_2 => ?_) (fun h_2 => ?_)
    · skip
      refine lv_ldc2 (v := 1099511627776) hx hb hown (hw _ (gwd_1 (List.mem_of_getElem? (i := 26) rfl))) dK_read_27 ?_
      exact r_l hx hb hr hlk hK hH hS dK_read_30 (by rw [cRead, if_neg (fun q => h_2 q.2)]; exact ⟨rfl, rfl⟩)
    · skip
      obtain ⟨i4, hi4, rfl⟩ := is4_ix h_2
      have hi2 : ix (nI i4) = i4 := ix_nI (by omega)
      refine lv_aload_n hx hb dK_read_14 rfl (lv_at hl 0 rfl) ?_
      refine lv_aload_n hx hb dK_read_15 rfl (lv_at hl 0 rfl) ?_
      refine s_get hx hb hw inK hown hK hH 0 (by decide) (hw _ (gwd_0 (List.mem_of_getElem? (i := 41) rfl))) (by first | exact ⟨rfl, rfl⟩ | exact ⟨by assumption, rfl⟩ | exact ⟨by assumption, by assumption⟩ | exact ⟨by omega, rfl⟩ | exact ⟨by omega, by omega⟩ | exact ⟨by decide, rfl⟩) rfl rfl rfl rfl dK_read_16 ?_
      refine lv_iload_n hx hb dK_read_19 rfl (lv_at hl 1 rfl) ?_
      refine s_aaP hx hb hK hH _ (by first | rfl | assumption) (by first | assumption | decide | omega) dK_read_20 ?_
      refine s_ciE (va_runV (As := [.ref _]) (rest := []) ⟨hx, hb, hml, hown, hw⟩ (c_K_hostReaches l  (by assumption)) (cwV 1 hw (gd_V (gwd_1 (List.mem_of_getElem? (i := 19) rfl)) (gwd_1 (List.mem_of_getElem? (i := 20) rfl)) (gwd_9 (List.mem_of_getElem? (i := 12) rfl)) (gwd_0 (List.mem_of_getElem? (i := 1) rfl)) (gwd_1 (List.mem_of_getElem? (i := 21) rfl))) rfl rfl rfl (by decide +kernel) ⟨Nat.le_of_ble_eq_true rfl, Nat.le_of_ble_eq_true rfl⟩) (gPre.V (n := (0, 0, 0)) hK hH (by first | exact ⟨rfl, rfl⟩ | exact ⟨by assumption, rfl⟩ | exact ⟨by assumption, by assumption⟩ | exact ⟨by omega, rfl⟩ | exact ⟨by omega, by omega⟩ | exact ⟨by decide, rfl⟩) rfl rfl) rfl rfl hl.1 rfl (lv_room (Nat.le_of_ble_eq_true rfl)) dK_read_21 ⟨Nat.zero_le _, Nat.zero_le _⟩) hS (fun H locs hH hS => ?_)
      refine s_ifne hx hb dK_read_24 rfl (fun h_3 => ?_) (fun h_3 => ?_)
      · skip
        refine lv_aload_n hx hb dK_read_31 rfl (lv_at hl 0 rfl) ?_
        refine s_get hx hb hw inK hown hK hH 0 (by decide) (hw _ (gwd_0 (List.mem_of_getElem? (i := 41) rfl))) (by first | exact ⟨rfl, rfl⟩ | exact ⟨by assumption, rfl⟩ | exact ⟨by assumption, by assumption⟩ | exact ⟨by omega, rfl⟩ | exact ⟨by omega, by omega⟩ | exact ⟨by decide, rfl⟩) rfl rfl rfl rfl dK_read_32 ?_
        refine lv_iload_n hx hb dK_read_35 rfl (lv_at hl 1 rfl) ?_
        refine s_aaP hx hb hK hH _ (by first | rfl | assumption) (by first | assumption | decide | omega) dK_read_36 ?_
        refine s_get hx hb hw inP hown hK hH 0 (by decide) (hw _ (gwd_0 (List.mem_of_getElem? (i := 20) rfl))) (by first | exact ⟨rfl, rfl⟩ | exact ⟨by assumption, rfl⟩ | exact ⟨by assumption, by assumption⟩ | exact ⟨by omega, rfl⟩ | exact ⟨by omega, by omega⟩ | exact ⟨by decide, rfl⟩) rfl rfl rfl rfl dK_read_37 ?_
        refine lv_iload_n hx hb dK_read_40 rfl (lv_at hl 2 rfl) ?_
        refine s_iald hx hb hK hH (by first | exact ⟨rfl, rfl⟩ | exact ⟨by assumption, rfl⟩ | exact ⟨by assumption, by assumption⟩ | exact ⟨by omega, rfl⟩ | exact ⟨by omega, by omega⟩ | exact ⟨by decide, rfl⟩) rfl _ (by first | rfl | assumption) (by first | assumption | decide | omega) (by decide) dK_read_41 ?_
        refine lv_i2l hx hb dK_read_42 rfl ?_
        exact r_l hx hb hr hlk hK hH hS dK_read_43 (by rw [cRead, if_pos ⟨h_1, h_2⟩, hi]; first | (rw [if_pos h_3]; exact ⟨rfl, rfl⟩) | (rw [if_neg h_3]; exact ⟨rfl, rfl⟩) | (rw [hi2, if_pos h_3]; exact ⟨rfl, rfl⟩))
      · skip
        refine lv_ldc2 (v := 1099511627776) hx hb hown (hw _ (gwd_1 (List.mem_of_getElem? (i := 26) rfl))) dK_read_27 ?_
        exact r_l hx hb hr hlk hK hH hS dK_read_30 (by rw [cRead, if_pos ⟨h_1, h_2⟩, hi]; first | (rw [if_pos h_3]; exact ⟨rfl, rfl⟩) | (rw [if_neg h_3]; exact ⟨rfl, rfl⟩) | (rw [hi2, if_pos h_3]; exact ⟨rfl, rfl⟩))
set_option maxHeartbeats 4000000 in
set_option maxRecDepth 100000 in
theorem c_K_write (l : Launch) {D : va_G} {c : Nat → ClassId} {sz : Nat} {ad : gN → Nat} {k : Nat} {I J : gI} {P : gP} {LG : Option Nat} {LP : Option (Nat × Nat)} {x y z : Int32}  : Met l yK_write wK_write { frames := 2, cells := 0, slots := 0, locals := 41 } (gPre D c sz [.ref (ad (0, 0, 0)), .int x, .int y, .int z] (ad, k, I, J, P, LG, LP)) (va_Qi (fun r u => r = (cWrite I x y z).1 ∧ u = (ad, k, (cWrite I x y z).2, J, P, LG, LP)) (gB D c sz) (gA sz)) 0 0 (gA sz) := by
  refine Met.ofW (cc := cK_write) (maxL := 4) (ret := (some .boolean)) (by decide) rfl ?_
  intro p e s m args below meth cd s₁ B hml hv
  obtain ⟨rfl, hK, hH⟩ := hv
  have hx := B.exec
  have hb := B.bytes
  have hr := B.returns
  have hts := atoms_spec (ws := wK_write) B.pre
  have hw : ∀ w ∈ gWd, w.before _ s = true := fun w h => hts w (List.mem_cons_of_mem _ h)
  have hown : s.vm.findClass RK = some m.cls := findClass_of_methodNamed B.named
  have hlk := B.notSynchronized
  have hS : va_S (gA sz) s.heap s.heap [] := va_S.rf
  have hH : gW D c sz ad k I J P LG LP s.heap := hH
  have hl := lv_entry ([.ref (ad (0, 0, 0)), .int x, .int y, .int z]) (n := 4) (Nat.le_of_ble_eq_true rfl)
  rw [lg_entry_eq]
  generalize (lg_sl ([.ref (ad (0, 0, 0)), .int x, .int y, .int z]) ++ List.replicate (4 - (lg_sl ([.ref (ad (0, 0, 0)), .int x, .int y, .int z])).length) Slot.unset).toArray = ls at hl ⊢
  have hl : lv_has ls 4 [(0, .ref (ad (0, 0, 0))), (1, .int x), (2, .int y), (3, .int z)] := hl
  refine lv_iload_n hx hb dK_write_0 rfl (lv_at hl 1 rfl) ?_
  refine s_ciE (va_runS (As := [.int _]) (rest := []) ⟨hx, hb, hml, hown, hw⟩ (c_K_isPage l  ) (cwS 1 hw (gd_S (gwd_1 (List.mem_of_getElem? (i := 13) rfl)) (gwd_1 (List.mem_of_getElem? (i := 14) rfl)) (gwd_0 (List.mem_of_getElem? (i := 1) rfl)) (gwd_1 (List.mem_of_getElem? (i := 15) rfl))) rfl rfl rfl (by decide +kernel) ⟨Nat.le_of_ble_eq_true rfl, Nat.le_of_ble_eq_true rfl⟩) (gPre.S hK hH) rfl rfl hl.1 rfl (lv_room (Nat.le_of_ble_eq_true rfl)) dK_write_1 ⟨Nat.zero_le _, Nat.zero_le _⟩) hS (fun H locs hH hS => ?_)
  refine s_ifeq hx hb dK_write_4 rfl (fun h_1 => ?_) (fun h_1 => ?_)
  · skip
    refine lv_iconst (v := 0) hx hb dK_write_27 (by decide) ?_
    exact r_z hx hb hr hlk hK hH hS dK_write_28 (by first | exact Or.inl rfl | exact Or.inr rfl | exact bz_01 _ | assumption) (by rw [cWrite, if_neg (fun q => h_1 q.1)]; exact ⟨rfl, rfl⟩)
  · skip
    obtain ⟨j, hj, rfl⟩ := isP_ix h_1
    have hi : ix (nI j) = j := ix_nI (by omega)
    refine lv_iload_n hx hb dK_write_7 rfl (lv_at hl 2 rfl) ?_
    refine s_ciE (va_runS (As := [.int _]) (rest := []) ⟨hx, hb, hml, hown, hw⟩ (c_K_isWord l  ) (cwS 1 hw (gd_S (gwd_1 (List.mem_of_getElem? (i := 16) rfl)) (gwd_1 (List.mem_of_getElem? (i := 17) rfl)) (gwd_0 (List.mem_of_getElem? (i := 1) rfl)) (gwd_1 (List.mem_of_getElem? (i := 18) rfl))) rfl rfl rfl (by decide +kernel) ⟨Nat.le_of_ble_eq_true rfl, Nat.le_of_ble_eq_true rfl⟩) (gPre.S hK hH) rfl rfl hl.1 rfl (lv_room (Nat.le_of_ble_eq_true rfl)) dK_write_8 ⟨Nat.zero_le _, Nat.zero_le _⟩) hS (fun H locs hH hS => ?_)
    refine s_ifeq hx hb dK_write_11 rfl (fun h_2 => ?_) (fun h_2 => ?_)
    · skip
      refine lv_iconst (v := 0) hx hb dK_write_27 (by decide) ?_
      exact r_z hx hb hr hlk hK hH hS dK_write_28 (by first | exact Or.inl rfl | exact Or.inr rfl | exact bz_01 _ | assumption) (by rw [cWrite, if_neg (fun q => h_2 q.2)]; exact ⟨rfl, rfl⟩)
    · skip
      obtain ⟨i4, hi4, rfl⟩ := is4_ix h_2
      have hi2 : ix (nI i4) = i4 := ix_nI (by omega)
      refine lv_aload_n hx hb dK_write_14 rfl (lv_at hl 0 rfl) ?_
      refine lv_aload_n hx hb dK_write_15 rfl (lv_at hl 0 rfl) ?_
      refine s_get hx hb hw inK hown hK hH 0 (by decide) (hw _ (gwd_0 (List.mem_of_getElem? (i := 41) rfl))) (by first | exact ⟨rfl, rfl⟩ | exact ⟨by assumption, rfl⟩ | exact ⟨by assumption, by assumption⟩ | exact ⟨by omega, rfl⟩ | exact ⟨by omega, by omega⟩ | exact ⟨by decide, rfl⟩) rfl rfl rfl rfl dK_write_16 ?_
      refine lv_iload_n hx hb dK_write_19 rfl (lv_at hl 1 rfl) ?_
      refine s_aaP hx hb hK hH _ (by first | rfl | assumption) (by first | assumption | decide | omega) dK_write_20 ?_
      refine s_ciE (va_runV (As := [.ref _]) (rest := []) ⟨hx, hb, hml, hown, hw⟩ (c_K_hostReaches l  (by assumption)) (cwV 1 hw (gd_V (gwd_1 (List.mem_of_getElem? (i := 19) rfl)) (gwd_1 (List.mem_of_getElem? (i := 20) rfl)) (gwd_9 (List.mem_of_getElem? (i := 12) rfl)) (gwd_0 (List.mem_of_getElem? (i := 1) rfl)) (gwd_1 (List.mem_of_getElem? (i := 21) rfl))) rfl rfl rfl (by decide +kernel) ⟨Nat.le_of_ble_eq_true rfl, Nat.le_of_ble_eq_true rfl⟩) (gPre.V (n := (0, 0, 0)) hK hH (by first | exact ⟨rfl, rfl⟩ | exact ⟨by assumption, rfl⟩ | exact ⟨by assumption, by assumption⟩ | exact ⟨by omega, rfl⟩ | exact ⟨by omega, by omega⟩ | exact ⟨by decide, rfl⟩) rfl rfl) rfl rfl hl.1 rfl (lv_room (Nat.le_of_ble_eq_true rfl)) dK_write_21 ⟨Nat.zero_le _, Nat.zero_le _⟩) hS (fun H locs hH hS => ?_)
      refine s_ifne hx hb dK_write_24 rfl (fun h_3 => ?_) (fun h_3 => ?_)
      · skip
        refine lv_aload_n hx hb dK_write_29 rfl (lv_at hl 0 rfl) ?_
        refine s_get hx hb hw inK hown hK hH 0 (by decide) (hw _ (gwd_0 (List.mem_of_getElem? (i := 41) rfl))) (by first | exact ⟨rfl, rfl⟩ | exact ⟨by assumption, rfl⟩ | exact ⟨by assumption, by assumption⟩ | exact ⟨by omega, rfl⟩ | exact ⟨by omega, by omega⟩ | exact ⟨by decide, rfl⟩) rfl rfl rfl rfl dK_write_30 ?_
        refine lv_iload_n hx hb dK_write_33 rfl (lv_at hl 1 rfl) ?_
        refine s_aaP hx hb hK hH _ (by first | rfl | assumption) (by first | assumption | decide | omega) dK_write_34 ?_
        refine s_get hx hb hw inP hown hK hH 0 (by decide) (hw _ (gwd_0 (List.mem_of_getElem? (i := 20) rfl))) (by first | exact ⟨rfl, rfl⟩ | exact ⟨by assumption, rfl⟩ | exact ⟨by assumption, by assumption⟩ | exact ⟨by omega, rfl⟩ | exact ⟨by omega, by omega⟩ | exact ⟨by decide, rfl⟩) rfl rfl rfl rfl dK_write_35 ?_
        refine lv_iload_n hx hb dK_write_38 rfl (lv_at hl 2 rfl) ?_
        refine lv_iload_n hx hb dK_write_39 rfl (lv_at hl 3 rfl) ?_
        refine s_iast hx hb hK hH hS (by first | exact ⟨rfl, rfl⟩ | exact ⟨by assumption, rfl⟩ | exact ⟨by assumption, by assumption⟩ | exact ⟨by omega, rfl⟩ | exact ⟨by omega, by omega⟩ | exact ⟨by decide, rfl⟩) rfl _ (by first | rfl | assumption) (by first | assumption | decide | omega) (by decide) rfl dK_write_40 (fun H locs hH hS => ?_)
        refine lv_iconst (v := 1) hx hb dK_write_41 (by decide) ?_
        exact r_z hx hb hr hlk hK hH hS dK_write_42 (by first | exact Or.inl rfl | exact Or.inr rfl | exact bz_01 _ | assumption) (by rw [cWrite, if_pos ⟨h_1, h_2⟩, hi]; first | (rw [if_pos h_3]; exact ⟨rfl, rfl⟩) | (rw [if_neg h_3]; exact ⟨rfl, rfl⟩) | (rw [hi2, if_pos h_3]; exact ⟨rfl, rfl⟩))
      · skip
        refine lv_iconst (v := 0) hx hb dK_write_27 (by decide) ?_
        exact r_z hx hb hr hlk hK hH hS dK_write_28 (by first | exact Or.inl rfl | exact Or.inr rfl | exact bz_01 _ | assumption) (by rw [cWrite, if_pos ⟨h_1, h_2⟩, hi]; first | (rw [if_pos h_3]; exact ⟨rfl, rfl⟩) | (rw [if_neg h_3]; exact ⟨rfl, rfl⟩) | (rw [hi2, if_pos h_3]; exact ⟨rfl, rfl⟩))
set_option maxHeartbeats 4000000 in
set_option maxRecDepth 100000 in
theorem c_K_faults (l : Launch) {D : va_G} {c : Nat → ClassId} {sz : Nat} {ad : gN → Nat} {k : Nat} {I J : gI} {P : gP} {LG : Option Nat} {LP : Option (Nat × Nat)}   : Met l yK_faults wK_faults { frames := 0, cells := 0, slots := 0, locals := 0 } (gPre D c sz [.ref (ad (0, 0, 0))] (ad, k, I, J, P, LG, LP)) (va_Qi (fun r u => r = I (0, 0, 0) 4 ∧ u = (ad, k, I, J, P, LG, LP)) (gB D c sz) (gA sz)) 0 0 (gA sz) := by
  refine Met.ofW (cc := cK_faults) (maxL := 1) (ret := (some .int)) (by decide) rfl ?_
  intro p e s m args below meth cd s₁ B hml hv
  obtain ⟨rfl, hK, hH⟩ := hv
  have hx := B.exec
  have hb := B.bytes
  have hr := B.returns
  have hts := atoms_spec (ws := wK_faults) B.pre
  have hw : ∀ w ∈ gWd, w.before _ s = true := fun w h => hts w (List.mem_cons_of_mem _ h)
  have hown : s.vm.findClass RK = some m.cls := findClass_of_methodNamed B.named
  have hlk := B.notSynchronized
  have hS : va_S (gA sz) s.heap s.heap [] := va_S.rf
  have hH : gW D c sz ad k I J P LG LP s.heap := hH
  have hl := lv_entry ([.ref (ad (0, 0, 0))]) (n := 1) (Nat.le_of_ble_eq_true rfl)
  rw [lg_entry_eq]
  generalize (lg_sl ([.ref (ad (0, 0, 0))]) ++ List.replicate (1 - (lg_sl ([.ref (ad (0, 0, 0))])).length) Slot.unset).toArray = ls at hl ⊢
  have hl : lv_has ls 1 [(0, .ref (ad (0, 0, 0)))] := hl
  refine lv_aload_n hx hb dK_faults_0 rfl (lv_at hl 0 rfl) ?_
  refine s_get hx hb hw inK hown hK hH 4 (by decide) (hw _ (gwd_0 (List.mem_of_getElem? (i := 45) rfl))) (by first | exact ⟨rfl, rfl⟩ | exact ⟨by assumption, rfl⟩ | exact ⟨by assumption, by assumption⟩ | exact ⟨by omega, rfl⟩ | exact ⟨by omega, by omega⟩ | exact ⟨by decide, rfl⟩) rfl rfl rfl rfl dK_faults_1 ?_
  exact r_i hx hb hr hlk hK hH hS dK_faults_4 (⟨rfl, rfl⟩)
set_option maxHeartbeats 4000000 in
set_option maxRecDepth 100000 in
theorem c_K_info (l : Launch) {D : va_G} {c : Nat → ClassId} {sz : Nat} {ad : gN → Nat} {k : Nat} {I J : gI} {P : gP} {LG : Option Nat} {LP : Option (Nat × Nat)}   : Met l yK_info wK_info { frames := 0, cells := 0, slots := 0, locals := 0 } (gPre D c sz [.ref (ad (0, 0, 0))] (ad, k, I, J, P, LG, LP)) (va_Qi (fun r u => r = I (0, 0, 0) 5 ∧ u = (ad, k, I, J, P, LG, LP)) (gB D c sz) (gA sz)) 0 0 (gA sz) := by
  refine Met.ofW (cc := cK_info) (maxL := 1) (ret := (some .int)) (by decide) rfl ?_
  intro p e s m args below meth cd s₁ B hml hv
  obtain ⟨rfl, hK, hH⟩ := hv
  have hx := B.exec
  have hb := B.bytes
  have hr := B.returns
  have hts := atoms_spec (ws := wK_info) B.pre
  have hw : ∀ w ∈ gWd, w.before _ s = true := fun w h => hts w (List.mem_cons_of_mem _ h)
  have hown : s.vm.findClass RK = some m.cls := findClass_of_methodNamed B.named
  have hlk := B.notSynchronized
  have hS : va_S (gA sz) s.heap s.heap [] := va_S.rf
  have hH : gW D c sz ad k I J P LG LP s.heap := hH
  have hl := lv_entry ([.ref (ad (0, 0, 0))]) (n := 1) (Nat.le_of_ble_eq_true rfl)
  rw [lg_entry_eq]
  generalize (lg_sl ([.ref (ad (0, 0, 0))]) ++ List.replicate (1 - (lg_sl ([.ref (ad (0, 0, 0))])).length) Slot.unset).toArray = ls at hl ⊢
  have hl : lv_has ls 1 [(0, .ref (ad (0, 0, 0)))] := hl
  refine lv_aload_n hx hb dK_info_0 rfl (lv_at hl 0 rfl) ?_
  refine s_get hx hb hw inK hown hK hH 5 (by decide) (hw _ (gwd_0 (List.mem_of_getElem? (i := 46) rfl))) (by first | exact ⟨rfl, rfl⟩ | exact ⟨by assumption, rfl⟩ | exact ⟨by assumption, by assumption⟩ | exact ⟨by omega, rfl⟩ | exact ⟨by omega, by omega⟩ | exact ⟨by decide, rfl⟩) rfl rfl rfl rfl dK_info_1 ?_
  exact r_i hx hb hr hlk hK hH hS dK_info_4 (⟨rfl, rfl⟩)
set_option maxHeartbeats 4000000 in
set_option maxRecDepth 100000 in
theorem c_K_feed (l : Launch) {D : va_G} {c : Nat → ClassId} {sz : Nat} {ad : gN → Nat} {k : Nat} {I J : gI} {P : gP} {LG : Option Nat} {LP : Option (Nat × Nat)} {a x : Int32} (hPl : ∀ g a q, P g a = some q → q < 24) : Met l yK_feed wK_feed { frames := 4, cells := 0, slots := 0, locals := 86 } (gPre D c sz [.ref (ad (0, 0, 0)), .int a, .int x] (ad, k, I, J, P, LG, LP)) (va_Qi (fun r u => r = (cFeed I k P a x).1 ∧ u = (ad, k, (cFeed I k P a x).2, J, P, LG, LP)) (gB D c sz) (gA sz)) 0 0 (gA sz) := by
  refine Met.ofW (cc := cK_feed) (maxL := 4) (ret := (some .int)) (by decide) rfl ?_
  intro p e s m args below meth cd s₁ B hml hv
  obtain ⟨rfl, hK, hH⟩ := hv
  have hx := B.exec
  have hb := B.bytes
  have hr := B.returns
  have hts := atoms_spec (ws := wK_feed) B.pre
  have hw : ∀ w ∈ gWd, w.before _ s = true := fun w h => hts w (List.mem_cons_of_mem _ h)
  have hown : s.vm.findClass RK = some m.cls := findClass_of_methodNamed B.named
  have hlk := B.notSynchronized
  have hS : va_S (gA sz) s.heap s.heap [] := va_S.rf
  have hH : gW D c sz ad k I J P LG LP s.heap := hH
  have hl := lv_entry ([.ref (ad (0, 0, 0)), .int a, .int x]) (n := 4) (Nat.le_of_ble_eq_true rfl)
  rw [lg_entry_eq]
  generalize (lg_sl ([.ref (ad (0, 0, 0)), .int a, .int x]) ++ List.replicate (4 - (lg_sl ([.ref (ad (0, 0, 0)), .int a, .int x])).length) Slot.unset).toArray = ls at hl ⊢
  have hl : lv_has ls 4 [(0, .ref (ad (0, 0, 0))), (1, .int a), (2, .int x)] := hl
  refine lv_aload_n hx hb dK_feed_0 rfl (lv_at hl 0 rfl) ?_
  refine lv_iload_n hx hb dK_feed_1 rfl (lv_at hl 1 rfl) ?_
  refine s_cqE (va_runV (As := [.int _]) (rest := []) ⟨hx, hb, hml, hown, hw⟩ (c_K_livingGuest l  ) (cwV 1 hw (gd_V (gwd_3 (List.mem_of_getElem? (i := 3) rfl)) (gwd_3 (List.mem_of_getElem? (i := 4) rfl)) (gwd_9 (List.mem_of_getElem? (i := 14) rfl)) (gwd_0 (List.mem_of_getElem? (i := 1) rfl)) (gwd_3 (List.mem_of_getElem? (i := 5) rfl))) rfl rfl rfl (by decide +kernel) ⟨Nat.le_of_ble_eq_true rfl, Nat.le_of_ble_eq_true rfl⟩) (gPre.V (n := (0, 0, 0)) hK hH (by first | exact ⟨rfl, rfl⟩ | exact ⟨by assumption, rfl⟩ | exact ⟨by assumption, by assumption⟩ | exact ⟨by omega, rfl⟩ | exact ⟨by omega, by omega⟩ | exact ⟨by decide, rfl⟩) rfl rfl) rfl rfl hl.1 rfl (lv_room (Nat.le_of_ble_eq_true rfl)) dK_feed_2 ⟨Nat.zero_le _, Nat.zero_le _⟩) hS (fun H locs h_1 hH hS => ?_) (fun H locs g_2 h_1 hH hS => ?_)
  · skip
    refine lv_astore_nN hx hb dK_feed_5 rfl hl (by decide) rfl (fun ls hl => ?_)
    have hl : lv_has ls 4 [(3, .null), (0, .ref _), (1, .int _), (2, .int _)] := hl
    refine lv_aload_nN hx hb dK_feed_6 rfl (lv_at hl 0 rfl) ?_
    refine lv_ifnonnullN hx hb dK_feed_7 ?_
    refine lv_iconst (v := -1) hx hb dK_feed_10 (by decide) ?_
    exact r_i hx hb hr hlk hK hH hS dK_feed_11 (by simp only [cFeed, h_1]; exact ⟨trivial, trivial⟩)
  · skip
    have hlt_g_2 : g_2 < k := sLiv_lt h_1
    refine lv_astore_n hx hb dK_feed_5 rfl hl (by decide) rfl (fun ls hl => ?_)
    have hl : lv_has ls 4 [(3, .ref _), (0, .ref _), (1, .int _), (2, .int _)] := hl
    refine lv_aload_n hx hb dK_feed_6 rfl (lv_at hl 0 rfl) ?_
    refine lv_ifnonnull hx hb dK_feed_7 rfl ?_
    refine lv_aload_n hx hb dK_feed_12 rfl (lv_at hl 1 rfl) ?_
    refine lv_iload_n hx hb dK_feed_13 rfl (lv_at hl 3 rfl) ?_
    refine s_ciE (va_runV (As := [.int _]) (rest := []) ⟨hx, hb, hml, hown, hw⟩ (c_K_isFreePage l  ) (cwV 1 hw (gd_V (gwd_1 (List.mem_of_getElem? (i := 39) rfl)) (gwd_1 (List.mem_of_getElem? (i := 40) rfl)) (gwd_9 (List.mem_of_getElem? (i := 13) rfl)) (gwd_0 (List.mem_of_getElem? (i := 1) rfl)) (gwd_1 (List.mem_of_getElem? (i := 41) rfl))) rfl rfl rfl (by decide +kernel) ⟨Nat.le_of_ble_eq_true rfl, Nat.le_of_ble_eq_true rfl⟩) (gPre.V (n := (0, 0, 0)) hK hH (by first | exact ⟨rfl, rfl⟩ | exact ⟨by assumption, rfl⟩ | exact ⟨by assumption, by assumption⟩ | exact ⟨by omega, rfl⟩ | exact ⟨by omega, by omega⟩ | exact ⟨by decide, rfl⟩) rfl rfl) rfl rfl hl.1 rfl (lv_room (Nat.le_of_ble_eq_true rfl)) dK_feed_14 ⟨Nat.zero_le _, Nat.zero_le _⟩) hS (fun H locs hH hS => ?_)
    refine s_ifne hx hb dK_feed_17 rfl (fun h_3 => ?_) (fun h_3 => ?_)
    · skip
      obtain ⟨j, hj, rfl⟩ := isP_ix (h_3).1
      have hi : ix (nI j) = j := ix_nI (by omega)
      refine lv_aload_n hx hb dK_feed_23 rfl (lv_at hl 1 rfl) ?_
      refine s_get hx hb hw inK hown hK hH 0 (by decide) (hw _ (gwd_0 (List.mem_of_getElem? (i := 41) rfl))) (by first | exact ⟨rfl, rfl⟩ | exact ⟨by assumption, rfl⟩ | exact ⟨by assumption, by assumption⟩ | exact ⟨by omega, rfl⟩ | exact ⟨by omega, by omega⟩ | exact ⟨by decide, rfl⟩) rfl rfl rfl rfl dK_feed_24 ?_
      refine lv_iload_n hx hb dK_feed_27 rfl (lv_at hl 3 rfl) ?_
      refine s_aaP hx hb hK hH _ (by first | rfl | assumption) (by first | assumption | decide | omega) dK_feed_28 ?_
      refine lv_iload_n hx hb dK_feed_29 rfl (lv_at hl 2 rfl) ?_
      refine s_cvE (va_runV (As := [.int _]) (rest := []) ⟨hx, hb, hml, hown, hw⟩ (c_P_becomeKeepers l  (by first | assumption | omega | decide)) (cwV 1 hw (gd_V (gwd_2 (List.mem_of_getElem? (i := 30) rfl)) (gwd_2 (List.mem_of_getElem? (i := 31) rfl)) (gwd_2 (List.mem_of_getElem? (i := 32) rfl)) (gwd_0 (List.mem_of_getElem? (i := 2) rfl)) (gwd_2 (List.mem_of_getElem? (i := 33) rfl))) rfl rfl rfl (by decide +kernel) ⟨Nat.le_of_ble_eq_true rfl, Nat.le_of_ble_eq_true rfl⟩) (gPre.V (n := (2, _, 0)) hK hH (by first | exact ⟨rfl, rfl⟩ | exact ⟨by assumption, rfl⟩ | exact ⟨by assumption, by assumption⟩ | exact ⟨by omega, rfl⟩ | exact ⟨by omega, by omega⟩ | exact ⟨by decide, rfl⟩) rfl rfl) rfl rfl hl.1 rfl (lv_room (Nat.le_of_ble_eq_true rfl)) dK_feed_30 ⟨Nat.zero_le _, Nat.zero_le _⟩) hS (fun H locs hH hS => ?_)
      refine lv_aload_n hx hb dK_feed_33 rfl (lv_at hl 0 rfl) ?_
      refine lv_dup hx hb dK_feed_34 rfl ?_
      refine s_get hx hb hw inG hown hK hH 5 (by decide) (hw _ (gwd_2 (List.mem_of_getElem? (i := 23) rfl))) (by first | exact ⟨rfl, rfl⟩ | exact ⟨by assumption, rfl⟩ | exact ⟨by assumption, by assumption⟩ | exact ⟨by omega, rfl⟩ | exact ⟨by omega, by omega⟩ | exact ⟨by decide, rfl⟩) rfl rfl rfl rfl dK_feed_35 ?_
      refine lv_iconst (v := 1) hx hb dK_feed_38 (by decide) ?_
      refine lv_iadd hx hb dK_feed_39 ?_
      refine s_put hx hb hw inG tyG_ok nG hown hK hH hS 5 (by decide) (hw _ (gwd_2 (List.mem_of_getElem? (i := 23) rfl))) (by first | exact ⟨rfl, rfl⟩ | exact ⟨by assumption, rfl⟩ | exact ⟨by assumption, by assumption⟩ | exact ⟨by omega, rfl⟩ | exact ⟨by omega, by omega⟩ | exact ⟨by decide, rfl⟩) rfl rfl rfl rfl rfl rfl rfl (Nat.le_of_ble_eq_true rfl) rfl dK_feed_40 (fun H locs hH hS => ?_)
      refine lv_aload_n hx hb dK_feed_43 rfl (lv_at hl 0 rfl) ?_
      refine s_ciE (va_runV (As := []) (rest := []) ⟨hx, hb, hml, hown, hw⟩ (c_G_poolSize l  (by assumption) (hPl)) (cwV 0 hw (gd_V (gwd_3 (List.mem_of_getElem? (i := 6) rfl)) (gwd_3 (List.mem_of_getElem? (i := 7) rfl)) (gwd_3 (List.mem_of_getElem? (i := 8) rfl)) (gwd_0 (List.mem_of_getElem? (i := 4) rfl)) (gwd_3 (List.mem_of_getElem? (i := 9) rfl))) rfl rfl rfl (by decide +kernel) ⟨Nat.le_of_ble_eq_true rfl, Nat.le_of_ble_eq_true rfl⟩) (gPre.V (n := (6, _, 0)) hK hH (by first | exact ⟨rfl, rfl⟩ | exact ⟨by assumption, rfl⟩ | exact ⟨by assumption, by assumption⟩ | exact ⟨by omega, rfl⟩ | exact ⟨by omega, by omega⟩ | exact ⟨by decide, rfl⟩) rfl rfl) rfl rfl hl.1 rfl (lv_room (Nat.le_of_ble_eq_true rfl)) dK_feed_44 ⟨Nat.zero_le _, Nat.zero_le _⟩) hS (fun H locs hH hS => ?_)
      exact r_i hx hb hr hlk hK hH hS dK_feed_47 (by simp only [cFeed, h_1]; first | (rw [if_pos h_3, hi]; exact ⟨rfl, rfl⟩) | (rw [if_neg h_3]; exact ⟨rfl, rfl⟩))
    · skip
      refine lv_bipush (v := -2) hx hb dK_feed_20 (by decide) ?_
      exact r_i hx hb hr hlk hK hH hS dK_feed_22 (by simp only [cFeed, h_1]; first | (rw [if_pos h_3, hi]; exact ⟨rfl, rfl⟩) | (rw [if_neg h_3]; exact ⟨rfl, rfl⟩))
theorem sRef_0 {I : gI} {P : gP} {g : Nat} {x y : Int32} (h : sRef I P g x y = 0) : sFree I x ∧ ¬ y < 0 ∧ ¬ 64 ≤ y ∧ P g (ix y) = none ∧ ¬ sPool I P g < sNew P g (ix y) := by
  unfold sRef at h
  by_cases h1 : sFree I x
  · rw [if_neg (fun q => q h1)] at h
    by_cases h2 : y < 0 ∨ 64 ≤ y ∨ ¬ P g (ix y) = none
    · rw [if_pos h2] at h
      exact absurd h (by decide)
    · rw [if_neg h2] at h
      by_cases h3 : sPool I P g < sNew P g (ix y)
      · rw [if_pos h3] at h
        exact absurd h (by decide)
      · refine ⟨h1, fun q => h2 (Or.inl q), fun q => h2 (Or.inr (Or.inl q)), ?_, h3⟩
        by_cases h4 : P g (ix y) = none
        · exact h4
        · exact absurd (Or.inr (Or.inr h4)) h2
  · rw [if_pos h1] at h
    exact absurd h (by decide)
set_option maxHeartbeats 4000000 in
set_option maxRecDepth 100000 in
theorem c_K_donate (l : Launch) {D : va_G} {c : Nat → ClassId} {sz : Nat} {ad : gN → Nat} {k : Nat} {I J : gI} {P : gP} {LG : Option Nat} {LP : Option (Nat × Nat)} {a x y : Int32} (hPl : ∀ g a q, P g a = some q → q < 24) : Met l yK_donate wK_donate { frames := 5, cells := 0, slots := 0, locals := 109 } (gPre D c sz [.ref (ad (0, 0, 0)), .int a, .int x, .int y] (ad, k, I, J, P, LG, LP)) (va_Qi (fun r u => r = (cDonate I k P a x y).1 ∧ u = (ad, k, (cDonate I k P a x y).2.1, J, (cDonate I k P a x y).2.2, LG, LP)) (gB D c sz) (gA sz)) 0 0 (gA sz) := by
  refine Met.ofW (cc := cK_donate) (maxL := 7) (ret := (some .int)) (by decide) rfl ?_
  intro p e s m args below meth cd s₁ B hml hv
  obtain ⟨rfl, hK, hH⟩ := hv
  have hx := B.exec
  have hb := B.bytes
  have hr := B.returns
  have hts := atoms_spec (ws := wK_donate) B.pre
  have hw : ∀ w ∈ gWd, w.before _ s = true := fun w h => hts w (List.mem_cons_of_mem _ h)
  have hown : s.vm.findClass RK = some m.cls := findClass_of_methodNamed B.named
  have hlk := B.notSynchronized
  have hS : va_S (gA sz) s.heap s.heap [] := va_S.rf
  have hH : gW D c sz ad k I J P LG LP s.heap := hH
  have hl := lv_entry ([.ref (ad (0, 0, 0)), .int a, .int x, .int y]) (n := 7) (Nat.le_of_ble_eq_true rfl)
  rw [lg_entry_eq]
  generalize (lg_sl ([.ref (ad (0, 0, 0)), .int a, .int x, .int y]) ++ List.replicate (7 - (lg_sl ([.ref (ad (0, 0, 0)), .int a, .int x, .int y])).length) Slot.unset).toArray = ls at hl ⊢
  have hl : lv_has ls 7 [(0, .ref (ad (0, 0, 0))), (1, .int a), (2, .int x), (3, .int y)] := hl
  refine lv_aload_n hx hb dK_donate_0 rfl (lv_at hl 0 rfl) ?_
  refine lv_iload_n hx hb dK_donate_1 rfl (lv_at hl 1 rfl) ?_
  refine s_cqE (va_runV (As := [.int _]) (rest := []) ⟨hx, hb, hml, hown, hw⟩ (c_K_livingGuest l  ) (cwV 1 hw (gd_V (gwd_3 (List.mem_of_getElem? (i := 3) rfl)) (gwd_3 (List.mem_of_getElem? (i := 4) rfl)) (gwd_9 (List.mem_of_getElem? (i := 14) rfl)) (gwd_0 (List.mem_of_getElem? (i := 1) rfl)) (gwd_3 (List.mem_of_getElem? (i := 5) rfl))) rfl rfl rfl (by decide +kernel) ⟨Nat.le_of_ble_eq_true rfl, Nat.le_of_ble_eq_true rfl⟩) (gPre.V (n := (0, 0, 0)) hK hH (by first | exact ⟨rfl, rfl⟩ | exact ⟨by assumption, rfl⟩ | exact ⟨by assumption, by assumption⟩ | exact ⟨by omega, rfl⟩ | exact ⟨by omega, by omega⟩ | exact ⟨by decide, rfl⟩) rfl rfl) rfl rfl hl.1 rfl (lv_room (Nat.le_of_ble_eq_true rfl)) dK_donate_2 ⟨Nat.zero_le _, Nat.zero_le _⟩) hS (fun H locs h_1 hH hS => ?_) (fun H locs g_2 h_1 hH hS => ?_)
  · skip
    refine lv_astoreN hx hb dK_donate_5 hl (by decide) rfl (fun ls hl => ?_)
    have hl : lv_has ls 7 [(4, .null), (0, .ref _), (1, .int _), (2, .int _), (3, .int _)] := hl
    refine lv_aload_n hx hb dK_donate_7 rfl (lv_at hl 1 rfl) ?_
    refine lv_aloadN hx hb dK_donate_8 (lv_at hl 0 rfl) ?_
    refine lv_iload_n hx hb dK_donate_10 rfl (lv_at hl 3 rfl) ?_
    refine lv_iload_n hx hb dK_donate_11 rfl (lv_at hl 4 rfl) ?_
    refine s_ciE (va_runV (As := [.null, .int _, .int _]) (rest := []) ⟨hx, hb, hml, hown, hw⟩ (c_K_placingRefusal0 l  ) (cwV 3 hw (gd_V (gwd_3 (List.mem_of_getElem? (i := 24) rfl)) (gwd_3 (List.mem_of_getElem? (i := 25) rfl)) (gwd_9 (List.mem_of_getElem? (i := 17) rfl)) (gwd_0 (List.mem_of_getElem? (i := 1) rfl)) (gwd_3 (List.mem_of_getElem? (i := 26) rfl))) rfl rfl rfl (by decide +kernel) ⟨Nat.le_of_ble_eq_true rfl, Nat.le_of_ble_eq_true rfl⟩) (gPre.V (n := (0, 0, 0)) hK hH (by first | exact ⟨rfl, rfl⟩ | exact ⟨by assumption, rfl⟩ | exact ⟨by assumption, by assumption⟩ | exact ⟨by omega, rfl⟩ | exact ⟨by omega, by omega⟩ | exact ⟨by decide, rfl⟩) rfl rfl) rfl rfl hl.1 rfl (lv_room (Nat.le_of_ble_eq_true rfl)) dK_donate_12 ⟨Nat.zero_le _, Nat.zero_le _⟩) hS (fun H locs hH hS => ?_)
    refine lv_istore hx hb dK_donate_15 hl (by decide) rfl (fun ls hl => ?_)
    have hl : lv_has ls 7 [(5, .int _), (4, .null), (0, .ref _), (1, .int _), (2, .int _), (3, .int _)] := hl
    refine lv_aloadN hx hb dK_donate_17 (lv_at hl 1 rfl) ?_
    refine lv_ifnullN hx hb dK_donate_19 rfl ?_
    refine lv_iload hx hb dK_donate_27 (lv_at hl 0 rfl) ?_
    exact r_i hx hb hr hlk hK hH hS dK_donate_29 (by simp only [cDonate, h_1]; exact ⟨trivial, trivial⟩)
  · skip
    have hlt_g_2 : g_2 < k := sLiv_lt h_1
    refine lv_astore hx hb dK_donate_5 hl (by decide) rfl (fun ls hl => ?_)
    have hl : lv_has ls 7 [(4, .ref _), (0, .ref _), (1, .int _), (2, .int _), (3, .int _)] := hl
    refine lv_aload_n hx hb dK_donate_7 rfl (lv_at hl 1 rfl) ?_
    refine lv_aload hx hb dK_donate_8 (lv_at hl 0 rfl) ?_
    refine lv_iload_n hx hb dK_donate_10 rfl (lv_at hl 3 rfl) ?_
    refine lv_iload_n hx hb dK_donate_11 rfl (lv_at hl 4 rfl) ?_
    refine s_ciE (va_runV (As := [.ref _, .int _, .int _]) (rest := []) ⟨hx, hb, hml, hown, hw⟩ (c_K_placingRefusal l  (by assumption) (hPl)) (cwV 3 hw (gd_V (gwd_3 (List.mem_of_getElem? (i := 24) rfl)) (gwd_3 (List.mem_of_getElem? (i := 25) rfl)) (gwd_9 (List.mem_of_getElem? (i := 17) rfl)) (gwd_0 (List.mem_of_getElem? (i := 1) rfl)) (gwd_3 (List.mem_of_getElem? (i := 26) rfl))) rfl rfl rfl (by decide +kernel) ⟨Nat.le_of_ble_eq_true rfl, Nat.le_of_ble_eq_true rfl⟩) (gPre.V (n := (0, 0, 0)) hK hH (by first | exact ⟨rfl, rfl⟩ | exact ⟨by assumption, rfl⟩ | exact ⟨by assumption, by assumption⟩ | exact ⟨by omega, rfl⟩ | exact ⟨by omega, by omega⟩ | exact ⟨by decide, rfl⟩) rfl rfl) rfl rfl hl.1 rfl (lv_room (Nat.le_of_ble_eq_true rfl)) dK_donate_12 ⟨Nat.zero_le _, Nat.zero_le _⟩) hS (fun H locs hH hS => ?_)
    refine lv_istore hx hb dK_donate_15 hl (by decide) rfl (fun ls hl => ?_)
    have hl : lv_has ls 7 [(5, .int _), (4, .ref _), (0, .ref _), (1, .int _), (2, .int _), (3, .int _)] := hl
    refine lv_aload hx hb dK_donate_17 (lv_at hl 1 rfl) ?_
    refine lv_ifnull hx hb dK_donate_19 ?_
    refine lv_iload hx hb dK_donate_22 (lv_at hl 0 rfl) ?_
    refine lv_if_eq hx hb dK_donate_24 rfl (fun h_3 => ?_) (fun h_3 => ?_)
    · skip
      obtain ⟨hf, hy0, hy1, hpn, hpl⟩ := sRef_0 h_3
      obtain ⟨j, hj, rfl⟩ := isP_ix hf.1
      have hi : ix (nI j) = j := ix_nI (by omega)
      obtain ⟨b, hb64, rfl⟩ := ix_lt 64 64 rfl (by decide) hy0 hy1
      have hib : ix (nI b) = b := ix_nI (by omega)
      refine lv_aload_n hx hb dK_donate_30 rfl (lv_at hl 2 rfl) ?_
      refine s_get hx hb hw inK hown hK hH 0 (by decide) (hw _ (gwd_0 (List.mem_of_getElem? (i := 41) rfl))) (by first | exact ⟨rfl, rfl⟩ | exact ⟨by assumption, rfl⟩ | exact ⟨by assumption, by assumption⟩ | exact ⟨by omega, rfl⟩ | exact ⟨by omega, by omega⟩ | exact ⟨by decide, rfl⟩) rfl rfl rfl rfl dK_donate_31 ?_
      refine lv_iload_n hx hb dK_donate_34 rfl (lv_at hl 4 rfl) ?_
      refine s_aaP hx hb hK hH _ (by first | rfl | assumption) (by first | assumption | decide | omega) dK_donate_35 ?_
      refine lv_astore hx hb dK_donate_36 hl (by decide) rfl (fun ls hl => ?_)
      have hl : lv_has ls 7 [(6, .ref _), (5, .int _), (4, .ref _), (0, .ref _), (1, .int _), (2, .int _), (3, .int _)] := hl
      refine lv_aload hx hb dK_donate_38 (lv_at hl 2 rfl) ?_
      refine s_get hx hb hw inG hown hK hH 4 (by decide) (hw _ (gwd_2 (List.mem_of_getElem? (i := 21) rfl))) (by first | exact ⟨rfl, rfl⟩ | exact ⟨by assumption, rfl⟩ | exact ⟨by assumption, by assumption⟩ | exact ⟨by omega, rfl⟩ | exact ⟨by omega, by omega⟩ | exact ⟨by decide, rfl⟩) rfl rfl rfl rfl dK_donate_40 ?_
      refine lv_if_eq hx hb dK_donate_43 rfl (fun h_4 => ?_) (fun h_4 => ?_)
      · skip
        refine lv_aload hx hb dK_donate_51 (lv_at hl 0 rfl) ?_
        refine lv_iload_n hx hb dK_donate_53 rfl (lv_at hl 4 rfl) ?_
        refine s_cvE (va_runV (As := [.int _]) (rest := []) ⟨hx, hb, hml, hown, hw⟩ (c_P_changeOwner l  (by first | assumption | omega | decide)) (cwV 1 hw (gd_V (gwd_3 (List.mem_of_getElem? (i := 32) rfl)) (gwd_2 (List.mem_of_getElem? (i := 39) rfl)) (gwd_2 (List.mem_of_getElem? (i := 40) rfl)) (gwd_0 (List.mem_of_getElem? (i := 2) rfl)) (gwd_2 (List.mem_of_getElem? (i := 41) rfl))) rfl rfl rfl (by decide +kernel) ⟨Nat.le_of_ble_eq_true rfl, Nat.le_of_ble_eq_true rfl⟩) (gPre.V (n := (2, _, 0)) hK hH (by first | exact ⟨rfl, rfl⟩ | exact ⟨by assumption, rfl⟩ | exact ⟨by assumption, by assumption⟩ | exact ⟨by omega, rfl⟩ | exact ⟨by omega, by omega⟩ | exact ⟨by decide, rfl⟩) rfl rfl) rfl rfl hl.1 rfl (lv_room (Nat.le_of_ble_eq_true rfl)) dK_donate_54 ⟨Nat.zero_le _, Nat.zero_le _⟩) hS (fun H locs hH hS => ?_)
        refine lv_aload hx hb dK_donate_57 (lv_at hl 2 rfl) ?_
        refine s_get hx hb hw inG hown hK hH 1 (by decide) (hw _ (gwd_2 (List.mem_of_getElem? (i := 16) rfl))) (by first | exact ⟨rfl, rfl⟩ | exact ⟨by assumption, rfl⟩ | exact ⟨by assumption, by assumption⟩ | exact ⟨by omega, rfl⟩ | exact ⟨by omega, by omega⟩ | exact ⟨by decide, rfl⟩) rfl rfl rfl rfl dK_donate_59 ?_
        refine lv_iload_n hx hb dK_donate_62 rfl (lv_at hl 6 rfl) ?_
        refine lv_aload hx hb dK_donate_63 (lv_at hl 0 rfl) ?_
        refine s_asL hx hb hK hH hS (by first | assumption | decide | omega) (by first | assumption | decide | omega) _ (by first | rfl | assumption) (by first | assumption | decide | omega) dK_donate_65 (fun H locs hH hS => ?_)
        refine lv_iconst (v := 0) hx hb dK_donate_66 (by decide) ?_
        exact r_i hx hb hr hlk hK hH hS dK_donate_67 (by simp only [cDonate, h_1]; rw [if_pos h_3, hi, hib]; first | (rw [if_pos h_4]; exact ⟨rfl, rfl⟩) | (rw [if_neg h_4]; exact ⟨rfl, rfl⟩))
      · skip
        refine lv_aload hx hb dK_donate_46 (lv_at hl 0 rfl) ?_
        refine s_cvE (va_runV (As := []) (rest := []) ⟨hx, hb, hml, hown, hw⟩ (c_P_wipe l  (by first | assumption | omega | decide)) (cwV 0 hw (gd_V (gwd_3 (List.mem_of_getElem? (i := 31) rfl)) (gwd_2 (List.mem_of_getElem? (i := 35) rfl)) (gwd_2 (List.mem_of_getElem? (i := 36) rfl)) (gwd_0 (List.mem_of_getElem? (i := 2) rfl)) (gwd_2 (List.mem_of_getElem? (i := 37) rfl))) rfl rfl rfl (by decide +kernel) ⟨Nat.le_of_ble_eq_true rfl, Nat.le_of_ble_eq_true rfl⟩) (gPre.V (n := (2, _, 0)) hK hH (by first | exact ⟨rfl, rfl⟩ | exact ⟨by assumption, rfl⟩ | exact ⟨by assumption, by assumption⟩ | exact ⟨by omega, rfl⟩ | exact ⟨by omega, by omega⟩ | exact ⟨by decide, rfl⟩) rfl rfl) rfl rfl hl.1 rfl (lv_room (Nat.le_of_ble_eq_true rfl)) dK_donate_48 ⟨Nat.zero_le _, Nat.zero_le _⟩) hS (fun H locs hH hS => ?_)
        refine lv_aload hx hb dK_donate_51 (lv_at hl 0 rfl) ?_
        refine lv_iload_n hx hb dK_donate_53 rfl (lv_at hl 4 rfl) ?_
        refine s_cvE (va_runV (As := [.int _]) (rest := []) ⟨hx, hb, hml, hown, hw⟩ (c_P_changeOwner l  (by first | assumption | omega | decide)) (cwV 1 hw (gd_V (gwd_3 (List.mem_of_getElem? (i := 32) rfl)) (gwd_2 (List.mem_of_getElem? (i := 39) rfl)) (gwd_2 (List.mem_of_getElem? (i := 40) rfl)) (gwd_0 (List.mem_of_getElem? (i := 2) rfl)) (gwd_2 (List.mem_of_getElem? (i := 41) rfl))) rfl rfl rfl (by decide +kernel) ⟨Nat.le_of_ble_eq_true rfl, Nat.le_of_ble_eq_true rfl⟩) (gPre.V (n := (2, _, 0)) hK hH (by first | exact ⟨rfl, rfl⟩ | exact ⟨by assumption, rfl⟩ | exact ⟨by assumption, by assumption⟩ | exact ⟨by omega, rfl⟩ | exact ⟨by omega, by omega⟩ | exact ⟨by decide, rfl⟩) rfl rfl) rfl rfl hl.1 rfl (lv_room (Nat.le_of_ble_eq_true rfl)) dK_donate_54 ⟨Nat.zero_le _, Nat.zero_le _⟩) hS (fun H locs hH hS => ?_)
        refine lv_aload hx hb dK_donate_57 (lv_at hl 2 rfl) ?_
        refine s_get hx hb hw inG hown hK hH 1 (by decide) (hw _ (gwd_2 (List.mem_of_getElem? (i := 16) rfl))) (by first | exact ⟨rfl, rfl⟩ | exact ⟨by assumption, rfl⟩ | exact ⟨by assumption, by assumption⟩ | exact ⟨by omega, rfl⟩ | exact ⟨by omega, by omega⟩ | exact ⟨by decide, rfl⟩) rfl rfl rfl rfl dK_donate_59 ?_
        refine lv_iload_n hx hb dK_donate_62 rfl (lv_at hl 6 rfl) ?_
        refine lv_aload hx hb dK_donate_63 (lv_at hl 0 rfl) ?_
        refine s_asL hx hb hK hH hS (by first | assumption | decide | omega) (by first | assumption | decide | omega) _ (by first | rfl | assumption) (by first | assumption | decide | omega) dK_donate_65 (fun H locs hH hS => ?_)
        refine lv_iconst (v := 0) hx hb dK_donate_66 (by decide) ?_
        exact r_i hx hb hr hlk hK hH hS dK_donate_67 (by simp only [cDonate, h_1]; rw [if_pos h_3, hi, hib]; first | (rw [if_pos h_4]; exact ⟨rfl, rfl⟩) | (rw [if_neg h_4]; exact ⟨rfl, rfl⟩))
    · skip
      refine lv_iload hx hb dK_donate_27 (lv_at hl 0 rfl) ?_
      exact r_i hx hb hr hlk hK hH hS dK_donate_29 (by simp only [cDonate, h_1]; rw [if_neg h_3]; exact ⟨rfl, rfl⟩)
set_option maxHeartbeats 4000000 in
set_option maxRecDepth 100000 in
theorem c_K_lend (l : Launch) {D : va_G} {c : Nat → ClassId} {sz : Nat} {ad : gN → Nat} {k : Nat} {I J : gI} {P : gP} {LG : Option Nat} {LP : Option (Nat × Nat)} {a x y : Int32} (hPl : ∀ g a q, P g a = some q → q < 24) : Met l yK_lend wK_lend { frames := 5, cells := 0, slots := 0, locals := 109 } (gPre D c sz [.ref (ad (0, 0, 0)), .int a, .int x, .int y] (ad, k, I, J, P, LG, LP)) (va_Qi (fun r u => r = (cLend I k P a x y).1 ∧ u = (ad, k, (cLend I k P a x y).2.1, J, (cLend I k P a x y).2.2, LG, LP)) (gB D c sz) (gA sz)) 0 0 (gA sz) := by
  refine Met.ofW (cc := cK_lend) (maxL := 6) (ret := (some .int)) (by decide) rfl ?_
  intro p e s m args below meth cd s₁ B hml hv
  obtain ⟨rfl, hK, hH⟩ := hv
  have hx := B.exec
  have hb := B.bytes
  have hr := B.returns
  have hts := atoms_spec (ws := wK_lend) B.pre
  have hw : ∀ w ∈ gWd, w.before _ s = true := fun w h => hts w (List.mem_cons_of_mem _ h)
  have hown : s.vm.findClass RK = some m.cls := findClass_of_methodNamed B.named
  have hlk := B.notSynchronized
  have hS : va_S (gA sz) s.heap s.heap [] := va_S.rf
  have hH : gW D c sz ad k I J P LG LP s.heap := hH
  have hl := lv_entry ([.ref (ad (0, 0, 0)), .int a, .int x, .int y]) (n := 6) (Nat.le_of_ble_eq_true rfl)
  rw [lg_entry_eq]
  generalize (lg_sl ([.ref (ad (0, 0, 0)), .int a, .int x, .int y]) ++ List.replicate (6 - (lg_sl ([.ref (ad (0, 0, 0)), .int a, .int x, .int y])).length) Slot.unset).toArray = ls at hl ⊢
  have hl : lv_has ls 6 [(0, .ref (ad (0, 0, 0))), (1, .int a), (2, .int x), (3, .int y)] := hl
  refine lv_aload_n hx hb dK_lend_0 rfl (lv_at hl 0 rfl) ?_
  refine lv_iload_n hx hb dK_lend_1 rfl (lv_at hl 1 rfl) ?_
  refine s_cqE (va_runV (As := [.int _]) (rest := []) ⟨hx, hb, hml, hown, hw⟩ (c_K_livingGuest l  ) (cwV 1 hw (gd_V (gwd_3 (List.mem_of_getElem? (i := 3) rfl)) (gwd_3 (List.mem_of_getElem? (i := 4) rfl)) (gwd_9 (List.mem_of_getElem? (i := 14) rfl)) (gwd_0 (List.mem_of_getElem? (i := 1) rfl)) (gwd_3 (List.mem_of_getElem? (i := 5) rfl))) rfl rfl rfl (by decide +kernel) ⟨Nat.le_of_ble_eq_true rfl, Nat.le_of_ble_eq_true rfl⟩) (gPre.V (n := (0, 0, 0)) hK hH (by first | exact ⟨rfl, rfl⟩ | exact ⟨by assumption, rfl⟩ | exact ⟨by assumption, by assumption⟩ | exact ⟨by omega, rfl⟩ | exact ⟨by omega, by omega⟩ | exact ⟨by decide, rfl⟩) rfl rfl) rfl rfl hl.1 rfl (lv_room (Nat.le_of_ble_eq_true rfl)) dK_lend_2 ⟨Nat.zero_le _, Nat.zero_le _⟩) hS (fun H locs h_1 hH hS => ?_) (fun H locs g_2 h_1 hH hS => ?_)
  · skip
    refine lv_astoreN hx hb dK_lend_5 hl (by decide) rfl (fun ls hl => ?_)
    have hl : lv_has ls 6 [(4, .null), (0, .ref _), (1, .int _), (2, .int _), (3, .int _)] := hl
    refine lv_aload_n hx hb dK_lend_7 rfl (lv_at hl 1 rfl) ?_
    refine lv_aloadN hx hb dK_lend_8 (lv_at hl 0 rfl) ?_
    refine lv_iload_n hx hb dK_lend_10 rfl (lv_at hl 3 rfl) ?_
    refine lv_iload_n hx hb dK_lend_11 rfl (lv_at hl 4 rfl) ?_
    refine s_ciE (va_runV (As := [.null, .int _, .int _]) (rest := []) ⟨hx, hb, hml, hown, hw⟩ (c_K_placingRefusal0 l  ) (cwV 3 hw (gd_V (gwd_3 (List.mem_of_getElem? (i := 24) rfl)) (gwd_3 (List.mem_of_getElem? (i := 25) rfl)) (gwd_9 (List.mem_of_getElem? (i := 17) rfl)) (gwd_0 (List.mem_of_getElem? (i := 1) rfl)) (gwd_3 (List.mem_of_getElem? (i := 26) rfl))) rfl rfl rfl (by decide +kernel) ⟨Nat.le_of_ble_eq_true rfl, Nat.le_of_ble_eq_true rfl⟩) (gPre.V (n := (0, 0, 0)) hK hH (by first | exact ⟨rfl, rfl⟩ | exact ⟨by assumption, rfl⟩ | exact ⟨by assumption, by assumption⟩ | exact ⟨by omega, rfl⟩ | exact ⟨by omega, by omega⟩ | exact ⟨by decide, rfl⟩) rfl rfl) rfl rfl hl.1 rfl (lv_room (Nat.le_of_ble_eq_true rfl)) dK_lend_12 ⟨Nat.zero_le _, Nat.zero_le _⟩) hS (fun H locs hH hS => ?_)
    refine lv_istore hx hb dK_lend_15 hl (by decide) rfl (fun ls hl => ?_)
    have hl : lv_has ls 6 [(5, .int _), (4, .null), (0, .ref _), (1, .int _), (2, .int _), (3, .int _)] := hl
    refine lv_aloadN hx hb dK_lend_17 (lv_at hl 1 rfl) ?_
    refine lv_ifnullN hx hb dK_lend_19 rfl ?_
    refine lv_iload hx hb dK_lend_27 (lv_at hl 0 rfl) ?_
    exact r_i hx hb hr hlk hK hH hS dK_lend_29 (by simp only [cLend, h_1]; exact ⟨trivial, trivial⟩)
  · skip
    have hlt_g_2 : g_2 < k := sLiv_lt h_1
    refine lv_astore hx hb dK_lend_5 hl (by decide) rfl (fun ls hl => ?_)
    have hl : lv_has ls 6 [(4, .ref _), (0, .ref _), (1, .int _), (2, .int _), (3, .int _)] := hl
    refine lv_aload_n hx hb dK_lend_7 rfl (lv_at hl 1 rfl) ?_
    refine lv_aload hx hb dK_lend_8 (lv_at hl 0 rfl) ?_
    refine lv_iload_n hx hb dK_lend_10 rfl (lv_at hl 3 rfl) ?_
    refine lv_iload_n hx hb dK_lend_11 rfl (lv_at hl 4 rfl) ?_
    refine s_ciE (va_runV (As := [.ref _, .int _, .int _]) (rest := []) ⟨hx, hb, hml, hown, hw⟩ (c_K_placingRefusal l  (by assumption) (hPl)) (cwV 3 hw (gd_V (gwd_3 (List.mem_of_getElem? (i := 24) rfl)) (gwd_3 (List.mem_of_getElem? (i := 25) rfl)) (gwd_9 (List.mem_of_getElem? (i := 17) rfl)) (gwd_0 (List.mem_of_getElem? (i := 1) rfl)) (gwd_3 (List.mem_of_getElem? (i := 26) rfl))) rfl rfl rfl (by decide +kernel) ⟨Nat.le_of_ble_eq_true rfl, Nat.le_of_ble_eq_true rfl⟩) (gPre.V (n := (0, 0, 0)) hK hH (by first | exact ⟨rfl, rfl⟩ | exact ⟨by assumption, rfl⟩ | exact ⟨by assumption, by assumption⟩ | exact ⟨by omega, rfl⟩ | exact ⟨by omega, by omega⟩ | exact ⟨by decide, rfl⟩) rfl rfl) rfl rfl hl.1 rfl (lv_room (Nat.le_of_ble_eq_true rfl)) dK_lend_12 ⟨Nat.zero_le _, Nat.zero_le _⟩) hS (fun H locs hH hS => ?_)
    refine lv_istore hx hb dK_lend_15 hl (by decide) rfl (fun ls hl => ?_)
    have hl : lv_has ls 6 [(5, .int _), (4, .ref _), (0, .ref _), (1, .int _), (2, .int _), (3, .int _)] := hl
    refine lv_aload hx hb dK_lend_17 (lv_at hl 1 rfl) ?_
    refine lv_ifnull hx hb dK_lend_19 ?_
    refine lv_iload hx hb dK_lend_22 (lv_at hl 0 rfl) ?_
    refine lv_if_eq hx hb dK_lend_24 rfl (fun h_3 => ?_) (fun h_3 => ?_)
    · skip
      obtain ⟨hf, hy0, hy1, hpn, hpl⟩ := sRef_0 h_3
      obtain ⟨j, hj, rfl⟩ := isP_ix hf.1
      have hi : ix (nI j) = j := ix_nI (by omega)
      obtain ⟨b, hb64, rfl⟩ := ix_lt 64 64 rfl (by decide) hy0 hy1
      have hib : ix (nI b) = b := ix_nI (by omega)
      refine lv_aload_n hx hb dK_lend_30 rfl (lv_at hl 2 rfl) ?_
      refine s_get hx hb hw inK hown hK hH 0 (by decide) (hw _ (gwd_0 (List.mem_of_getElem? (i := 41) rfl))) (by first | exact ⟨rfl, rfl⟩ | exact ⟨by assumption, rfl⟩ | exact ⟨by assumption, by assumption⟩ | exact ⟨by omega, rfl⟩ | exact ⟨by omega, by omega⟩ | exact ⟨by decide, rfl⟩) rfl rfl rfl rfl dK_lend_31 ?_
      refine lv_iload_n hx hb dK_lend_34 rfl (lv_at hl 4 rfl) ?_
      refine s_aaP hx hb hK hH _ (by first | rfl | assumption) (by first | assumption | decide | omega) dK_lend_35 ?_
      refine lv_iload_n hx hb dK_lend_36 rfl (lv_at hl 3 rfl) ?_
      refine s_put hx hb hw inP tyP_ok nP hown hK hH hS 2 (by decide) (hw _ (gwd_0 (List.mem_of_getElem? (i := 26) rfl))) (by first | exact ⟨rfl, rfl⟩ | exact ⟨by assumption, rfl⟩ | exact ⟨by assumption, by assumption⟩ | exact ⟨by omega, rfl⟩ | exact ⟨by omega, by omega⟩ | exact ⟨by decide, rfl⟩) rfl rfl rfl rfl rfl rfl rfl (Nat.le_of_ble_eq_true rfl) rfl dK_lend_37 (fun H locs hH hS => ?_)
      refine lv_aload hx hb dK_lend_40 (lv_at hl 1 rfl) ?_
      refine s_get hx hb hw inG hown hK hH 1 (by decide) (hw _ (gwd_2 (List.mem_of_getElem? (i := 16) rfl))) (by first | exact ⟨rfl, rfl⟩ | exact ⟨by assumption, rfl⟩ | exact ⟨by assumption, by assumption⟩ | exact ⟨by omega, rfl⟩ | exact ⟨by omega, by omega⟩ | exact ⟨by decide, rfl⟩) rfl rfl rfl rfl dK_lend_42 ?_
      refine lv_iload_n hx hb dK_lend_45 rfl (lv_at hl 5 rfl) ?_
      refine lv_aload_n hx hb dK_lend_46 rfl (lv_at hl 2 rfl) ?_
      refine s_get hx hb hw inK hown hK hH 0 (by decide) (hw _ (gwd_0 (List.mem_of_getElem? (i := 41) rfl))) (by first | exact ⟨rfl, rfl⟩ | exact ⟨by assumption, rfl⟩ | exact ⟨by assumption, by assumption⟩ | exact ⟨by omega, rfl⟩ | exact ⟨by omega, by omega⟩ | exact ⟨by decide, rfl⟩) rfl rfl rfl rfl dK_lend_47 ?_
      refine lv_iload_n hx hb dK_lend_50 rfl (lv_at hl 4 rfl) ?_
      refine s_aaP hx hb hK hH _ (by first | rfl | assumption) (by first | assumption | decide | omega) dK_lend_51 ?_
      refine s_asL hx hb hK hH hS (by first | assumption | decide | omega) (by first | assumption | decide | omega) _ (by first | rfl | assumption) (by first | assumption | decide | omega) dK_lend_52 (fun H locs hH hS => ?_)
      refine lv_iconst (v := 0) hx hb dK_lend_53 (by decide) ?_
      exact r_i hx hb hr hlk hK hH hS dK_lend_54 (by simp only [cLend, h_1]; first | (rw [if_neg h_3]; exact ⟨rfl, rfl⟩) | (rw [if_pos h_3, hi, hib]; exact ⟨rfl, rfl⟩))
    · skip
      refine lv_iload hx hb dK_lend_27 (lv_at hl 0 rfl) ?_
      exact r_i hx hb hr hlk hK hH hS dK_lend_29 (by simp only [cLend, h_1]; first | (rw [if_neg h_3]; exact ⟨rfl, rfl⟩) | (rw [if_pos h_3, hi, hib]; exact ⟨rfl, rfl⟩))
set_option maxHeartbeats 4000000 in
set_option maxRecDepth 100000 in
theorem c_K_takeBack (l : Launch) {D : va_G} {c : Nat → ClassId} {sz : Nat} {ad : gN → Nat} {k : Nat} {I J : gI} {P : gP} {LG : Option Nat} {LP : Option (Nat × Nat)} {x : Int32} (hPl : ∀ g a q, P g a = some q → q < 24) : Met l yK_takeBack wK_takeBack { frames := 1, cells := 0, slots := 0, locals := 22 } (gPre D c sz [.ref (ad (0, 0, 0)), .int x] (ad, k, I, J, P, LG, LP)) (va_Qi (fun r u => r = (cTake I k P x).1 ∧ u = (ad, k, (cTake I k P x).2.1, J, (cTake I k P x).2.2, LG, LP)) (gB D c sz) (gA sz)) 0 0 (gA sz) := by
  refine Met.ofW (cc := cK_takeBack) (maxL := 4) (ret := (some .boolean)) (by decide) rfl ?_
  intro p e s m args below meth cd s₁ B hml hv
  obtain ⟨rfl, hK, hH⟩ := hv
  have hx := B.exec
  have hb := B.bytes
  have hr := B.returns
  have hts := atoms_spec (ws := wK_takeBack) B.pre
  have hw : ∀ w ∈ gWd, w.before _ s = true := fun w h => hts w (List.mem_cons_of_mem _ h)
  have hown : s.vm.findClass RK = some m.cls := findClass_of_methodNamed B.named
  have hlk := B.notSynchronized
  have hS : va_S (gA sz) s.heap s.heap [] := va_S.rf
  have hH : gW D c sz ad k I J P LG LP s.heap := hH
  have hl := lv_entry ([.ref (ad (0, 0, 0)), .int x]) (n := 4) (Nat.le_of_ble_eq_true rfl)
  rw [lg_entry_eq]
  generalize (lg_sl ([.ref (ad (0, 0, 0)), .int x]) ++ List.replicate (4 - (lg_sl ([.ref (ad (0, 0, 0)), .int x])).length) Slot.unset).toArray = ls at hl ⊢
  have hl : lv_has ls 4 [(0, .ref (ad (0, 0, 0))), (1, .int x)] := hl
  refine lv_iload_n hx hb dK_takeBack_0 rfl (lv_at hl 1 rfl) ?_
  refine s_ciE (va_runS (As := [.int _]) (rest := []) ⟨hx, hb, hml, hown, hw⟩ (c_K_isPage l  ) (cwS 1 hw (gd_S (gwd_1 (List.mem_of_getElem? (i := 13) rfl)) (gwd_1 (List.mem_of_getElem? (i := 14) rfl)) (gwd_0 (List.mem_of_getElem? (i := 1) rfl)) (gwd_1 (List.mem_of_getElem? (i := 15) rfl))) rfl rfl rfl (by decide +kernel) ⟨Nat.le_of_ble_eq_true rfl, Nat.le_of_ble_eq_true rfl⟩) (gPre.S hK hH) rfl rfl hl.1 rfl (lv_room (Nat.le_of_ble_eq_true rfl)) dK_takeBack_1 ⟨Nat.zero_le _, Nat.zero_le _⟩) hS (fun H locs hH hS => ?_)
  refine s_ifeq hx hb dK_takeBack_4 rfl (fun h_1 => ?_) (fun h_1 => ?_)
  · skip
    refine lv_iconst (v := 0) hx hb dK_takeBack_19 (by decide) ?_
    exact r_z hx hb hr hlk hK hH hS dK_takeBack_20 (by first | exact Or.inl rfl | exact Or.inr rfl | exact bz_01 _ | assumption) (by rw [cTake, if_neg (fun q => h_1 q.1)]; exact ⟨rfl, rfl⟩)
  · skip
    obtain ⟨j, hj, rfl⟩ := isP_ix h_1
    have hi : ix (nI j) = j := ix_nI (by omega)
    refine lv_aload_n hx hb dK_takeBack_7 rfl (lv_at hl 0 rfl) ?_
    refine s_get hx hb hw inK hown hK hH 0 (by decide) (hw _ (gwd_0 (List.mem_of_getElem? (i := 41) rfl))) (by first | exact ⟨rfl, rfl⟩ | exact ⟨by assumption, rfl⟩ | exact ⟨by assumption, by assumption⟩ | exact ⟨by omega, rfl⟩ | exact ⟨by omega, by omega⟩ | exact ⟨by decide, rfl⟩) rfl rfl rfl rfl dK_takeBack_8 ?_
    refine lv_iload_n hx hb dK_takeBack_11 rfl (lv_at hl 1 rfl) ?_
    refine s_aaP hx hb hK hH _ (by first | rfl | assumption) (by first | assumption | decide | omega) dK_takeBack_12 ?_
    refine s_get hx hb hw inP hown hK hH 2 (by decide) (hw _ (gwd_0 (List.mem_of_getElem? (i := 26) rfl))) (by first | exact ⟨rfl, rfl⟩ | exact ⟨by assumption, rfl⟩ | exact ⟨by assumption, by assumption⟩ | exact ⟨by omega, rfl⟩ | exact ⟨by omega, by omega⟩ | exact ⟨by decide, rfl⟩) rfl rfl rfl rfl dK_takeBack_13 ?_
    refine lv_if_ne hx hb dK_takeBack_16 rfl (fun h_2 => ?_) (fun h_2 => ?_)
    · skip
      refine lv_aload_n hx hb dK_takeBack_21 rfl (lv_at hl 0 rfl) ?_
      refine s_get hx hb hw inK hown hK hH 0 (by decide) (hw _ (gwd_0 (List.mem_of_getElem? (i := 41) rfl))) (by first | exact ⟨rfl, rfl⟩ | exact ⟨by assumption, rfl⟩ | exact ⟨by assumption, by assumption⟩ | exact ⟨by omega, rfl⟩ | exact ⟨by omega, by omega⟩ | exact ⟨by decide, rfl⟩) rfl rfl rfl rfl dK_takeBack_22 ?_
      refine lv_iload_n hx hb dK_takeBack_25 rfl (lv_at hl 1 rfl) ?_
      refine s_aaP hx hb hK hH _ (by first | rfl | assumption) (by first | assumption | decide | omega) dK_takeBack_26 ?_
      refine lv_astore_n hx hb dK_takeBack_27 rfl hl (by decide) rfl (fun ls hl => ?_)
      have hl : lv_has ls 4 [(2, .ref _), (0, .ref _), (1, .int _)] := hl
      refine lv_aload_n hx hb dK_takeBack_28 rfl (lv_at hl 1 rfl) ?_
      refine lv_aload_n hx hb dK_takeBack_29 rfl (lv_at hl 0 rfl) ?_
      refine s_get hx hb hw inP hown hK hH 2 (by decide) (hw _ (gwd_0 (List.mem_of_getElem? (i := 26) rfl))) (by first | exact ⟨rfl, rfl⟩ | exact ⟨by assumption, rfl⟩ | exact ⟨by assumption, by assumption⟩ | exact ⟨by omega, rfl⟩ | exact ⟨by omega, by omega⟩ | exact ⟨by decide, rfl⟩) rfl rfl rfl rfl dK_takeBack_30 ?_
      refine s_cqE (va_runV (As := [.int _]) (rest := []) ⟨hx, hb, hml, hown, hw⟩ (c_K_livingGuest l  ) (cwV 1 hw (gd_V (gwd_3 (List.mem_of_getElem? (i := 3) rfl)) (gwd_3 (List.mem_of_getElem? (i := 4) rfl)) (gwd_9 (List.mem_of_getElem? (i := 14) rfl)) (gwd_0 (List.mem_of_getElem? (i := 1) rfl)) (gwd_3 (List.mem_of_getElem? (i := 5) rfl))) rfl rfl rfl (by decide +kernel) ⟨Nat.le_of_ble_eq_true rfl, Nat.le_of_ble_eq_true rfl⟩) (gPre.V (n := (0, 0, 0)) hK hH (by first | exact ⟨rfl, rfl⟩ | exact ⟨by assumption, rfl⟩ | exact ⟨by assumption, by assumption⟩ | exact ⟨by omega, rfl⟩ | exact ⟨by omega, by omega⟩ | exact ⟨by decide, rfl⟩) rfl rfl) rfl rfl hl.1 rfl (lv_room (Nat.le_of_ble_eq_true rfl)) dK_takeBack_33 ⟨Nat.zero_le _, Nat.zero_le _⟩) hS (fun H locs h_3 hH hS => ?_) (fun H locs g_4 h_3 hH hS => ?_)
      · skip
        refine lv_astore_nN hx hb dK_takeBack_36 rfl hl (by decide) rfl (fun ls hl => ?_)
        have hl : lv_has ls 4 [(3, .null), (2, .ref _), (0, .ref _), (1, .int _)] := hl
        refine lv_aload_nN hx hb dK_takeBack_37 rfl (lv_at hl 0 rfl) ?_
        refine lv_ifnullN hx hb dK_takeBack_38 rfl ?_
        refine lv_aload_n hx hb dK_takeBack_46 rfl (lv_at hl 1 rfl) ?_
        refine lv_iconst (v := 0) hx hb dK_takeBack_47 (by decide) ?_
        refine s_put hx hb hw inP tyP_ok nP hown hK hH hS 2 (by decide) (hw _ (gwd_0 (List.mem_of_getElem? (i := 26) rfl))) (by first | exact ⟨rfl, rfl⟩ | exact ⟨by assumption, rfl⟩ | exact ⟨by assumption, by assumption⟩ | exact ⟨by omega, rfl⟩ | exact ⟨by omega, by omega⟩ | exact ⟨by decide, rfl⟩) rfl rfl rfl rfl rfl rfl rfl (Nat.le_of_ble_eq_true rfl) rfl dK_takeBack_48 (fun H locs hH hS => ?_)
        refine lv_iconst (v := 1) hx hb dK_takeBack_51 (by decide) ?_
        exact r_z hx hb hr hlk hK hH hS dK_takeBack_52 (by first | exact Or.inl rfl | exact Or.inr rfl | exact bz_01 _ | assumption) (by rw [cTake, if_pos ⟨h_1, by rw [hi]; exact h_2⟩, hi]; simp only [h_3]; exact ⟨trivial, trivial⟩)
      · skip
        have hlt_g_4 : g_4 < k := sLiv_lt h_3
        refine lv_astore_n hx hb dK_takeBack_36 rfl hl (by decide) rfl (fun ls hl => ?_)
        have hl : lv_has ls 4 [(3, .ref _), (2, .ref _), (0, .ref _), (1, .int _)] := hl
        refine lv_aload_n hx hb dK_takeBack_37 rfl (lv_at hl 0 rfl) ?_
        refine lv_ifnull hx hb dK_takeBack_38 ?_
        refine lv_aload_n hx hb dK_takeBack_41 rfl (lv_at hl 0 rfl) ?_
        refine lv_aload_n hx hb dK_takeBack_42 rfl (lv_at hl 1 rfl) ?_
        refine s_cvE (va_runV (As := [.ref _]) (rest := []) ⟨hx, hb, hml, hown, hw⟩ (c_G_removePage l  (by assumption) (by assumption) (hPl)) (cwV 1 hw (gd_V (gwd_3 (List.mem_of_getElem? (i := 41) rfl)) (gwd_3 (List.mem_of_getElem? (i := 42) rfl)) (gwd_3 (List.mem_of_getElem? (i := 43) rfl)) (gwd_0 (List.mem_of_getElem? (i := 4) rfl)) (gwd_3 (List.mem_of_getElem? (i := 44) rfl))) rfl rfl rfl (by decide +kernel) ⟨Nat.le_of_ble_eq_true rfl, Nat.le_of_ble_eq_true rfl⟩) (gPre.V (n := (6, _, 0)) hK hH (by first | exact ⟨rfl, rfl⟩ | exact ⟨by assumption, rfl⟩ | exact ⟨by assumption, by assumption⟩ | exact ⟨by omega, rfl⟩ | exact ⟨by omega, by omega⟩ | exact ⟨by decide, rfl⟩) rfl rfl) rfl rfl hl.1 rfl (lv_room (Nat.le_of_ble_eq_true rfl)) dK_takeBack_43 ⟨Nat.zero_le _, Nat.zero_le _⟩) hS (fun H locs hH hS => ?_)
        refine lv_aload_n hx hb dK_takeBack_46 rfl (lv_at hl 1 rfl) ?_
        refine lv_iconst (v := 0) hx hb dK_takeBack_47 (by decide) ?_
        refine s_put hx hb hw inP tyP_ok nP hown hK hH hS 2 (by decide) (hw _ (gwd_0 (List.mem_of_getElem? (i := 26) rfl))) (by first | exact ⟨rfl, rfl⟩ | exact ⟨by assumption, rfl⟩ | exact ⟨by assumption, by assumption⟩ | exact ⟨by omega, rfl⟩ | exact ⟨by omega, by omega⟩ | exact ⟨by decide, rfl⟩) rfl rfl rfl rfl rfl rfl rfl (Nat.le_of_ble_eq_true rfl) rfl dK_takeBack_48 (fun H locs hH hS => ?_)
        refine lv_iconst (v := 1) hx hb dK_takeBack_51 (by decide) ?_
        exact r_z hx hb hr hlk hK hH hS dK_takeBack_52 (by first | exact Or.inl rfl | exact Or.inr rfl | exact bz_01 _ | assumption) (by rw [cTake, if_pos ⟨h_1, by rw [hi]; exact h_2⟩, hi]; simp only [h_3]; exact ⟨trivial, trivial⟩)
    · skip
      refine lv_iconst (v := 0) hx hb dK_takeBack_19 (by decide) ?_
      exact r_z hx hb hr hlk hK hH hS dK_takeBack_20 (by first | exact Or.inl rfl | exact Or.inr rfl | exact bz_01 _ | assumption) (by rw [cTake, if_neg (fun q => q.2 (by rw [hi]; exact h_2))]; exact ⟨rfl, rfl⟩)
set_option maxHeartbeats 4000000 in
set_option maxRecDepth 100000 in
theorem c_K_reclaim (l : Launch) {D : va_G} {c : Nat → ClassId} {sz : Nat} {ad : gN → Nat} {k : Nat} {I J : gI} {P : gP} {LG : Option Nat} {LP : Option (Nat × Nat)} {x : Int32}  : Met l yK_reclaim wK_reclaim { frames := 3, cells := 0, slots := 0, locals := 62 } (gPre D c sz [.ref (ad (0, 0, 0)), .int x] (ad, k, I, J, P, LG, LP)) (va_Qi (fun r u => r = (cReclaim I x).1 ∧ u = (ad, k, (cReclaim I x).2, J, P, LG, LP)) (gB D c sz) (gA sz)) 0 0 (gA sz) := by
  refine Met.ofW (cc := cK_reclaim) (maxL := 2) (ret := (some .boolean)) (by decide) rfl ?_
  intro p e s m args below meth cd s₁ B hml hv
  obtain ⟨rfl, hK, hH⟩ := hv
  have hx := B.exec
  have hb := B.bytes
  have hr := B.returns
  have hts := atoms_spec (ws := wK_reclaim) B.pre
  have hw : ∀ w ∈ gWd, w.before _ s = true := fun w h => hts w (List.mem_cons_of_mem _ h)
  have hown : s.vm.findClass RK = some m.cls := findClass_of_methodNamed B.named
  have hlk := B.notSynchronized
  have hS : va_S (gA sz) s.heap s.heap [] := va_S.rf
  have hH : gW D c sz ad k I J P LG LP s.heap := hH
  have hl := lv_entry ([.ref (ad (0, 0, 0)), .int x]) (n := 2) (Nat.le_of_ble_eq_true rfl)
  rw [lg_entry_eq]
  generalize (lg_sl ([.ref (ad (0, 0, 0)), .int x]) ++ List.replicate (2 - (lg_sl ([.ref (ad (0, 0, 0)), .int x])).length) Slot.unset).toArray = ls at hl ⊢
  have hl : lv_has ls 2 [(0, .ref (ad (0, 0, 0))), (1, .int x)] := hl
  refine lv_iload_n hx hb dK_reclaim_0 rfl (lv_at hl 1 rfl) ?_
  refine s_ciE (va_runS (As := [.int _]) (rest := []) ⟨hx, hb, hml, hown, hw⟩ (c_K_isPage l  ) (cwS 1 hw (gd_S (gwd_1 (List.mem_of_getElem? (i := 13) rfl)) (gwd_1 (List.mem_of_getElem? (i := 14) rfl)) (gwd_0 (List.mem_of_getElem? (i := 1) rfl)) (gwd_1 (List.mem_of_getElem? (i := 15) rfl))) rfl rfl rfl (by decide +kernel) ⟨Nat.le_of_ble_eq_true rfl, Nat.le_of_ble_eq_true rfl⟩) (gPre.S hK hH) rfl rfl hl.1 rfl (lv_room (Nat.le_of_ble_eq_true rfl)) dK_reclaim_1 ⟨Nat.zero_le _, Nat.zero_le _⟩) hS (fun H locs hH hS => ?_)
  refine s_ifeq hx hb dK_reclaim_4 rfl (fun h_1 => ?_) (fun h_1 => ?_)
  · skip
    refine lv_iconst (v := 0) hx hb dK_reclaim_21 (by decide) ?_
    exact r_z hx hb hr hlk hK hH hS dK_reclaim_22 (by first | exact Or.inl rfl | exact Or.inr rfl | exact bz_01 _ | assumption) (by rw [cReclaim, if_neg (fun q => h_1 q.1)]; exact ⟨rfl, rfl⟩)
  · skip
    obtain ⟨j, hj, rfl⟩ := isP_ix h_1
    have hi : ix (nI j) = j := ix_nI (by omega)
    refine lv_aload_n hx hb dK_reclaim_7 rfl (lv_at hl 0 rfl) ?_
    refine s_get hx hb hw inK hown hK hH 0 (by decide) (hw _ (gwd_0 (List.mem_of_getElem? (i := 41) rfl))) (by first | exact ⟨rfl, rfl⟩ | exact ⟨by assumption, rfl⟩ | exact ⟨by assumption, by assumption⟩ | exact ⟨by omega, rfl⟩ | exact ⟨by omega, by omega⟩ | exact ⟨by decide, rfl⟩) rfl rfl rfl rfl dK_reclaim_8 ?_
    refine lv_iload_n hx hb dK_reclaim_11 rfl (lv_at hl 1 rfl) ?_
    refine s_aaP hx hb hK hH _ (by first | rfl | assumption) (by first | assumption | decide | omega) dK_reclaim_12 ?_
    refine s_get hx hb hw inP hown hK hH 1 (by decide) (hw _ (gwd_0 (List.mem_of_getElem? (i := 24) rfl))) (by first | exact ⟨rfl, rfl⟩ | exact ⟨by assumption, rfl⟩ | exact ⟨by assumption, by assumption⟩ | exact ⟨by omega, rfl⟩ | exact ⟨by omega, by omega⟩ | exact ⟨by decide, rfl⟩) rfl rfl rfl rfl dK_reclaim_13 ?_
    refine lv_bipush (v := 8) hx hb dK_reclaim_16 (by decide) ?_
    refine lv_icmp_eq hx hb dK_reclaim_18 rfl (fun h_2 => ?_) (fun h_2 => ?_)
    · skip
      refine lv_aload_n hx hb dK_reclaim_23 rfl (lv_at hl 0 rfl) ?_
      refine s_get hx hb hw inK hown hK hH 0 (by decide) (hw _ (gwd_0 (List.mem_of_getElem? (i := 41) rfl))) (by first | exact ⟨rfl, rfl⟩ | exact ⟨by assumption, rfl⟩ | exact ⟨by assumption, by assumption⟩ | exact ⟨by omega, rfl⟩ | exact ⟨by omega, by omega⟩ | exact ⟨by decide, rfl⟩) rfl rfl rfl rfl dK_reclaim_24 ?_
      refine lv_iload_n hx hb dK_reclaim_27 rfl (lv_at hl 1 rfl) ?_
      refine s_aaP hx hb hK hH _ (by first | rfl | assumption) (by first | assumption | decide | omega) dK_reclaim_28 ?_
      refine s_cvE (va_runV (As := []) (rest := []) ⟨hx, hb, hml, hown, hw⟩ (c_P_wipe l  (by first | assumption | omega | decide)) (cwV 0 hw (gd_V (gwd_3 (List.mem_of_getElem? (i := 31) rfl)) (gwd_2 (List.mem_of_getElem? (i := 35) rfl)) (gwd_2 (List.mem_of_getElem? (i := 36) rfl)) (gwd_0 (List.mem_of_getElem? (i := 2) rfl)) (gwd_2 (List.mem_of_getElem? (i := 37) rfl))) rfl rfl rfl (by decide +kernel) ⟨Nat.le_of_ble_eq_true rfl, Nat.le_of_ble_eq_true rfl⟩) (gPre.V (n := (2, _, 0)) hK hH (by first | exact ⟨rfl, rfl⟩ | exact ⟨by assumption, rfl⟩ | exact ⟨by assumption, by assumption⟩ | exact ⟨by omega, rfl⟩ | exact ⟨by omega, by omega⟩ | exact ⟨by decide, rfl⟩) rfl rfl) rfl rfl hl.1 rfl (lv_room (Nat.le_of_ble_eq_true rfl)) dK_reclaim_29 ⟨Nat.zero_le _, Nat.zero_le _⟩) hS (fun H locs hH hS => ?_)
      refine lv_aload_n hx hb dK_reclaim_32 rfl (lv_at hl 0 rfl) ?_
      refine s_get hx hb hw inK hown hK hH 0 (by decide) (hw _ (gwd_0 (List.mem_of_getElem? (i := 41) rfl))) (by first | exact ⟨rfl, rfl⟩ | exact ⟨by assumption, rfl⟩ | exact ⟨by assumption, by assumption⟩ | exact ⟨by omega, rfl⟩ | exact ⟨by omega, by omega⟩ | exact ⟨by decide, rfl⟩) rfl rfl rfl rfl dK_reclaim_33 ?_
      refine lv_iload_n hx hb dK_reclaim_36 rfl (lv_at hl 1 rfl) ?_
      refine s_aaP hx hb hK hH _ (by first | rfl | assumption) (by first | assumption | decide | omega) dK_reclaim_37 ?_
      refine lv_iconst (v := 0) hx hb dK_reclaim_38 (by decide) ?_
      refine s_cvE (va_runV (As := [.int _]) (rest := []) ⟨hx, hb, hml, hown, hw⟩ (c_P_changeOwner l  (by first | assumption | omega | decide)) (cwV 1 hw (gd_V (gwd_3 (List.mem_of_getElem? (i := 32) rfl)) (gwd_2 (List.mem_of_getElem? (i := 39) rfl)) (gwd_2 (List.mem_of_getElem? (i := 40) rfl)) (gwd_0 (List.mem_of_getElem? (i := 2) rfl)) (gwd_2 (List.mem_of_getElem? (i := 41) rfl))) rfl rfl rfl (by decide +kernel) ⟨Nat.le_of_ble_eq_true rfl, Nat.le_of_ble_eq_true rfl⟩) (gPre.V (n := (2, _, 0)) hK hH (by first | exact ⟨rfl, rfl⟩ | exact ⟨by assumption, rfl⟩ | exact ⟨by assumption, by assumption⟩ | exact ⟨by omega, rfl⟩ | exact ⟨by omega, by omega⟩ | exact ⟨by decide, rfl⟩) rfl rfl) rfl rfl hl.1 rfl (lv_room (Nat.le_of_ble_eq_true rfl)) dK_reclaim_39 ⟨Nat.zero_le _, Nat.zero_le _⟩) hS (fun H locs hH hS => ?_)
      refine lv_iconst (v := 1) hx hb dK_reclaim_42 (by decide) ?_
      exact r_z hx hb hr hlk hK hH hS dK_reclaim_43 (by first | exact Or.inl rfl | exact Or.inr rfl | exact bz_01 _ | assumption) (by first | (rw [cReclaim, if_neg (fun q => h_2 (by rw [← hi]; exact q.2))]; exact ⟨rfl, rfl⟩) | (rw [cReclaim, if_pos ⟨h_1, by rw [hi]; exact h_2⟩, hi]; exact ⟨rfl, rfl⟩))
    · skip
      refine lv_iconst (v := 0) hx hb dK_reclaim_21 (by decide) ?_
      exact r_z hx hb hr hlk hK hH hS dK_reclaim_22 (by first | exact Or.inl rfl | exact Or.inr rfl | exact bz_01 _ | assumption) (by first | (rw [cReclaim, if_neg (fun q => h_2 (by rw [← hi]; exact q.2))]; exact ⟨rfl, rfl⟩) | (rw [cReclaim, if_pos ⟨h_1, by rw [hi]; exact h_2⟩, hi]; exact ⟨rfl, rfl⟩))
set_option maxHeartbeats 4000000 in
set_option maxRecDepth 100000 in
theorem c_K_owner (l : Launch) {D : va_G} {c : Nat → ClassId} {sz : Nat} {ad : gN → Nat} {k : Nat} {I J : gI} {P : gP} {LG : Option Nat} {LP : Option (Nat × Nat)} {x : Int32}  : Met l yK_owner wK_owner { frames := 1, cells := 0, slots := 0, locals := 20 } (gPre D c sz [.ref (ad (0, 0, 0)), .int x] (ad, k, I, J, P, LG, LP)) (va_Qi (fun r u => r = cOwner I x ∧ u = (ad, k, I, J, P, LG, LP)) (gB D c sz) (gA sz)) 0 0 (gA sz) := by
  refine Met.ofW (cc := cK_owner) (maxL := 2) (ret := (some .int)) (by decide) rfl ?_
  intro p e s m args below meth cd s₁ B hml hv
  obtain ⟨rfl, hK, hH⟩ := hv
  have hx := B.exec
  have hb := B.bytes
  have hr := B.returns
  have hts := atoms_spec (ws := wK_owner) B.pre
  have hw : ∀ w ∈ gWd, w.before _ s = true := fun w h => hts w (List.mem_cons_of_mem _ h)
  have hown : s.vm.findClass RK = some m.cls := findClass_of_methodNamed B.named
  have hlk := B.notSynchronized
  have hS : va_S (gA sz) s.heap s.heap [] := va_S.rf
  have hH : gW D c sz ad k I J P LG LP s.heap := hH
  have hl := lv_entry ([.ref (ad (0, 0, 0)), .int x]) (n := 2) (Nat.le_of_ble_eq_true rfl)
  rw [lg_entry_eq]
  generalize (lg_sl ([.ref (ad (0, 0, 0)), .int x]) ++ List.replicate (2 - (lg_sl ([.ref (ad (0, 0, 0)), .int x])).length) Slot.unset).toArray = ls at hl ⊢
  have hl : lv_has ls 2 [(0, .ref (ad (0, 0, 0))), (1, .int x)] := hl
  refine lv_iload_n hx hb dK_owner_0 rfl (lv_at hl 1 rfl) ?_
  refine s_ciE (va_runS (As := [.int _]) (rest := []) ⟨hx, hb, hml, hown, hw⟩ (c_K_isPage l  ) (cwS 1 hw (gd_S (gwd_1 (List.mem_of_getElem? (i := 13) rfl)) (gwd_1 (List.mem_of_getElem? (i := 14) rfl)) (gwd_0 (List.mem_of_getElem? (i := 1) rfl)) (gwd_1 (List.mem_of_getElem? (i := 15) rfl))) rfl rfl rfl (by decide +kernel) ⟨Nat.le_of_ble_eq_true rfl, Nat.le_of_ble_eq_true rfl⟩) (gPre.S hK hH) rfl rfl hl.1 rfl (lv_room (Nat.le_of_ble_eq_true rfl)) dK_owner_1 ⟨Nat.zero_le _, Nat.zero_le _⟩) hS (fun H locs hH hS => ?_)
  refine s_ifeq hx hb dK_owner_4 rfl (fun h_1 => ?_) (fun h_1 => ?_)
  · skip
    refine lv_iconst (v := -1) hx hb dK_owner_19 (by decide) ?_
    exact r_i hx hb hr hlk hK hH hS dK_owner_20 (⟨by first | rw [cOwner, if_neg h_1] | rw [cOwner, if_pos h_1, hi], rfl⟩)
  · skip
    obtain ⟨j, hj, rfl⟩ := isP_ix h_1
    have hi : ix (nI j) = j := ix_nI (by omega)
    refine lv_aload_n hx hb dK_owner_7 rfl (lv_at hl 0 rfl) ?_
    refine s_get hx hb hw inK hown hK hH 0 (by decide) (hw _ (gwd_0 (List.mem_of_getElem? (i := 41) rfl))) (by first | exact ⟨rfl, rfl⟩ | exact ⟨by assumption, rfl⟩ | exact ⟨by assumption, by assumption⟩ | exact ⟨by omega, rfl⟩ | exact ⟨by omega, by omega⟩ | exact ⟨by decide, rfl⟩) rfl rfl rfl rfl dK_owner_8 ?_
    refine lv_iload_n hx hb dK_owner_11 rfl (lv_at hl 1 rfl) ?_
    refine s_aaP hx hb hK hH _ (by first | rfl | assumption) (by first | assumption | decide | omega) dK_owner_12 ?_
    refine s_get hx hb hw inP hown hK hH 1 (by decide) (hw _ (gwd_0 (List.mem_of_getElem? (i := 24) rfl))) (by first | exact ⟨rfl, rfl⟩ | exact ⟨by assumption, rfl⟩ | exact ⟨by assumption, by assumption⟩ | exact ⟨by omega, rfl⟩ | exact ⟨by omega, by omega⟩ | exact ⟨by decide, rfl⟩) rfl rfl rfl rfl dK_owner_13 ?_
    refine lv_goto hx hb dK_owner_16 rfl ?_
    exact r_i hx hb hr hlk hK hH hS dK_owner_20 (⟨by first | rw [cOwner, if_neg h_1] | rw [cOwner, if_pos h_1, hi], rfl⟩)
set_option maxHeartbeats 4000000 in
set_option maxRecDepth 100000 in
theorem c_K_state (l : Launch) {D : va_G} {c : Nat → ClassId} {sz : Nat} {ad : gN → Nat} {k : Nat} {I J : gI} {P : gP} {LG : Option Nat} {LP : Option (Nat × Nat)} {x : Int32}  : Met l yK_state wK_state { frames := 1, cells := 0, slots := 0, locals := 20 } (gPre D c sz [.ref (ad (0, 0, 0)), .int x] (ad, k, I, J, P, LG, LP)) (va_Qi (fun r u => r = cState I x ∧ u = (ad, k, I, J, P, LG, LP)) (gB D c sz) (gA sz)) 0 0 (gA sz) := by
  refine Met.ofW (cc := cK_state) (maxL := 4) (ret := (some .int)) (by decide) rfl ?_
  intro p e s m args below meth cd s₁ B hml hv
  obtain ⟨rfl, hK, hH⟩ := hv
  have hx := B.exec
  have hb := B.bytes
  have hr := B.returns
  have hts := atoms_spec (ws := wK_state) B.pre
  have hw : ∀ w ∈ gWd, w.before _ s = true := fun w h => hts w (List.mem_cons_of_mem _ h)
  have hown : s.vm.findClass RK = some m.cls := findClass_of_methodNamed B.named
  have hlk := B.notSynchronized
  have hS : va_S (gA sz) s.heap s.heap [] := va_S.rf
  have hH : gW D c sz ad k I J P LG LP s.heap := hH
  have hl := lv_entry ([.ref (ad (0, 0, 0)), .int x]) (n := 4) (Nat.le_of_ble_eq_true rfl)
  rw [lg_entry_eq]
  generalize (lg_sl ([.ref (ad (0, 0, 0)), .int x]) ++ List.replicate (4 - (lg_sl ([.ref (ad (0, 0, 0)), .int x])).length) Slot.unset).toArray = ls at hl ⊢
  have hl : lv_has ls 4 [(0, .ref (ad (0, 0, 0))), (1, .int x)] := hl
  refine lv_iload_n hx hb dK_state_0 rfl (lv_at hl 1 rfl) ?_
  refine s_ciE (va_runS (As := [.int _]) (rest := []) ⟨hx, hb, hml, hown, hw⟩ (c_K_isPage l  ) (cwS 1 hw (gd_S (gwd_1 (List.mem_of_getElem? (i := 13) rfl)) (gwd_1 (List.mem_of_getElem? (i := 14) rfl)) (gwd_0 (List.mem_of_getElem? (i := 1) rfl)) (gwd_1 (List.mem_of_getElem? (i := 15) rfl))) rfl rfl rfl (by decide +kernel) ⟨Nat.le_of_ble_eq_true rfl, Nat.le_of_ble_eq_true rfl⟩) (gPre.S hK hH) rfl rfl hl.1 rfl (lv_room (Nat.le_of_ble_eq_true rfl)) dK_state_1 ⟨Nat.zero_le _, Nat.zero_le _⟩) hS (fun H locs hH hS => ?_)
  refine s_ifne hx hb dK_state_4 rfl (fun h_1 => ?_) (fun h_1 => ?_)
  · skip
    obtain ⟨j, hj, rfl⟩ := isP_ix h_1
    have hi : ix (nI j) = j := ix_nI (by omega)
    refine lv_aload_n hx hb dK_state_9 rfl (lv_at hl 0 rfl) ?_
    refine s_get hx hb hw inK hown hK hH 0 (by decide) (hw _ (gwd_0 (List.mem_of_getElem? (i := 41) rfl))) (by first | exact ⟨rfl, rfl⟩ | exact ⟨by assumption, rfl⟩ | exact ⟨by assumption, by assumption⟩ | exact ⟨by omega, rfl⟩ | exact ⟨by omega, by omega⟩ | exact ⟨by decide, rfl⟩) rfl rfl rfl rfl dK_state_10 ?_
    refine lv_iload_n hx hb dK_state_13 rfl (lv_at hl 1 rfl) ?_
    refine s_aaP hx hb hK hH _ (by first | rfl | assumption) (by first | assumption | decide | omega) dK_state_14 ?_
    refine lv_astore_n hx hb dK_state_15 rfl hl (by decide) rfl (fun ls hl => ?_)
    have hl : lv_has ls 4 [(2, .ref _), (0, .ref _), (1, .int _)] := hl
    refine lv_aload_n hx hb dK_state_16 rfl (lv_at hl 0 rfl) ?_
    refine s_get hx hb hw inP hown hK hH 4 (by decide) (hw _ (gwd_0 (List.mem_of_getElem? (i := 30) rfl))) (by first | exact ⟨rfl, rfl⟩ | exact ⟨by assumption, rfl⟩ | exact ⟨by assumption, by assumption⟩ | exact ⟨by omega, rfl⟩ | exact ⟨by omega, by omega⟩ | exact ⟨by decide, rfl⟩) rfl rfl rfl rfl dK_state_17 ?_
    refine lv_if_ne hx hb dK_state_20 rfl (fun h_2 => ?_) (fun h_2 => ?_)
    · skip
      refine lv_iconst (v := 1) hx hb dK_state_30 (by decide) ?_
      refine lv_goto hx hb dK_state_31 rfl ?_
      refine lv_istore_n hx hb dK_state_35 rfl hl (by decide) rfl (fun ls hl => ?_)
      have hl : lv_has ls 4 [(3, .int _), (2, .ref _), (0, .ref _), (1, .int _)] := hl
      refine lv_aload_n hx hb dK_state_36 rfl (lv_at hl 1 rfl) ?_
      refine s_get hx hb hw inP hown hK hH 5 (by decide) (hw _ (gwd_0 (List.mem_of_getElem? (i := 32) rfl))) (by first | exact ⟨rfl, rfl⟩ | exact ⟨by assumption, rfl⟩ | exact ⟨by assumption, by assumption⟩ | exact ⟨by omega, rfl⟩ | exact ⟨by omega, by omega⟩ | exact ⟨by decide, rfl⟩) rfl rfl rfl rfl dK_state_37 ?_
      refine lv_if_eq hx hb dK_state_40 rfl (fun h_3 => ?_) (fun h_3 => ?_)
      · skip
        refine lv_iload_n hx hb dK_state_49 rfl (lv_at hl 0 rfl) ?_
        exact r_i hx hb hr hlk hK hH hS dK_state_50 (⟨by first | (rw [cState, if_neg h_1]; done) | (rw [cState, if_pos h_1, hi]; simp [h_2, h_3]), rfl⟩)
      · skip
        refine lv_iload_n hx hb dK_state_43 rfl (lv_at hl 0 rfl) ?_
        refine lv_iconst (v := 2) hx hb dK_state_44 (by decide) ?_
        refine lv_iadd hx hb dK_state_45 ?_
        refine lv_goto hx hb dK_state_46 rfl ?_
        exact r_i hx hb hr hlk hK hH hS dK_state_50 (⟨by first | (rw [cState, if_neg h_1]; done) | (rw [cState, if_pos h_1, hi]; simp [h_2, h_3]), rfl⟩)
    · skip
      refine lv_aload_n hx hb dK_state_23 rfl (lv_at hl 0 rfl) ?_
      refine s_get hx hb hw inP hown hK hH 2 (by decide) (hw _ (gwd_0 (List.mem_of_getElem? (i := 26) rfl))) (by first | exact ⟨rfl, rfl⟩ | exact ⟨by assumption, rfl⟩ | exact ⟨by assumption, by assumption⟩ | exact ⟨by omega, rfl⟩ | exact ⟨by omega, by omega⟩ | exact ⟨by decide, rfl⟩) rfl rfl rfl rfl dK_state_24 ?_
      refine lv_if_eq hx hb dK_state_27 rfl (fun h_4 => ?_) (fun h_4 => ?_)
      · skip
        refine lv_iconst (v := 0) hx hb dK_state_34 (by decide) ?_
        refine lv_istore_n hx hb dK_state_35 rfl hl (by decide) rfl (fun ls hl => ?_)
        have hl : lv_has ls 4 [(3, .int _), (2, .ref _), (0, .ref _), (1, .int _)] := hl
        refine lv_aload_n hx hb dK_state_36 rfl (lv_at hl 1 rfl) ?_
        refine s_get hx hb hw inP hown hK hH 5 (by decide) (hw _ (gwd_0 (List.mem_of_getElem? (i := 32) rfl))) (by first | exact ⟨rfl, rfl⟩ | exact ⟨by assumption, rfl⟩ | exact ⟨by assumption, by assumption⟩ | exact ⟨by omega, rfl⟩ | exact ⟨by omega, by omega⟩ | exact ⟨by decide, rfl⟩) rfl rfl rfl rfl dK_state_37 ?_
        refine lv_if_eq hx hb dK_state_40 rfl (fun h_5 => ?_) (fun h_5 => ?_)
        · skip
          refine lv_iload_n hx hb dK_state_49 rfl (lv_at hl 0 rfl) ?_
          exact r_i hx hb hr hlk hK hH hS dK_state_50 (⟨by first | (rw [cState, if_neg h_1]; done) | (rw [cState, if_pos h_1, hi]; simp [h_2, h_4, h_5]), rfl⟩)
        · skip
          refine lv_iload_n hx hb dK_state_43 rfl (lv_at hl 0 rfl) ?_
          refine lv_iconst (v := 2) hx hb dK_state_44 (by decide) ?_
          refine lv_iadd hx hb dK_state_45 ?_
          refine lv_goto hx hb dK_state_46 rfl ?_
          exact r_i hx hb hr hlk hK hH hS dK_state_50 (⟨by first | (rw [cState, if_neg h_1]; done) | (rw [cState, if_pos h_1, hi]; simp [h_2, h_4, h_5]), rfl⟩)
      · skip
        refine lv_iconst (v := 1) hx hb dK_state_30 (by decide) ?_
        refine lv_goto hx hb dK_state_31 rfl ?_
        refine lv_istore_n hx hb dK_state_35 rfl hl (by decide) rfl (fun ls hl => ?_)
        have hl : lv_has ls 4 [(3, .int _), (2, .ref _), (0, .ref _), (1, .int _)] := hl
        refine lv_aload_n hx hb dK_state_36 rfl (lv_at hl 1 rfl) ?_
        refine s_get hx hb hw inP hown hK hH 5 (by decide) (hw _ (gwd_0 (List.mem_of_getElem? (i := 32) rfl))) (by first | exact ⟨rfl, rfl⟩ | exact ⟨by assumption, rfl⟩ | exact ⟨by assumption, by assumption⟩ | exact ⟨by omega, rfl⟩ | exact ⟨by omega, by omega⟩ | exact ⟨by decide, rfl⟩) rfl rfl rfl rfl dK_state_37 ?_
        refine lv_if_eq hx hb dK_state_40 rfl (fun h_6 => ?_) (fun h_6 => ?_)
        · skip
          refine lv_iload_n hx hb dK_state_49 rfl (lv_at hl 0 rfl) ?_
          exact r_i hx hb hr hlk hK hH hS dK_state_50 (⟨by first | (rw [cState, if_neg h_1]; done) | (rw [cState, if_pos h_1, hi]; simp [h_2, h_4, h_6]), rfl⟩)
        · skip
          refine lv_iload_n hx hb dK_state_43 rfl (lv_at hl 0 rfl) ?_
          refine lv_iconst (v := 2) hx hb dK_state_44 (by decide) ?_
          refine lv_iadd hx hb dK_state_45 ?_
          refine lv_goto hx hb dK_state_46 rfl ?_
          exact r_i hx hb hr hlk hK hH hS dK_state_50 (⟨by first | (rw [cState, if_neg h_1]; done) | (rw [cState, if_pos h_1, hi]; simp [h_2, h_4, h_6]), rfl⟩)
  · skip
    refine lv_iconst (v := -1) hx hb dK_state_7 (by decide) ?_
    exact r_i hx hb hr hlk hK hH hS dK_state_8 (⟨by first | (rw [cState, if_neg h_1]; done) | (rw [cState, if_pos h_1, hi]; simp []), rfl⟩)
set_option maxHeartbeats 4000000 in
set_option maxRecDepth 100000 in
theorem c_K_pool (l : Launch) {D : va_G} {c : Nat → ClassId} {sz : Nat} {ad : gN → Nat} {k : Nat} {I J : gI} {P : gP} {LG : Option Nat} {LP : Option (Nat × Nat)} {a : Int32} (hPl : ∀ g a q, P g a = some q → q < 24) : Met l yK_pool wK_pool { frames := 4, cells := 0, slots := 0, locals := 86 } (gPre D c sz [.ref (ad (0, 0, 0)), .int a] (ad, k, I, J, P, LG, LP)) (va_Qi (fun r u => r = cPool I k P a ∧ u = (ad, k, I, J, P, LG, LP)) (gB D c sz) (gA sz)) 0 0 (gA sz) := by
  refine Met.ofW (cc := cK_pool) (maxL := 3) (ret := (some .int)) (by decide) rfl ?_
  intro p e s m args below meth cd s₁ B hml hv
  obtain ⟨rfl, hK, hH⟩ := hv
  have hx := B.exec
  have hb := B.bytes
  have hr := B.returns
  have hts := atoms_spec (ws := wK_pool) B.pre
  have hw : ∀ w ∈ gWd, w.before _ s = true := fun w h => hts w (List.mem_cons_of_mem _ h)
  have hown : s.vm.findClass RK = some m.cls := findClass_of_methodNamed B.named
  have hlk := B.notSynchronized
  have hS : va_S (gA sz) s.heap s.heap [] := va_S.rf
  have hH : gW D c sz ad k I J P LG LP s.heap := hH
  have hl := lv_entry ([.ref (ad (0, 0, 0)), .int a]) (n := 3) (Nat.le_of_ble_eq_true rfl)
  rw [lg_entry_eq]
  generalize (lg_sl ([.ref (ad (0, 0, 0)), .int a]) ++ List.replicate (3 - (lg_sl ([.ref (ad (0, 0, 0)), .int a])).length) Slot.unset).toArray = ls at hl ⊢
  have hl : lv_has ls 3 [(0, .ref (ad (0, 0, 0))), (1, .int a)] := hl
  refine lv_aload_n hx hb dK_pool_0 rfl (lv_at hl 0 rfl) ?_
  refine lv_iload_n hx hb dK_pool_1 rfl (lv_at hl 1 rfl) ?_
  refine s_cqE (va_runV (As := [.int _]) (rest := []) ⟨hx, hb, hml, hown, hw⟩ (c_K_livingGuest l  ) (cwV 1 hw (gd_V (gwd_3 (List.mem_of_getElem? (i := 3) rfl)) (gwd_3 (List.mem_of_getElem? (i := 4) rfl)) (gwd_9 (List.mem_of_getElem? (i := 14) rfl)) (gwd_0 (List.mem_of_getElem? (i := 1) rfl)) (gwd_3 (List.mem_of_getElem? (i := 5) rfl))) rfl rfl rfl (by decide +kernel) ⟨Nat.le_of_ble_eq_true rfl, Nat.le_of_ble_eq_true rfl⟩) (gPre.V (n := (0, 0, 0)) hK hH (by first | exact ⟨rfl, rfl⟩ | exact ⟨by assumption, rfl⟩ | exact ⟨by assumption, by assumption⟩ | exact ⟨by omega, rfl⟩ | exact ⟨by omega, by omega⟩ | exact ⟨by decide, rfl⟩) rfl rfl) rfl rfl hl.1 rfl (lv_room (Nat.le_of_ble_eq_true rfl)) dK_pool_2 ⟨Nat.zero_le _, Nat.zero_le _⟩) hS (fun H locs h_1 hH hS => ?_) (fun H locs g_2 h_1 hH hS => ?_)
  · skip
    refine lv_astore_nN hx hb dK_pool_5 rfl hl (by decide) rfl (fun ls hl => ?_)
    have hl : lv_has ls 3 [(2, .null), (0, .ref _), (1, .int _)] := hl
    refine lv_aload_nN hx hb dK_pool_6 rfl (lv_at hl 0 rfl) ?_
    refine lv_ifnonnullN hx hb dK_pool_7 ?_
    refine lv_iconst (v := -1) hx hb dK_pool_10 (by decide) ?_
    refine lv_goto hx hb dK_pool_11 rfl ?_
    exact r_i hx hb hr hlk hK hH hS dK_pool_18 (⟨by simp only [cPool, h_1], rfl⟩)
  · skip
    have hlt_g_2 : g_2 < k := sLiv_lt h_1
    refine lv_astore_n hx hb dK_pool_5 rfl hl (by decide) rfl (fun ls hl => ?_)
    have hl : lv_has ls 3 [(2, .ref _), (0, .ref _), (1, .int _)] := hl
    refine lv_aload_n hx hb dK_pool_6 rfl (lv_at hl 0 rfl) ?_
    refine lv_ifnonnull hx hb dK_pool_7 rfl ?_
    refine lv_aload_n hx hb dK_pool_14 rfl (lv_at hl 0 rfl) ?_
    refine s_ciE (va_runV (As := []) (rest := []) ⟨hx, hb, hml, hown, hw⟩ (c_G_poolSize l  (by assumption) (hPl)) (cwV 0 hw (gd_V (gwd_3 (List.mem_of_getElem? (i := 6) rfl)) (gwd_3 (List.mem_of_getElem? (i := 7) rfl)) (gwd_3 (List.mem_of_getElem? (i := 8) rfl)) (gwd_0 (List.mem_of_getElem? (i := 4) rfl)) (gwd_3 (List.mem_of_getElem? (i := 9) rfl))) rfl rfl rfl (by decide +kernel) ⟨Nat.le_of_ble_eq_true rfl, Nat.le_of_ble_eq_true rfl⟩) (gPre.V (n := (6, _, 0)) hK hH (by first | exact ⟨rfl, rfl⟩ | exact ⟨by assumption, rfl⟩ | exact ⟨by assumption, by assumption⟩ | exact ⟨by omega, rfl⟩ | exact ⟨by omega, by omega⟩ | exact ⟨by decide, rfl⟩) rfl rfl) rfl rfl hl.1 rfl (lv_room (Nat.le_of_ble_eq_true rfl)) dK_pool_15 ⟨Nat.zero_le _, Nat.zero_le _⟩) hS (fun H locs hH hS => ?_)
    exact r_i hx hb hr hlk hK hH hS dK_pool_18 (⟨by simp only [cPool, h_1], rfl⟩)
set_option maxHeartbeats 4000000 in
set_option maxRecDepth 100000 in
theorem c_K_tables (l : Launch) {D : va_G} {c : Nat → ClassId} {sz : Nat} {ad : gN → Nat} {k : Nat} {I J : gI} {P : gP} {LG : Option Nat} {LP : Option (Nat × Nat)} {a : Int32} (hPl : ∀ g a q, P g a = some q → q < 24) : Met l yK_tables wK_tables { frames := 3, cells := 0, slots := 0, locals := 66 } (gPre D c sz [.ref (ad (0, 0, 0)), .int a] (ad, k, I, J, P, LG, LP)) (va_Qi (fun r u => r = cTab I k P a ∧ u = (ad, k, I, J, P, LG, LP)) (gB D c sz) (gA sz)) 0 0 (gA sz) := by
  refine Met.ofW (cc := cK_tables) (maxL := 3) (ret := (some .int)) (by decide) rfl ?_
  intro p e s m args below meth cd s₁ B hml hv
  obtain ⟨rfl, hK, hH⟩ := hv
  have hx := B.exec
  have hb := B.bytes
  have hr := B.returns
  have hts := atoms_spec (ws := wK_tables) B.pre
  have hw : ∀ w ∈ gWd, w.before _ s = true := fun w h => hts w (List.mem_cons_of_mem _ h)
  have hown : s.vm.findClass RK = some m.cls := findClass_of_methodNamed B.named
  have hlk := B.notSynchronized
  have hS : va_S (gA sz) s.heap s.heap [] := va_S.rf
  have hH : gW D c sz ad k I J P LG LP s.heap := hH
  have hl := lv_entry ([.ref (ad (0, 0, 0)), .int a]) (n := 3) (Nat.le_of_ble_eq_true rfl)
  rw [lg_entry_eq]
  generalize (lg_sl ([.ref (ad (0, 0, 0)), .int a]) ++ List.replicate (3 - (lg_sl ([.ref (ad (0, 0, 0)), .int a])).length) Slot.unset).toArray = ls at hl ⊢
  have hl : lv_has ls 3 [(0, .ref (ad (0, 0, 0))), (1, .int a)] := hl
  refine lv_aload_n hx hb dK_tables_0 rfl (lv_at hl 0 rfl) ?_
  refine lv_iload_n hx hb dK_tables_1 rfl (lv_at hl 1 rfl) ?_
  refine s_cqE (va_runV (As := [.int _]) (rest := []) ⟨hx, hb, hml, hown, hw⟩ (c_K_livingGuest l  ) (cwV 1 hw (gd_V (gwd_3 (List.mem_of_getElem? (i := 3) rfl)) (gwd_3 (List.mem_of_getElem? (i := 4) rfl)) (gwd_9 (List.mem_of_getElem? (i := 14) rfl)) (gwd_0 (List.mem_of_getElem? (i := 1) rfl)) (gwd_3 (List.mem_of_getElem? (i := 5) rfl))) rfl rfl rfl (by decide +kernel) ⟨Nat.le_of_ble_eq_true rfl, Nat.le_of_ble_eq_true rfl⟩) (gPre.V (n := (0, 0, 0)) hK hH (by first | exact ⟨rfl, rfl⟩ | exact ⟨by assumption, rfl⟩ | exact ⟨by assumption, by assumption⟩ | exact ⟨by omega, rfl⟩ | exact ⟨by omega, by omega⟩ | exact ⟨by decide, rfl⟩) rfl rfl) rfl rfl hl.1 rfl (lv_room (Nat.le_of_ble_eq_true rfl)) dK_tables_2 ⟨Nat.zero_le _, Nat.zero_le _⟩) hS (fun H locs h_1 hH hS => ?_) (fun H locs g_2 h_1 hH hS => ?_)
  · skip
    refine lv_astore_nN hx hb dK_tables_5 rfl hl (by decide) rfl (fun ls hl => ?_)
    have hl : lv_has ls 3 [(2, .null), (0, .ref _), (1, .int _)] := hl
    refine lv_aload_nN hx hb dK_tables_6 rfl (lv_at hl 0 rfl) ?_
    refine lv_ifnonnullN hx hb dK_tables_7 ?_
    refine lv_iconst (v := -1) hx hb dK_tables_10 (by decide) ?_
    refine lv_goto hx hb dK_tables_11 rfl ?_
    exact r_i hx hb hr hlk hK hH hS dK_tables_18 (⟨by simp only [cTab, h_1], rfl⟩)
  · skip
    have hlt_g_2 : g_2 < k := sLiv_lt h_1
    refine lv_astore_n hx hb dK_tables_5 rfl hl (by decide) rfl (fun ls hl => ?_)
    have hl : lv_has ls 3 [(2, .ref _), (0, .ref _), (1, .int _)] := hl
    refine lv_aload_n hx hb dK_tables_6 rfl (lv_at hl 0 rfl) ?_
    refine lv_ifnonnull hx hb dK_tables_7 rfl ?_
    refine lv_aload_n hx hb dK_tables_14 rfl (lv_at hl 0 rfl) ?_
    refine s_ciE (va_runV (As := []) (rest := []) ⟨hx, hb, hml, hown, hw⟩ (c_G_countTables l  (by assumption) (hPl)) (cwV 0 hw (gd_V (gwd_5 (List.mem_of_getElem? (i := 33) rfl)) (gwd_3 (List.mem_of_getElem? (i := 11) rfl)) (gwd_3 (List.mem_of_getElem? (i := 12) rfl)) (gwd_0 (List.mem_of_getElem? (i := 4) rfl)) (gwd_3 (List.mem_of_getElem? (i := 13) rfl))) rfl rfl rfl (by decide +kernel) ⟨Nat.le_of_ble_eq_true rfl, Nat.le_of_ble_eq_true rfl⟩) (gPre.V (n := (6, _, 0)) hK hH (by first | exact ⟨rfl, rfl⟩ | exact ⟨by assumption, rfl⟩ | exact ⟨by assumption, by assumption⟩ | exact ⟨by omega, rfl⟩ | exact ⟨by omega, by omega⟩ | exact ⟨by decide, rfl⟩) rfl rfl) rfl rfl hl.1 rfl (lv_room (Nat.le_of_ble_eq_true rfl)) dK_tables_15 ⟨Nat.zero_le _, Nat.zero_le _⟩) hS (fun H locs hH hS => ?_)
    exact r_i hx hb hr hlk hK hH hS dK_tables_18 (⟨by simp only [cTab, h_1], rfl⟩)
end
section
set_option maxHeartbeats 4000000 in
set_option maxRecDepth 100000 in
theorem c_K_destroy (l : Launch) {D : va_G} {c : Nat → ClassId} {sz : Nat} {ad : gN → Nat} {k : Nat} {I J : gI} {P : gP} {LG : Option Nat} {LP : Option (Nat × Nat)} {a : Int32} (hLG : ∀ g, LG = some g → g < k) : Met l yK_destroy wK_destroy { frames := 4, cells := 0, slots := 0, locals := 83 } (gPre D c sz [.ref (ad (0, 0, 0)), .int a] (ad, k, I, J, P, LG, LP)) (va_Qi (fun r u => r = (cDestroy I k LG a).1 ∧ u = (ad, k, (cDestroy I k LG a).2, J, P, LG, LP)) (gB D c sz) (gA sz)) 0 0 (gA sz) := by
  refine Met.ofW (cc := cK_destroy) (maxL := 4) (ret := (some .boolean)) (by decide) rfl ?_
  intro p e s m args below meth cd s₁ B hml hv
  obtain ⟨rfl, hK, hH⟩ := hv
  have hx := B.exec
  have hb := B.bytes
  have hr := B.returns
  have hts := atoms_spec (ws := wK_destroy) B.pre
  have hw : ∀ w ∈ gWd, w.before _ s = true := fun w h => hts w (List.mem_cons_of_mem _ h)
  have hown : s.vm.findClass RK = some m.cls := findClass_of_methodNamed B.named
  have hlk := B.notSynchronized
  have hS : va_S (gA sz) s.heap s.heap [] := va_S.rf
  have hH : gW D c sz ad k I J P LG LP s.heap := hH
  have hl := lv_entry ([.ref (ad (0, 0, 0)), .int a]) (n := 4) (Nat.le_of_ble_eq_true rfl)
  rw [lg_entry_eq]
  generalize (lg_sl ([.ref (ad (0, 0, 0)), .int a]) ++ List.replicate (4 - (lg_sl ([.ref (ad (0, 0, 0)), .int a])).length) Slot.unset).toArray = ls at hl ⊢
  have hl : lv_has ls 4 [(0, .ref (ad (0, 0, 0))), (1, .int a)] := hl
  have key : ∀ (I' : gI), (cDestroy I k LG a).1 = 1 → (cDestroy I k LG a).2 = sLoseN I' a 24 → ∀ (n i : Nat), i + n = 24 → ∀ ls : Array Slot, lv_has ls 4 [(3, .int (nI i)), (0, .ref (ad (0, 0, 0))), (1, .int a)] → ∀ (H : Heap) (locs : List Loc), gW D c sz ad k (sLoseN I' a i) J P LG LP H → va_S (gA sz) s.heap H locs → W p l e (headSpec wK_destroy { frames := 4, cells := 0, slots := 0, locals := 83 }).room s m ([.ref (ad (0, 0, 0)), .int a] : List Value).toArray below meth cd H locs 0 0 (MQ below (va_Qi (fun r u => r = (cDestroy I k LG a).1 ∧ u = (ad, k, (cDestroy I k LG a).2, J, P, LG, LP)) (gB D c sz) (gA sz)) ([.ref (ad (0, 0, 0)), .int a] : List Value).toArray s 0 0 (gA sz)) (F0 m 27 ls []) := by
    intro I' hI1 hI2 n
    induction n with
    | zero =>
      intro i hi ls hl H locs hH hS
      refine lv_iload_n hx hb dK_destroy_27 rfl (lv_at hl 0 rfl) ?_
      refine lv_bipush (v := 24) hx hb dK_destroy_28 (by decide) ?_
      refine lv_icmp_ge hx hb dK_destroy_30 rfl (fun h_1 => ?_) (fun h_1 => ?_)
      · skip
        refine lv_iconst (v := 1) hx hb dK_destroy_49 (by decide) ?_
        exact r_z hx hb hr hlk hK hH hS dK_destroy_50 (by first | exact Or.inl rfl | exact Or.inr rfl | exact bz_01 _ | assumption) (⟨hI1.symm, by rw [hI2, show i = 24 by omega]⟩)
      · exact absurd (show (24 : Int32) ≤ nI i from nI_le (a := 24) (by omega) (by omega)) h_1
    | succ n ih =>
      intro i hi ls hl H locs hH hS
      refine lv_iload_n hx hb dK_destroy_27 rfl (lv_at hl 0 rfl) ?_
      refine lv_bipush (v := 24) hx hb dK_destroy_28 (by decide) ?_
      refine lv_icmp_ge hx hb dK_destroy_30 rfl (fun h_2 => ?_) (fun h_2 => ?_)
      · exact absurd h_2 (nI_ge (b := 24) (show i < 24 by omega) (by decide))
      · skip
        refine lv_aload_n hx hb dK_destroy_33 rfl (lv_at hl 1 rfl) ?_
        refine s_get hx hb hw inK hown hK hH 0 (by decide) (hw _ (gwd_0 (List.mem_of_getElem? (i := 41) rfl))) (by first | exact ⟨rfl, rfl⟩ | exact ⟨by assumption, rfl⟩ | exact ⟨by assumption, by assumption⟩ | exact ⟨by omega, rfl⟩ | exact ⟨by omega, by omega⟩ | exact ⟨by decide, rfl⟩) rfl rfl rfl rfl dK_destroy_34 ?_
        refine lv_iload_n hx hb dK_destroy_37 rfl (lv_at hl 0 rfl) ?_
        refine s_aaP hx hb hK hH _ (by first | rfl | assumption) (by omega) dK_destroy_38 ?_
        refine lv_iload_n hx hb dK_destroy_39 rfl (lv_at hl 2 rfl) ?_
        refine s_cvE (va_runV (As := [.int _]) (rest := []) ⟨hx, hb, hml, hown, hw⟩ (c_P_loseGuest l  (by omega)) (cwV 1 hw (gd_V (gwd_4 (List.mem_of_getElem? (i := 1) rfl)) (gwd_4 (List.mem_of_getElem? (i := 2) rfl)) (gwd_4 (List.mem_of_getElem? (i := 3) rfl)) (gwd_0 (List.mem_of_getElem? (i := 2) rfl)) (gwd_4 (List.mem_of_getElem? (i := 4) rfl))) rfl rfl rfl (by decide +kernel) ⟨Nat.le_of_ble_eq_true rfl, Nat.le_of_ble_eq_true rfl⟩) (gPre.V (n := (2, _, 0)) hK hH (by first | exact ⟨rfl, rfl⟩ | exact ⟨by assumption, rfl⟩ | exact ⟨by assumption, by assumption⟩ | exact ⟨by omega, rfl⟩ | exact ⟨by omega, by omega⟩ | exact ⟨by decide, rfl⟩) rfl rfl) rfl rfl hl.1 rfl (lv_room (Nat.le_of_ble_eq_true rfl)) dK_destroy_40 ⟨Nat.zero_le _, Nat.zero_le _⟩) hS (fun H locs hH hS => ?_)
        refine lv_iinc (k := 0) (v := nI (i + 1)) hx hb dK_destroy_43 hl rfl (by rw [nI_succ]; rfl) (by decide) rfl (fun ls hl => ?_)
        have hl : lv_has ls 4 [(3, .int _), (0, .ref _), (1, .int _)] := hl
        refine lv_goto hx hb dK_destroy_46 rfl ?_
        exact ih (i + 1) (by omega) ls (lv_sub hl [0, 1, 2] rfl) H locs (by rw [show sLoseN I' a (i + 1) = sLose (sLoseN I' a i) i a from rfl]; exact hH) hS
  refine lv_aload_n hx hb dK_destroy_0 rfl (lv_at hl 0 rfl) ?_
  refine lv_iload_n hx hb dK_destroy_1 rfl (lv_at hl 1 rfl) ?_
  refine s_cqE (va_runV (As := [.int _]) (rest := []) ⟨hx, hb, hml, hown, hw⟩ (c_K_livingGuest l  ) (cwV 1 hw (gd_V (gwd_3 (List.mem_of_getElem? (i := 3) rfl)) (gwd_3 (List.mem_of_getElem? (i := 4) rfl)) (gwd_9 (List.mem_of_getElem? (i := 14) rfl)) (gwd_0 (List.mem_of_getElem? (i := 1) rfl)) (gwd_3 (List.mem_of_getElem? (i := 5) rfl))) rfl rfl rfl (by decide +kernel) ⟨Nat.le_of_ble_eq_true rfl, Nat.le_of_ble_eq_true rfl⟩) (gPre.V (n := (0, 0, 0)) hK hH (by first | exact ⟨rfl, rfl⟩ | exact ⟨by assumption, rfl⟩ | exact ⟨by assumption, by assumption⟩ | exact ⟨by omega, rfl⟩ | exact ⟨by omega, by omega⟩ | exact ⟨by decide, rfl⟩) rfl rfl) rfl rfl hl.1 rfl (lv_room (Nat.le_of_ble_eq_true rfl)) dK_destroy_2 ⟨Nat.zero_le _, Nat.zero_le _⟩) hS (fun H locs h_3 hH hS => ?_) (fun H locs g_4 h_3 hH hS => ?_)
  · skip
    refine lv_astore_nN hx hb dK_destroy_5 rfl hl (by decide) rfl (fun ls hl => ?_)
    have hl : lv_has ls 4 [(2, .null), (0, .ref _), (1, .int _)] := hl
    refine lv_aload_nN hx hb dK_destroy_6 rfl (lv_at hl 0 rfl) ?_
    refine lv_ifnullN hx hb dK_destroy_7 rfl ?_
    refine lv_iconst (v := 0) hx hb dK_destroy_18 (by decide) ?_
    exact r_z hx hb hr hlk hK hH hS dK_destroy_19 (by first | exact Or.inl rfl | exact Or.inr rfl | exact bz_01 _ | assumption) (by simp only [cDestroy, h_3]; exact ⟨trivial, trivial⟩)
  · skip
    have hlt_g_4 : g_4 < k := sLiv_lt h_3
    refine lv_astore_n hx hb dK_destroy_5 rfl hl (by decide) rfl (fun ls hl => ?_)
    have hl : lv_has ls 4 [(2, .ref _), (0, .ref _), (1, .int _)] := hl
    refine lv_aload_n hx hb dK_destroy_6 rfl (lv_at hl 0 rfl) ?_
    refine lv_ifnull hx hb dK_destroy_7 ?_
    refine lv_aload_n hx hb dK_destroy_10 rfl (lv_at hl 0 rfl) ?_
    refine lv_aload_n hx hb dK_destroy_11 rfl (lv_at hl 1 rfl) ?_
    refine s_get hx hb hw inK hown hK hH 6 (by decide) (hw _ (gwd_0 (List.mem_of_getElem? (i := 47) rfl))) (by first | exact ⟨rfl, rfl⟩ | exact ⟨by assumption, rfl⟩ | exact ⟨by assumption, by assumption⟩ | exact ⟨by omega, rfl⟩ | exact ⟨by omega, by omega⟩ | exact ⟨by decide, rfl⟩) rfl rfl rfl rfl dK_destroy_12 ?_
    refine lv_acmp_ne (rx := some _) (ry := LG.map fun g => ad (6, g, 0)) hx hb dK_destroy_15 rfl (fun h_5 => ?_) (fun h_5 => ?_)
    · have h_5 : ¬ LG = some g_4 := fun z => h_5 (by rw [z]; rfl)
      refine lv_aload_n hx hb dK_destroy_20 rfl (lv_at hl 0 rfl) ?_
      refine lv_iconst (v := 0) hx hb dK_destroy_21 (by decide) ?_
      refine s_put hx hb hw inG tyG_ok nG hown hK hH hS 3 (by decide) (hw _ (gwd_2 (List.mem_of_getElem? (i := 20) rfl))) (by first | exact ⟨rfl, rfl⟩ | exact ⟨by assumption, rfl⟩ | exact ⟨by assumption, by assumption⟩ | exact ⟨by omega, rfl⟩ | exact ⟨by omega, by omega⟩ | exact ⟨by decide, rfl⟩) rfl rfl rfl rfl rfl (nar01 (by first | exact Or.inl rfl | exact Or.inr rfl | exact bz_01 _ | assumption)) (fit01 (by first | exact Or.inl rfl | exact Or.inr rfl | exact bz_01 _ | assumption)) (Nat.le_of_ble_eq_true rfl) rfl dK_destroy_22 (fun H locs hH hS => ?_)
      refine lv_iconst (v := 0) hx hb dK_destroy_25 (by decide) ?_
      refine lv_istore_n hx hb dK_destroy_26 rfl hl (by decide) rfl (fun ls hl => ?_)
      have hl : lv_has ls 4 [(3, .int _), (2, .ref _), (0, .ref _), (1, .int _)] := hl
      exact key (iu I (6, g_4, 0) 3 0) (by simp only [cDestroy, h_3]; rw [if_neg h_5]) (by simp only [cDestroy, h_3]; rw [if_neg h_5]) 24 0 (by omega) ls (lv_sub hl [0, 2, 3] rfl) H locs hH hS
    · have h_5 : LG = some g_4 := by
        cases hz : LG with
        | none => rw [hz] at h_5; cases h_5
        | some z =>
          rw [hz] at h_5
          have zz := gH.inj hH (n := (6, g_4, 0)) (n' := (6, z, 0)) ⟨by assumption, rfl⟩ ⟨hLG _ hz, rfl⟩ (Option.some.inj h_5)
          cases zz
          rfl
      refine lv_iconst (v := 0) hx hb dK_destroy_18 (by decide) ?_
      exact r_z hx hb hr hlk hK hH hS dK_destroy_19 (by first | exact Or.inl rfl | exact Or.inr rfl | exact bz_01 _ | assumption) (by simp only [cDestroy, h_3]; rw [if_pos h_5]; exact ⟨rfl, rfl⟩)
set_option maxHeartbeats 4000000 in
set_option maxRecDepth 100000 in
theorem c_K_load (l : Launch) {D : va_G} {c : Nat → ClassId} {sz : Nat} {ad : gN → Nat} {k : Nat} {I J : gI} {P : gP} {LG : Option Nat} {LP : Option (Nat × Nat)} {a v : Int32}  : Met l yK_load wK_load { frames := 1, cells := 0, slots := 0, locals := 22 } (gPre D c sz [.ref (ad (0, 0, 0)), .int a, .int v] (ad, k, I, J, P, LG, LP)) (va_Qi (fun r u => r = (cLoad I k LG LP a v).1 ∧ u = (ad, k, (cLoad I k LG LP a v).2.1, J, P, (cLoad I k LG LP a v).2.2.1, (cLoad I k LG LP a v).2.2.2)) (gB D c sz) (gA sz)) 0 0 (gA sz) := by
  refine Met.ofW (cc := cK_load) (maxL := 4) (ret := (some .boolean)) (by decide) rfl ?_
  intro p e s m args below meth cd s₁ B hml hv
  obtain ⟨rfl, hK, hH⟩ := hv
  have hx := B.exec
  have hb := B.bytes
  have hr := B.returns
  have hts := atoms_spec (ws := wK_load) B.pre
  have hw : ∀ w ∈ gWd, w.before _ s = true := fun w h => hts w (List.mem_cons_of_mem _ h)
  have hown : s.vm.findClass RK = some m.cls := findClass_of_methodNamed B.named
  have hlk := B.notSynchronized
  have hS : va_S (gA sz) s.heap s.heap [] := va_S.rf
  have hH : gW D c sz ad k I J P LG LP s.heap := hH
  have hl := lv_entry ([.ref (ad (0, 0, 0)), .int a, .int v]) (n := 4) (Nat.le_of_ble_eq_true rfl)
  rw [lg_entry_eq]
  generalize (lg_sl ([.ref (ad (0, 0, 0)), .int a, .int v]) ++ List.replicate (4 - (lg_sl ([.ref (ad (0, 0, 0)), .int a, .int v])).length) Slot.unset).toArray = ls at hl ⊢
  have hl : lv_has ls 4 [(0, .ref (ad (0, 0, 0))), (1, .int a), (2, .int v)] := hl
  refine lv_aload_n hx hb dK_load_0 rfl (lv_at hl 0 rfl) ?_
  refine lv_iload_n hx hb dK_load_1 rfl (lv_at hl 1 rfl) ?_
  refine s_cqE (va_runV (As := [.int _]) (rest := []) ⟨hx, hb, hml, hown, hw⟩ (c_K_livingGuest l  ) (cwV 1 hw (gd_V (gwd_3 (List.mem_of_getElem? (i := 3) rfl)) (gwd_3 (List.mem_of_getElem? (i := 4) rfl)) (gwd_9 (List.mem_of_getElem? (i := 14) rfl)) (gwd_0 (List.mem_of_getElem? (i := 1) rfl)) (gwd_3 (List.mem_of_getElem? (i := 5) rfl))) rfl rfl rfl (by decide +kernel) ⟨Nat.le_of_ble_eq_true rfl, Nat.le_of_ble_eq_true rfl⟩) (gPre.V (n := (0, 0, 0)) hK hH (by first | exact ⟨rfl, rfl⟩ | exact ⟨by assumption, rfl⟩ | exact ⟨by assumption, by assumption⟩ | exact ⟨by omega, rfl⟩ | exact ⟨by omega, by omega⟩ | exact ⟨by decide, rfl⟩) rfl rfl) rfl rfl hl.1 rfl (lv_room (Nat.le_of_ble_eq_true rfl)) dK_load_2 ⟨Nat.zero_le _, Nat.zero_le _⟩) hS (fun H locs h_1 hH hS => ?_) (fun H locs g_2 h_1 hH hS => ?_)
  · skip
    refine lv_astore_nN hx hb dK_load_5 rfl hl (by decide) rfl (fun ls hl => ?_)
    have hl : lv_has ls 4 [(3, .null), (0, .ref _), (1, .int _), (2, .int _)] := hl
    refine lv_aload_n hx hb dK_load_6 rfl (lv_at hl 1 rfl) ?_
    refine s_get hx hb hw inK hown hK hH 7 (by decide) (hw _ (gwd_1 (List.mem_of_getElem? (i := 0) rfl))) (by first | exact ⟨rfl, rfl⟩ | exact ⟨by assumption, rfl⟩ | exact ⟨by assumption, by assumption⟩ | exact ⟨by omega, rfl⟩ | exact ⟨by omega, by omega⟩ | exact ⟨by decide, rfl⟩) rfl rfl rfl rfl dK_load_7 ?_
    rcases LP with _ | ⟨lg, lv⟩
    · skip
      refine lv_ifnonnullN hx hb dK_load_10 ?_
      refine lv_aload_nN hx hb dK_load_13 rfl (lv_at hl 0 rfl) ?_
      refine lv_ifnullN hx hb dK_load_14 rfl ?_
      refine lv_iconst (v := 0) hx hb dK_load_26 (by decide) ?_
      exact r_z hx hb hr hlk hK hH hS dK_load_27 (by first | exact Or.inl rfl | exact Or.inr rfl | exact bz_01 _ | assumption) (by first | (simp only [cLoad]; exact ⟨trivial, trivial⟩) | (simp only [cLoad, h_1]; exact ⟨trivial, trivial⟩) | (simp only [cLoad, h_1]; rw [if_pos (Or.inl rfl)]; exact ⟨rfl, rfl⟩) | (simp only [cLoad, h_1]; rw [if_neg (fun q => q.elim rfl (fun q => absurd q (Int32.not_le.mpr rfl))), hib]; exact ⟨rfl, rfl⟩) | (simp only [cLoad, h_1]; rw [if_pos (Or.inr (Int32.not_lt.mp rfl))]; exact ⟨rfl, rfl⟩))
    · skip
      refine lv_ifnonnull hx hb dK_load_10 rfl ?_
      refine lv_iconst (v := 0) hx hb dK_load_26 (by decide) ?_
      exact r_z hx hb hr hlk hK hH hS dK_load_27 (by first | exact Or.inl rfl | exact Or.inr rfl | exact bz_01 _ | assumption) (by first | (simp only [cLoad]; exact ⟨trivial, trivial⟩) | (simp only [cLoad, h_1]; exact ⟨trivial, trivial⟩) | (simp only [cLoad, h_1]; rw [if_pos (Or.inl rfl)]; exact ⟨rfl, rfl⟩) | (simp only [cLoad, h_1]; rw [if_neg (fun q => q.elim rfl (fun q => absurd q (Int32.not_le.mpr rfl))), hib]; exact ⟨rfl, rfl⟩) | (simp only [cLoad, h_1]; rw [if_pos (Or.inr (Int32.not_lt.mp rfl))]; exact ⟨rfl, rfl⟩))
  · skip
    have hlt_g_2 : g_2 < k := sLiv_lt h_1
    refine lv_astore_n hx hb dK_load_5 rfl hl (by decide) rfl (fun ls hl => ?_)
    have hl : lv_has ls 4 [(3, .ref _), (0, .ref _), (1, .int _), (2, .int _)] := hl
    refine lv_aload_n hx hb dK_load_6 rfl (lv_at hl 1 rfl) ?_
    refine s_get hx hb hw inK hown hK hH 7 (by decide) (hw _ (gwd_1 (List.mem_of_getElem? (i := 0) rfl))) (by first | exact ⟨rfl, rfl⟩ | exact ⟨by assumption, rfl⟩ | exact ⟨by assumption, by assumption⟩ | exact ⟨by omega, rfl⟩ | exact ⟨by omega, by omega⟩ | exact ⟨by decide, rfl⟩) rfl rfl rfl rfl dK_load_7 ?_
    rcases LP with _ | ⟨lg, lv⟩
    · skip
      refine lv_ifnonnullN hx hb dK_load_10 ?_
      refine lv_aload_n hx hb dK_load_13 rfl (lv_at hl 0 rfl) ?_
      refine lv_ifnull hx hb dK_load_14 ?_
      refine lv_iload_n hx hb dK_load_17 rfl (lv_at hl 3 rfl) ?_
      refine lv_if_lt hx hb dK_load_18 rfl (fun h_3 => ?_) (fun h_3 => ?_)
      · skip
        refine lv_iconst (v := 0) hx hb dK_load_26 (by decide) ?_
        exact r_z hx hb hr hlk hK hH hS dK_load_27 (by first | exact Or.inl rfl | exact Or.inr rfl | exact bz_01 _ | assumption) (by first | (simp only [cLoad]; exact ⟨trivial, trivial⟩) | (simp only [cLoad, h_1]; exact ⟨trivial, trivial⟩) | (simp only [cLoad, h_1]; rw [if_pos (Or.inl h_3)]; exact ⟨rfl, rfl⟩) | (simp only [cLoad, h_1]; rw [if_neg (fun q => q.elim h_3 (fun q => absurd q (Int32.not_le.mpr rfl))), hib]; exact ⟨rfl, rfl⟩) | (simp only [cLoad, h_1]; rw [if_pos (Or.inr (Int32.not_lt.mp rfl))]; exact ⟨rfl, rfl⟩))
      · skip
        refine lv_iload_n hx hb dK_load_21 rfl (lv_at hl 3 rfl) ?_
        refine lv_iconst (v := 2) hx hb dK_load_22 (by decide) ?_
        refine lv_icmp_lt hx hb dK_load_23 rfl (fun h_4 => ?_) (fun h_4 => ?_)
        · skip
          obtain ⟨b, hb2, rfl⟩ := ix_lt 2 2 rfl (by decide) h_3 (Int32.not_le.mpr h_4)
          have hib : ix (nI b) = b := ix_nI (by omega)
          refine lv_aload_n hx hb dK_load_28 rfl (lv_at hl 0 rfl) ?_
          refine lv_iconst (v := 1) hx hb dK_load_29 (by decide) ?_
          refine s_put hx hb hw inG tyG_ok nG hown hK hH hS 4 (by decide) (hw _ (gwd_2 (List.mem_of_getElem? (i := 21) rfl))) (by first | exact ⟨rfl, rfl⟩ | exact ⟨by assumption, rfl⟩ | exact ⟨by assumption, by assumption⟩ | exact ⟨by omega, rfl⟩ | exact ⟨by omega, by omega⟩ | exact ⟨by decide, rfl⟩) rfl rfl rfl rfl rfl (nar01 (by first | exact Or.inl rfl | exact Or.inr rfl | exact bz_01 _ | assumption)) (fit01 (by first | exact Or.inl rfl | exact Or.inr rfl | exact bz_01 _ | assumption)) (Nat.le_of_ble_eq_true rfl) rfl dK_load_30 (fun H locs hH hS => ?_)
          refine lv_aload_n hx hb dK_load_33 rfl (lv_at hl 1 rfl) ?_
          refine lv_aload_n hx hb dK_load_34 rfl (lv_at hl 0 rfl) ?_
          refine s_putL hx hb hw inK tyK_ok nK hown hK hH hS 6 (by decide) (hw _ (gwd_0 (List.mem_of_getElem? (i := 47) rfl))) rfl rfl rfl rfl rfl rfl rfl (Nat.le_of_ble_eq_true rfl) (some _) _ rfl dK_load_35 (fun H locs hH hS => ?_)
          refine lv_aload_n hx hb dK_load_38 rfl (lv_at hl 1 rfl) ?_
          refine lv_aload_n hx hb dK_load_39 rfl (lv_at hl 0 rfl) ?_
          refine s_get hx hb hw inG hown hK hH 2 (by decide) (hw _ (gwd_2 (List.mem_of_getElem? (i := 18) rfl))) (by first | exact ⟨rfl, rfl⟩ | exact ⟨by assumption, rfl⟩ | exact ⟨by assumption, by assumption⟩ | exact ⟨by omega, rfl⟩ | exact ⟨by omega, by omega⟩ | exact ⟨by decide, rfl⟩) rfl rfl rfl rfl dK_load_40 ?_
          refine lv_iload_n hx hb dK_load_43 rfl (lv_at hl 3 rfl) ?_
          refine s_aaR hx hb hK hH (by first | assumption | decide | omega) _ (by first | rfl | assumption) (by omega) dK_load_44 ?_
          refine s_putL hx hb hw inK tyK_ok nK hown hK hH hS 7 (by decide) (hw _ (gwd_1 (List.mem_of_getElem? (i := 0) rfl))) rfl rfl rfl rfl rfl rfl rfl (Nat.le_of_ble_eq_true rfl) _ (some (_, _)) rfl dK_load_45 (fun H locs hH hS => ?_)
          refine lv_iconst (v := 1) hx hb dK_load_48 (by decide) ?_
          exact r_z hx hb hr hlk hK hH hS dK_load_49 (by first | exact Or.inl rfl | exact Or.inr rfl | exact bz_01 _ | assumption) (by first | (simp only [cLoad]; exact ⟨trivial, trivial⟩) | (simp only [cLoad, h_1]; exact ⟨trivial, trivial⟩) | (simp only [cLoad, h_1]; rw [if_pos (Or.inl h_3)]; exact ⟨rfl, rfl⟩) | (simp only [cLoad, h_1]; rw [if_neg (fun q => q.elim h_3 (fun q => absurd q (Int32.not_le.mpr h_4))), hib]; exact ⟨rfl, rfl⟩) | (simp only [cLoad, h_1]; rw [if_pos (Or.inr (Int32.not_lt.mp h_4))]; exact ⟨rfl, rfl⟩))
        · skip
          refine lv_iconst (v := 0) hx hb dK_load_26 (by decide) ?_
          exact r_z hx hb hr hlk hK hH hS dK_load_27 (by first | exact Or.inl rfl | exact Or.inr rfl | exact bz_01 _ | assumption) (by first | (simp only [cLoad]; exact ⟨trivial, trivial⟩) | (simp only [cLoad, h_1]; exact ⟨trivial, trivial⟩) | (simp only [cLoad, h_1]; rw [if_pos (Or.inl h_3)]; exact ⟨rfl, rfl⟩) | (simp only [cLoad, h_1]; rw [if_neg (fun q => q.elim h_3 (fun q => absurd q (Int32.not_le.mpr h_4))), hib]; exact ⟨rfl, rfl⟩) | (simp only [cLoad, h_1]; rw [if_pos (Or.inr (Int32.not_lt.mp h_4))]; exact ⟨rfl, rfl⟩))
    · skip
      refine lv_ifnonnull hx hb dK_load_10 rfl ?_
      refine lv_iconst (v := 0) hx hb dK_load_26 (by decide) ?_
      exact r_z hx hb hr hlk hK hH hS dK_load_27 (by first | exact Or.inl rfl | exact Or.inr rfl | exact bz_01 _ | assumption) (by first | (simp only [cLoad]; exact ⟨trivial, trivial⟩) | (simp only [cLoad, h_1]; exact ⟨trivial, trivial⟩) | (simp only [cLoad, h_1]; rw [if_pos (Or.inl rfl)]; exact ⟨rfl, rfl⟩) | (simp only [cLoad, h_1]; rw [if_neg (fun q => q.elim rfl (fun q => absurd q (Int32.not_le.mpr rfl))), hib]; exact ⟨rfl, rfl⟩) | (simp only [cLoad, h_1]; rw [if_pos (Or.inr (Int32.not_lt.mp rfl))]; exact ⟨rfl, rfl⟩))
set_option maxHeartbeats 4000000 in
set_option maxRecDepth 100000 in
theorem c_K_put (l : Launch) {D : va_G} {c : Nat → ClassId} {sz : Nat} {ad : gN → Nat} {k : Nat} {I J : gI} {P : gP} {LG : Option Nat} {LP : Option (Nat × Nat)}   : Met l yK_put wK_put { frames := 0, cells := 0, slots := 0, locals := 0 } (gPre D c sz [.ref (ad (0, 0, 0))] (ad, k, I, J, P, LG, LP)) (va_Qi (fun r u => r = bz (¬ LP = none) ∧ u = (ad, k, I, J, P, (if LP = none then LG else none), none)) (gB D c sz) (gA sz)) 0 0 (gA sz) := by
  refine Met.ofW (cc := cK_put) (maxL := 1) (ret := (some .boolean)) (by decide) rfl ?_
  intro p e s m args below meth cd s₁ B hml hv
  obtain ⟨rfl, hK, hH⟩ := hv
  have hx := B.exec
  have hb := B.bytes
  have hr := B.returns
  have hts := atoms_spec (ws := wK_put) B.pre
  have hw : ∀ w ∈ gWd, w.before _ s = true := fun w h => hts w (List.mem_cons_of_mem _ h)
  have hown : s.vm.findClass RK = some m.cls := findClass_of_methodNamed B.named
  have hlk := B.notSynchronized
  have hS : va_S (gA sz) s.heap s.heap [] := va_S.rf
  have hH : gW D c sz ad k I J P LG LP s.heap := hH
  have hl := lv_entry ([.ref (ad (0, 0, 0))]) (n := 1) (Nat.le_of_ble_eq_true rfl)
  rw [lg_entry_eq]
  generalize (lg_sl ([.ref (ad (0, 0, 0))]) ++ List.replicate (1 - (lg_sl ([.ref (ad (0, 0, 0))])).length) Slot.unset).toArray = ls at hl ⊢
  have hl : lv_has ls 1 [(0, .ref (ad (0, 0, 0)))] := hl
  refine lv_aload_n hx hb dK_put_0 rfl (lv_at hl 0 rfl) ?_
  refine s_get hx hb hw inK hown hK hH 7 (by decide) (hw _ (gwd_1 (List.mem_of_getElem? (i := 0) rfl))) (by first | exact ⟨rfl, rfl⟩ | exact ⟨by assumption, rfl⟩ | exact ⟨by assumption, by assumption⟩ | exact ⟨by omega, rfl⟩ | exact ⟨by omega, by omega⟩ | exact ⟨by decide, rfl⟩) rfl rfl rfl rfl dK_put_1 ?_
  rcases LP with _ | ⟨lg, lv⟩
  · skip
    refine lv_ifnonnullN hx hb dK_put_4 ?_
    refine lv_iconst (v := 0) hx hb dK_put_7 (by decide) ?_
    exact r_z hx hb hr hlk hK hH hS dK_put_8 (by first | exact Or.inl rfl | exact Or.inr rfl | exact bz_01 _ | assumption) (⟨rfl, rfl⟩)
  · skip
    refine lv_ifnonnull hx hb dK_put_4 rfl ?_
    refine lv_aload_n hx hb dK_put_9 rfl (lv_at hl 0 rfl) ?_
    refine lv_null hx hb dK_put_10 ?_
    refine s_putL hx hb hw inK tyK_ok nK hown hK hH hS 6 (by decide) (hw _ (gwd_0 (List.mem_of_getElem? (i := 47) rfl))) rfl rfl rfl rfl rfl rfl rfl (Nat.le_of_ble_eq_true rfl) none _ rfl dK_put_11 (fun H locs hH hS => ?_)
    refine lv_aload_n hx hb dK_put_14 rfl (lv_at hl 0 rfl) ?_
    refine lv_null hx hb dK_put_15 ?_
    refine s_putL hx hb hw inK tyK_ok nK hown hK hH hS 7 (by decide) (hw _ (gwd_1 (List.mem_of_getElem? (i := 0) rfl))) rfl rfl rfl rfl rfl rfl rfl (Nat.le_of_ble_eq_true rfl) _ none rfl dK_put_16 (fun H locs hH hS => ?_)
    refine lv_iconst (v := 1) hx hb dK_put_19 (by decide) ?_
    exact r_z hx hb hr hlk hK hH hS dK_put_20 (by first | exact Or.inl rfl | exact Or.inr rfl | exact bz_01 _ | assumption) (⟨rfl, rfl⟩)
theorem sAns_pc {I : gI} {g v : Nat} {x : Int32} (h : pcOK I g v) : pcOK (sAns I g v x) g v := by
  obtain ⟨t, ht, e⟩ := h
  refine ⟨t, ht, ?_⟩
  unfold sAns
  split
  · exact e
  · simp [iu_at]; exact e
set_option maxHeartbeats 4000000 in
set_option maxRecDepth 100000 in
theorem c_K_run (l : Launch) {D : va_G} {c : Nat → ClassId} {sz : Nat} {ad : gN → Nat} {k : Nat} {I J : gI} {P : gP} {LG : Option Nat} {LP : Option (Nat × Nat)} {n x : Int32} (hLP : ∀ q, LP = some q → q.1 < k ∧ q.2 < 2 ∧ LG = some q.1) (hPl : ∀ g a q, P g a = some q → q < 24) (hask : ∀ g v, g < k → v < 2 → (I (9, g, v) 3 = -1 ∨ ∃ a, a < 4 ∧ I (9, g, v) 3 = nI a)) (hpc : ∀ g v, g < k → v < 2 → pcOK I g v) : Met l yK_run wK_run { frames := 6, cells := 0, slots := 0, locals := 138 } (gPre D c sz [.ref (ad (0, 0, 0)), .int n, .int x] (ad, k, I, J, P, LG, LP)) (va_Qi (fun r u => r = (cRun I P LP n x).1 ∧ u = (ad, k, (cRun I P LP n x).2, J, P, LG, LP)) (gB D c sz) (gA sz)) 0 0 (gA sz) := by
  refine Met.ofW (cc := cK_run) (maxL := 4) (ret := (some .int)) (by decide) rfl ?_
  intro p e s m args below meth cd s₁ B hml hv
  obtain ⟨rfl, hK, hH⟩ := hv
  have hx := B.exec
  have hb := B.bytes
  have hr := B.returns
  have hts := atoms_spec (ws := wK_run) B.pre
  have hw : ∀ w ∈ gWd, w.before _ s = true := fun w h => hts w (List.mem_cons_of_mem _ h)
  have hown : s.vm.findClass RK = some m.cls := findClass_of_methodNamed B.named
  have hlk := B.notSynchronized
  have hS : va_S (gA sz) s.heap s.heap [] := va_S.rf
  have hH : gW D c sz ad k I J P LG LP s.heap := hH
  have hl := lv_entry ([.ref (ad (0, 0, 0)), .int n, .int x]) (n := 4) (Nat.le_of_ble_eq_true rfl)
  rw [lg_entry_eq]
  generalize (lg_sl ([.ref (ad (0, 0, 0)), .int n, .int x]) ++ List.replicate (4 - (lg_sl ([.ref (ad (0, 0, 0)), .int n, .int x])).length) Slot.unset).toArray = ls at hl ⊢
  have hl : lv_has ls 4 [(0, .ref (ad (0, 0, 0))), (1, .int n), (2, .int x)] := hl
  refine lv_aload_n hx hb dK_run_0 rfl (lv_at hl 0 rfl) ?_
  refine s_get hx hb hw inK hown hK hH 7 (by decide) (hw _ (gwd_1 (List.mem_of_getElem? (i := 0) rfl))) (by first | exact ⟨rfl, rfl⟩ | exact ⟨by assumption, rfl⟩ | exact ⟨by assumption, by assumption⟩ | exact ⟨by omega, rfl⟩ | exact ⟨by omega, by omega⟩ | exact ⟨by decide, rfl⟩) rfl rfl rfl rfl dK_run_1 ?_
  rcases LP with _ | ⟨lg, lv⟩
  · skip
    refine lv_ifnullN hx hb dK_run_4 rfl ?_
    refine lv_iconst (v := -1) hx hb dK_run_25 (by decide) ?_
    exact r_i hx hb hr hlk hK hH hS dK_run_26 (by first | exact ⟨rfl, rfl⟩ | (simp only [cRun]; rw [if_pos (Or.inl rfl)]; exact ⟨rfl, rfl⟩) | (simp only [cRun]; rw [if_pos (Or.inr (Int32.not_le.mp rfl))]; exact ⟨rfl, rfl⟩))
  · skip
    obtain ⟨hlg, hlv, hLGe⟩ := hLP _ rfl
    dsimp only at hlg hlv hLGe
    subst hLGe
    refine lv_ifnull hx hb dK_run_4 ?_
    refine lv_aload_n hx hb dK_run_7 rfl (lv_at hl 0 rfl) ?_
    refine s_get hx hb hw inK hown hK hH 6 (by decide) (hw _ (gwd_0 (List.mem_of_getElem? (i := 47) rfl))) (by first | exact ⟨rfl, rfl⟩ | exact ⟨by assumption, rfl⟩ | exact ⟨by assumption, by assumption⟩ | exact ⟨by omega, rfl⟩ | exact ⟨by omega, by omega⟩ | exact ⟨by decide, rfl⟩) rfl rfl rfl rfl dK_run_8 ?_
    refine lv_ifnull hx hb dK_run_11 ?_
    refine lv_iload_n hx hb dK_run_14 rfl (lv_at hl 1 rfl) ?_
    refine lv_iconst (v := 1) hx hb dK_run_15 (by decide) ?_
    refine lv_icmp_lt hx hb dK_run_16 rfl (fun h_1 => ?_) (fun h_1 => ?_)
    · skip
      refine lv_iconst (v := -1) hx hb dK_run_25 (by decide) ?_
      exact r_i hx hb hr hlk hK hH hS dK_run_26 (by first | exact ⟨rfl, rfl⟩ | (simp only [cRun]; rw [if_pos (Or.inl h_1)]; exact ⟨rfl, rfl⟩) | (simp only [cRun]; rw [if_pos (Or.inr (Int32.not_le.mp rfl))]; exact ⟨rfl, rfl⟩))
    · skip
      refine lv_iload_n hx hb dK_run_19 rfl (lv_at hl 1 rfl) ?_
      refine lv_bipush (v := 64) hx hb dK_run_20 (by decide) ?_
      refine lv_icmp_le hx hb dK_run_22 rfl (fun h_2 => ?_) (fun h_2 => ?_)
      · skip
        obtain ⟨b, hb6, rfl⟩ := ix_le 64 64 rfl (by decide) (fun q => h_1 (Int32.lt_trans q (by decide))) h_2
        have hib : ix (nI b) = b := ix_nI (by omega)
        have hn1 : ¬ (nI b < 1 ∨ 64 < nI b) := fun q => q.elim h_1 (fun q => absurd q (Int32.not_lt.mpr h_2))
        refine lv_aload_n hx hb dK_run_27 rfl (lv_at hl 0 rfl) ?_
        refine s_get hx hb hw inK hown hK hH 7 (by decide) (hw _ (gwd_1 (List.mem_of_getElem? (i := 0) rfl))) (by first | exact ⟨rfl, rfl⟩ | exact ⟨by assumption, rfl⟩ | exact ⟨by assumption, by assumption⟩ | exact ⟨by omega, rfl⟩ | exact ⟨by omega, by omega⟩ | exact ⟨by decide, rfl⟩) rfl rfl rfl rfl dK_run_28 ?_
        refine lv_iload_n hx hb dK_run_31 rfl (lv_at hl 2 rfl) ?_
        refine s_cvE (va_runV (As := [.int _]) (rest := []) ⟨hx, hb, hml, hown, hw⟩ (c_R_receiveAnswer l  (by assumption) (by assumption) (hask _ _ (by assumption) (by assumption))) (cwV 1 hw (gd_V (gwd_4 (List.mem_of_getElem? (i := 21) rfl)) (gwd_4 (List.mem_of_getElem? (i := 22) rfl)) (gwd_4 (List.mem_of_getElem? (i := 23) rfl)) (gwd_0 (List.mem_of_getElem? (i := 5) rfl)) (gwd_4 (List.mem_of_getElem? (i := 24) rfl))) rfl rfl rfl (by decide +kernel) ⟨Nat.le_of_ble_eq_true rfl, Nat.le_of_ble_eq_true rfl⟩) (gPre.V (n := (9, _, _)) hK hH (by first | exact ⟨rfl, rfl⟩ | exact ⟨by assumption, rfl⟩ | exact ⟨by assumption, by assumption⟩ | exact ⟨by omega, rfl⟩ | exact ⟨by omega, by omega⟩ | exact ⟨by decide, rfl⟩) rfl rfl) rfl rfl hl.1 rfl (lv_room (Nat.le_of_ble_eq_true rfl)) dK_run_32 ⟨Nat.zero_le _, Nat.zero_le _⟩) hS (fun H locs hH hS => ?_)
        refine lv_aload_n hx hb dK_run_35 rfl (lv_at hl 0 rfl) ?_
        refine s_get hx hb hw inK hown hK hH 7 (by decide) (hw _ (gwd_1 (List.mem_of_getElem? (i := 0) rfl))) (by first | exact ⟨rfl, rfl⟩ | exact ⟨by assumption, rfl⟩ | exact ⟨by assumption, by assumption⟩ | exact ⟨by omega, rfl⟩ | exact ⟨by omega, by omega⟩ | exact ⟨by decide, rfl⟩) rfl rfl rfl rfl dK_run_36 ?_
        refine lv_iload_n hx hb dK_run_39 rfl (lv_at hl 1 rfl) ?_
        refine lv_aload_n hx hb dK_run_40 rfl (lv_at hl 0 rfl) ?_
        refine s_get hx hb hw inK hown hK hH 6 (by decide) (hw _ (gwd_0 (List.mem_of_getElem? (i := 47) rfl))) (by first | exact ⟨rfl, rfl⟩ | exact ⟨by assumption, rfl⟩ | exact ⟨by assumption, by assumption⟩ | exact ⟨by omega, rfl⟩ | exact ⟨by omega, by omega⟩ | exact ⟨by decide, rfl⟩) rfl rfl rfl rfl dK_run_41 ?_
        refine s_ciE (va_runV (As := [.int _, .ref _]) (rest := []) ⟨hx, hb, hml, hown, hw⟩ (c_R_makeSteps l  (by assumption) (by assumption) (by omega) (sAns_pc (hpc _ _ (by assumption) (by assumption))) (hPl)) (cwV 2 hw (gd_V (gwd_4 (List.mem_of_getElem? (i := 25) rfl)) (gwd_4 (List.mem_of_getElem? (i := 26) rfl)) (gwd_4 (List.mem_of_getElem? (i := 27) rfl)) (gwd_0 (List.mem_of_getElem? (i := 5) rfl)) (gwd_4 (List.mem_of_getElem? (i := 28) rfl))) rfl rfl rfl (by decide +kernel) ⟨Nat.le_of_ble_eq_true rfl, Nat.le_of_ble_eq_true rfl⟩) (gPre.V (n := (9, _, _)) hK hH (by first | exact ⟨rfl, rfl⟩ | exact ⟨by assumption, rfl⟩ | exact ⟨by assumption, by assumption⟩ | exact ⟨by omega, rfl⟩ | exact ⟨by omega, by omega⟩ | exact ⟨by decide, rfl⟩) rfl rfl) rfl rfl hl.1 rfl (lv_room (Nat.le_of_ble_eq_true rfl)) dK_run_44 ⟨Nat.zero_le _, Nat.zero_le _⟩) hS (fun H locs hH hS => ?_)
        refine lv_istore_n hx hb dK_run_47 rfl hl (by decide) rfl (fun ls hl => ?_)
        have hl : lv_has ls 4 [(3, .int _), (0, .ref _), (1, .int _), (2, .int _)] := hl
        refine lv_aload_n hx hb dK_run_48 rfl (lv_at hl 1 rfl) ?_
        refine lv_aload_n hx hb dK_run_49 rfl (lv_at hl 1 rfl) ?_
        refine s_get hx hb hw inK hown hK hH 7 (by decide) (hw _ (gwd_1 (List.mem_of_getElem? (i := 0) rfl))) (by first | exact ⟨rfl, rfl⟩ | exact ⟨by assumption, rfl⟩ | exact ⟨by assumption, by assumption⟩ | exact ⟨by omega, rfl⟩ | exact ⟨by omega, by omega⟩ | exact ⟨by decide, rfl⟩) rfl rfl rfl rfl dK_run_50 ?_
        refine s_get hx hb hw inR hown hK hH 2 (by decide) (hw _ (gwd_2 (List.mem_of_getElem? (i := 8) rfl))) (by first | exact ⟨rfl, rfl⟩ | exact ⟨by assumption, rfl⟩ | exact ⟨by assumption, by assumption⟩ | exact ⟨by omega, rfl⟩ | exact ⟨by omega, by omega⟩ | exact ⟨by decide, rfl⟩) rfl rfl rfl rfl dK_run_53 ?_
        refine s_put hx hb hw inK tyK_ok nK hown hK hH hS 5 (by decide) (hw _ (gwd_0 (List.mem_of_getElem? (i := 46) rfl))) (by first | exact ⟨rfl, rfl⟩ | exact ⟨by assumption, rfl⟩ | exact ⟨by assumption, by assumption⟩ | exact ⟨by omega, rfl⟩ | exact ⟨by omega, by omega⟩ | exact ⟨by decide, rfl⟩) rfl rfl rfl rfl rfl rfl rfl (Nat.le_of_ble_eq_true rfl) rfl dK_run_56 (fun H locs hH hS => ?_)
        refine lv_iload_n hx hb dK_run_59 rfl (lv_at hl 0 rfl) ?_
        exact r_i hx hb hr hlk hK hH hS dK_run_60 (by simp only [cRun]; rw [if_neg hn1, hib]; exact ⟨rfl, rfl⟩)
      · skip
        refine lv_iconst (v := -1) hx hb dK_run_25 (by decide) ?_
        exact r_i hx hb hr hlk hK hH hS dK_run_26 (by first | exact ⟨rfl, rfl⟩ | (simp only [cRun]; rw [if_pos (Or.inl h_1)]; exact ⟨rfl, rfl⟩) | (simp only [cRun]; rw [if_pos (Or.inr (Int32.not_le.mp h_2))]; exact ⟨rfl, rfl⟩))
set_option maxHeartbeats 4000000 in
set_option maxRecDepth 100000 in
theorem c_K_set (l : Launch) {D : va_G} {c : Nat → ClassId} {sz : Nat} {ad : gN → Nat} {k : Nat} {I J : gI} {P : gP} {LG : Option Nat} {LP : Option (Nat × Nat)} {x y : Int32}  : Met l yK_set wK_set { frames := 1, cells := 0, slots := 0, locals := 20 } (gPre D c sz [.ref (ad (0, 0, 0)), .int x, .int y] (ad, k, I, J, P, LG, LP)) (va_Qi (fun r u => r = (cSet I LP x y).1 ∧ u = (ad, k, (cSet I LP x y).2, J, P, LG, LP)) (gB D c sz) (gA sz)) 0 0 (gA sz) := by
  refine Met.ofW (cc := cK_set) (maxL := 3) (ret := (some .boolean)) (by decide) rfl ?_
  intro p e s m args below meth cd s₁ B hml hv
  obtain ⟨rfl, hK, hH⟩ := hv
  have hx := B.exec
  have hb := B.bytes
  have hr := B.returns
  have hts := atoms_spec (ws := wK_set) B.pre
  have hw : ∀ w ∈ gWd, w.before _ s = true := fun w h => hts w (List.mem_cons_of_mem _ h)
  have hown : s.vm.findClass RK = some m.cls := findClass_of_methodNamed B.named
  have hlk := B.notSynchronized
  have hS : va_S (gA sz) s.heap s.heap [] := va_S.rf
  have hH : gW D c sz ad k I J P LG LP s.heap := hH
  have hl := lv_entry ([.ref (ad (0, 0, 0)), .int x, .int y]) (n := 3) (Nat.le_of_ble_eq_true rfl)
  rw [lg_entry_eq]
  generalize (lg_sl ([.ref (ad (0, 0, 0)), .int x, .int y]) ++ List.replicate (3 - (lg_sl ([.ref (ad (0, 0, 0)), .int x, .int y])).length) Slot.unset).toArray = ls at hl ⊢
  have hl : lv_has ls 3 [(0, .ref (ad (0, 0, 0))), (1, .int x), (2, .int y)] := hl
  refine lv_iload_n hx hb dK_set_0 rfl (lv_at hl 1 rfl) ?_
  refine s_ciE (va_runS (As := [.int _]) (rest := []) ⟨hx, hb, hml, hown, hw⟩ (c_K_isRegister l  ) (cwS 1 hw (gd_S (gwd_5 (List.mem_of_getElem? (i := 10) rfl)) (gwd_5 (List.mem_of_getElem? (i := 11) rfl)) (gwd_0 (List.mem_of_getElem? (i := 1) rfl)) (gwd_5 (List.mem_of_getElem? (i := 12) rfl))) rfl rfl rfl (by decide +kernel) ⟨Nat.le_of_ble_eq_true rfl, Nat.le_of_ble_eq_true rfl⟩) (gPre.S hK hH) rfl rfl hl.1 rfl (lv_room (Nat.le_of_ble_eq_true rfl)) dK_set_1 ⟨Nat.zero_le _, Nat.zero_le _⟩) hS (fun H locs hH hS => ?_)
  refine s_ifeq hx hb dK_set_4 rfl (fun h_1 => ?_) (fun h_1 => ?_)
  · skip
    refine lv_iconst (v := 0) hx hb dK_set_14 (by decide) ?_
    exact r_z hx hb hr hlk hK hH hS dK_set_15 (by first | exact Or.inl rfl | exact Or.inr rfl | exact bz_01 _ | assumption) (by first | (rw [cSet, if_neg (fun q => h_1 q.1)]; exact ⟨rfl, rfl⟩) | (rw [cSet, if_neg (fun q => by cases q.2)]; exact ⟨rfl, rfl⟩) | (rw [cSet, if_pos ⟨h_1, rfl⟩, hi2]; exact ⟨rfl, rfl⟩))
  · skip
    obtain ⟨i4, hi4, rfl⟩ := is4_ix h_1
    have hi2 : ix (nI i4) = i4 := ix_nI (by omega)
    refine lv_aload_n hx hb dK_set_7 rfl (lv_at hl 0 rfl) ?_
    refine s_get hx hb hw inK hown hK hH 7 (by decide) (hw _ (gwd_1 (List.mem_of_getElem? (i := 0) rfl))) (by first | exact ⟨rfl, rfl⟩ | exact ⟨by assumption, rfl⟩ | exact ⟨by assumption, by assumption⟩ | exact ⟨by omega, rfl⟩ | exact ⟨by omega, by omega⟩ | exact ⟨by decide, rfl⟩) rfl rfl rfl rfl dK_set_8 ?_
    rcases LP with _ | ⟨lg, lv⟩
    · skip
      refine lv_ifnullN hx hb dK_set_11 rfl ?_
      refine lv_aload_n hx hb dK_set_16 rfl (lv_at hl 0 rfl) ?_
      refine s_get hx hb hw inK hown hK hH 2 (by decide) (hw _ (gwd_0 (List.mem_of_getElem? (i := 43) rfl))) (by first | exact ⟨rfl, rfl⟩ | exact ⟨by assumption, rfl⟩ | exact ⟨by assumption, by assumption⟩ | exact ⟨by omega, rfl⟩ | exact ⟨by omega, by omega⟩ | exact ⟨by decide, rfl⟩) rfl rfl rfl rfl dK_set_17 ?_
      refine lv_iload_n hx hb dK_set_20 rfl (lv_at hl 1 rfl) ?_
      refine lv_iload_n hx hb dK_set_21 rfl (lv_at hl 2 rfl) ?_
      refine s_iast hx hb hK hH hS (by first | exact ⟨rfl, rfl⟩ | exact ⟨by assumption, rfl⟩ | exact ⟨by assumption, by assumption⟩ | exact ⟨by omega, rfl⟩ | exact ⟨by omega, by omega⟩ | exact ⟨by decide, rfl⟩) rfl _ (by first | rfl | assumption) (by first | assumption | decide | omega) (by decide) rfl dK_set_22 (fun H locs hH hS => ?_)
      refine lv_iconst (v := 1) hx hb dK_set_23 (by decide) ?_
      exact r_z hx hb hr hlk hK hH hS dK_set_24 (by first | exact Or.inl rfl | exact Or.inr rfl | exact bz_01 _ | assumption) (by first | (rw [cSet, if_neg (fun q => h_1 q.1)]; exact ⟨rfl, rfl⟩) | (rw [cSet, if_neg (fun q => by cases q.2)]; exact ⟨rfl, rfl⟩) | (rw [cSet, if_pos ⟨h_1, rfl⟩, hi2]; exact ⟨rfl, rfl⟩))
    · skip
      refine lv_ifnull hx hb dK_set_11 ?_
      refine lv_iconst (v := 0) hx hb dK_set_14 (by decide) ?_
      exact r_z hx hb hr hlk hK hH hS dK_set_15 (by first | exact Or.inl rfl | exact Or.inr rfl | exact bz_01 _ | assumption) (by first | (rw [cSet, if_neg (fun q => h_1 q.1)]; exact ⟨rfl, rfl⟩) | (rw [cSet, if_neg (fun q => by cases q.2)]; exact ⟨rfl, rfl⟩) | (rw [cSet, if_pos ⟨h_1, rfl⟩, hi2]; exact ⟨rfl, rfl⟩))
set_option maxHeartbeats 4000000 in
set_option maxRecDepth 100000 in
theorem c_K_register (l : Launch) {D : va_G} {c : Nat → ClassId} {sz : Nat} {ad : gN → Nat} {k : Nat} {I J : gI} {P : gP} {LG : Option Nat} {LP : Option (Nat × Nat)} {x : Int32}  : Met l yK_register wK_register { frames := 1, cells := 0, slots := 0, locals := 20 } (gPre D c sz [.ref (ad (0, 0, 0)), .int x] (ad, k, I, J, P, LG, LP)) (va_Qi (fun r u => r = cReg I LP x ∧ u = (ad, k, I, J, P, LG, LP)) (gB D c sz) (gA sz)) 0 0 (gA sz) := by
  refine Met.ofW (cc := cK_register) (maxL := 2) (ret := (some .int)) (by decide) rfl ?_
  intro p e s m args below meth cd s₁ B hml hv
  obtain ⟨rfl, hK, hH⟩ := hv
  have hx := B.exec
  have hb := B.bytes
  have hr := B.returns
  have hts := atoms_spec (ws := wK_register) B.pre
  have hw : ∀ w ∈ gWd, w.before _ s = true := fun w h => hts w (List.mem_cons_of_mem _ h)
  have hown : s.vm.findClass RK = some m.cls := findClass_of_methodNamed B.named
  have hlk := B.notSynchronized
  have hS : va_S (gA sz) s.heap s.heap [] := va_S.rf
  have hH : gW D c sz ad k I J P LG LP s.heap := hH
  have hl := lv_entry ([.ref (ad (0, 0, 0)), .int x]) (n := 2) (Nat.le_of_ble_eq_true rfl)
  rw [lg_entry_eq]
  generalize (lg_sl ([.ref (ad (0, 0, 0)), .int x]) ++ List.replicate (2 - (lg_sl ([.ref (ad (0, 0, 0)), .int x])).length) Slot.unset).toArray = ls at hl ⊢
  have hl : lv_has ls 2 [(0, .ref (ad (0, 0, 0))), (1, .int x)] := hl
  refine lv_iload_n hx hb dK_register_0 rfl (lv_at hl 1 rfl) ?_
  refine s_ciE (va_runS (As := [.int _]) (rest := []) ⟨hx, hb, hml, hown, hw⟩ (c_K_isRegister l  ) (cwS 1 hw (gd_S (gwd_5 (List.mem_of_getElem? (i := 10) rfl)) (gwd_5 (List.mem_of_getElem? (i := 11) rfl)) (gwd_0 (List.mem_of_getElem? (i := 1) rfl)) (gwd_5 (List.mem_of_getElem? (i := 12) rfl))) rfl rfl rfl (by decide +kernel) ⟨Nat.le_of_ble_eq_true rfl, Nat.le_of_ble_eq_true rfl⟩) (gPre.S hK hH) rfl rfl hl.1 rfl (lv_room (Nat.le_of_ble_eq_true rfl)) dK_register_1 ⟨Nat.zero_le _, Nat.zero_le _⟩) hS (fun H locs hH hS => ?_)
  refine s_ifeq hx hb dK_register_4 rfl (fun h_1 => ?_) (fun h_1 => ?_)
  · skip
    refine lv_iconst (v := 0) hx hb dK_register_14 (by decide) ?_
    exact r_i hx hb hr hlk hK hH hS dK_register_15 (⟨by first | (rw [cReg, if_neg (fun q => h_1 q.1)]; done) | (rw [cReg, if_neg (fun q => by cases q.2)]; done) | (rw [cReg, if_pos ⟨h_1, rfl⟩, hi2]; done), rfl⟩)
  · skip
    obtain ⟨i4, hi4, rfl⟩ := is4_ix h_1
    have hi2 : ix (nI i4) = i4 := ix_nI (by omega)
    refine lv_aload_n hx hb dK_register_7 rfl (lv_at hl 0 rfl) ?_
    refine s_get hx hb hw inK hown hK hH 7 (by decide) (hw _ (gwd_1 (List.mem_of_getElem? (i := 0) rfl))) (by first | exact ⟨rfl, rfl⟩ | exact ⟨by assumption, rfl⟩ | exact ⟨by assumption, by assumption⟩ | exact ⟨by omega, rfl⟩ | exact ⟨by omega, by omega⟩ | exact ⟨by decide, rfl⟩) rfl rfl rfl rfl dK_register_8 ?_
    rcases LP with _ | ⟨lg, lv⟩
    · skip
      refine lv_ifnullN hx hb dK_register_11 rfl ?_
      refine lv_aload_n hx hb dK_register_16 rfl (lv_at hl 0 rfl) ?_
      refine s_get hx hb hw inK hown hK hH 2 (by decide) (hw _ (gwd_0 (List.mem_of_getElem? (i := 43) rfl))) (by first | exact ⟨rfl, rfl⟩ | exact ⟨by assumption, rfl⟩ | exact ⟨by assumption, by assumption⟩ | exact ⟨by omega, rfl⟩ | exact ⟨by omega, by omega⟩ | exact ⟨by decide, rfl⟩) rfl rfl rfl rfl dK_register_17 ?_
      refine lv_iload_n hx hb dK_register_20 rfl (lv_at hl 1 rfl) ?_
      refine s_iald hx hb hK hH (by first | exact ⟨rfl, rfl⟩ | exact ⟨by assumption, rfl⟩ | exact ⟨by assumption, by assumption⟩ | exact ⟨by omega, rfl⟩ | exact ⟨by omega, by omega⟩ | exact ⟨by decide, rfl⟩) rfl _ (by first | rfl | assumption) (by first | assumption | decide | omega) (by decide) dK_register_21 ?_
      exact r_i hx hb hr hlk hK hH hS dK_register_22 (⟨by first | (rw [cReg, if_neg (fun q => h_1 q.1)]; done) | (rw [cReg, if_neg (fun q => by cases q.2)]; done) | (rw [cReg, if_pos ⟨h_1, rfl⟩, hi2]; done), rfl⟩)
    · skip
      refine lv_ifnull hx hb dK_register_11 ?_
      refine lv_iconst (v := 0) hx hb dK_register_14 (by decide) ?_
      exact r_i hx hb hr hlk hK hH hS dK_register_15 (⟨by first | (rw [cReg, if_neg (fun q => h_1 q.1)]; done) | (rw [cReg, if_neg (fun q => by cases q.2)]; done) | (rw [cReg, if_pos ⟨h_1, rfl⟩, hi2]; done), rfl⟩)
end
section
theorem idx4 (a b : Nat) : (4 : Int32) * nI a + nI b = nI (4 * a + b) := by
  rw [show (4 : Int32) = nI 4 from rfl, pk_mul, nI_add]
theorem gst_ix {a : Int32} {k : Nat} (hk : k ≤ 6) (h1 : ¬ a < 1) (h2 : ¬ nI k < a) : ∃ j, j < 7 ∧ a = nI j := by
  have h0 : ¬ a < 0 := fun q => h1 (Int32.lt_of_lt_of_le q (by decide))
  obtain ⟨j, hj, rfl⟩ := ix_le k (nI k) rfl (by omega) h0 (Int32.not_lt.mp h2)
  exact ⟨j, by omega, rfl⟩
theorem mHeld_cases (J : gI) (G a : Int32) : mHeld J G a = -1 ∨ ∃ q, q < 24 ∧ mHeld J G a = nI q := by
  have key : ∀ (f : Nat → Bool) (n i : Nat), findF f n i = -1 ∨ ∃ q, q < i + n ∧ findF f n i = nI q := by
    intro f n
    induction n with
    | zero => intro i; exact Or.inl rfl
    | succ n ih =>
      intro i
      by_cases h : f i = true
      · exact Or.inr ⟨i, by omega, by simp [findF, h]⟩
      · rcases ih (i + 1) with z | ⟨q, hq, z⟩
        · exact Or.inl (by simp only [findF, h]; exact z)
        · exact Or.inr ⟨q, by omega, by simp only [findF, h]; exact z⟩
  exact key _ 24 0
set_option maxHeartbeats 4000000 in
set_option maxRecDepth 100000 in
theorem c_M_isPage (l : Launch) {D : va_G} {c : Nat → ClassId} {sz : Nat} {ad : gN → Nat} {k : Nat} {I J : gI} {P : gP} {LG : Option Nat} {LP : Option (Nat × Nat)} {x : Int32}  : Met l yM_isPage wM_isPage { frames := 0, cells := 0, slots := 0, locals := 0 } (gPre D c sz [.int x] (ad, k, I, J, P, LG, LP)) (va_Qi (fun r u => r = bz (isP x) ∧ u = (ad, k, I, J, P, LG, LP)) (gB D c sz) (gA sz)) 0 0 (gA sz) := by
  refine Met.ofW (cc := cM_isPage) (maxL := 1) (ret := (some .boolean)) (by decide) rfl ?_
  intro p e s m args below meth cd s₁ B hml hv
  obtain ⟨rfl, hK, hH⟩ := hv
  have hx := B.exec
  have hb := B.bytes
  have hr := B.returns
  have hts := atoms_spec (ws := wM_isPage) B.pre
  have hw : ∀ w ∈ gWd, w.before _ s = true := fun w h => hts w (List.mem_cons_of_mem _ h)
  have hown : s.vm.findClass RM = some m.cls := findClass_of_methodNamed B.named
  have hlk := B.notSynchronized
  have hS : va_S (gA sz) s.heap s.heap [] := va_S.rf
  have hH : gW D c sz ad k I J P LG LP s.heap := hH
  have hl := lv_entry ([.int x]) (n := 1) (Nat.le_of_ble_eq_true rfl)
  rw [lg_entry_eq]
  generalize (lg_sl ([.int x]) ++ List.replicate (1 - (lg_sl ([.int x])).length) Slot.unset).toArray = ls at hl ⊢
  have hl : lv_has ls 1 [(0, .int x)] := hl
  refine lv_iload_n hx hb dM_isPage_0 rfl (lv_at hl 0 rfl) ?_
  refine lv_if_lt hx hb dM_isPage_1 rfl (fun h_1 => ?_) (fun h_1 => ?_)
  · skip
    refine lv_iconst (v := 0) hx hb dM_isPage_14 (by decide) ?_
    exact r_z hx hb hr hlk hK hH hS dM_isPage_15 (by first | exact Or.inl rfl | exact Or.inr rfl | exact bz_01 _ | assumption) (⟨(bz_f (fun q => q.1 h_1)).symm, rfl⟩)
  · skip
    refine lv_iload_n hx hb dM_isPage_4 rfl (lv_at hl 0 rfl) ?_
    refine lv_bipush (v := 24) hx hb dM_isPage_5 (by decide) ?_
    refine lv_icmp_ge hx hb dM_isPage_7 rfl (fun h_2 => ?_) (fun h_2 => ?_)
    · skip
      refine lv_iconst (v := 0) hx hb dM_isPage_14 (by decide) ?_
      exact r_z hx hb hr hlk hK hH hS dM_isPage_15 (by first | exact Or.inl rfl | exact Or.inr rfl | exact bz_01 _ | assumption) (⟨by first | exact (bz_t ⟨h_1, h_2⟩).symm | exact (bz_f (fun q => q.2 h_2)).symm, rfl⟩)
    · skip
      refine lv_iconst (v := 1) hx hb dM_isPage_10 (by decide) ?_
      refine lv_goto hx hb dM_isPage_11 rfl ?_
      exact r_z hx hb hr hlk hK hH hS dM_isPage_15 (by first | exact Or.inl rfl | exact Or.inr rfl | exact bz_01 _ | assumption) (⟨by first | exact (bz_t ⟨h_1, h_2⟩).symm | exact (bz_f (fun q => q.2 h_2)).symm, rfl⟩)
set_option maxHeartbeats 4000000 in
set_option maxRecDepth 100000 in
theorem c_M_isFree (l : Launch) {D : va_G} {c : Nat → ClassId} {sz : Nat} {ad : gN → Nat} {k : Nat} {I J : gI} {P : gP} {LG : Option Nat} {LP : Option (Nat × Nat)} {x : Int32}  : Met l yM_isFree wM_isFree { frames := 1, cells := 0, slots := 0, locals := 20 } (gPre D c sz [.ref (ad (11, 0, 0)), .int x] (ad, k, I, J, P, LG, LP)) (va_Qi (fun r u => r = bz (mFree J x) ∧ u = (ad, k, I, J, P, LG, LP)) (gB D c sz) (gA sz)) 0 0 (gA sz) := by
  refine Met.ofW (cc := cM_isFree) (maxL := 2) (ret := (some .boolean)) (by decide) rfl ?_
  intro p e s m args below meth cd s₁ B hml hv
  obtain ⟨rfl, hK, hH⟩ := hv
  have hx := B.exec
  have hb := B.bytes
  have hr := B.returns
  have hts := atoms_spec (ws := wM_isFree) B.pre
  have hw : ∀ w ∈ gWd, w.before _ s = true := fun w h => hts w (List.mem_cons_of_mem _ h)
  have hown : s.vm.findClass RM = some m.cls := findClass_of_methodNamed B.named
  have hlk := B.notSynchronized
  have hS : va_S (gA sz) s.heap s.heap [] := va_S.rf
  have hH : gW D c sz ad k I J P LG LP s.heap := hH
  have hl := lv_entry ([.ref (ad (11, 0, 0)), .int x]) (n := 2) (Nat.le_of_ble_eq_true rfl)
  rw [lg_entry_eq]
  generalize (lg_sl ([.ref (ad (11, 0, 0)), .int x]) ++ List.replicate (2 - (lg_sl ([.ref (ad (11, 0, 0)), .int x])).length) Slot.unset).toArray = ls at hl ⊢
  have hl : lv_has ls 2 [(0, .ref (ad (11, 0, 0))), (1, .int x)] := hl
  refine lv_iload_n hx hb dM_isFree_0 rfl (lv_at hl 1 rfl) ?_
  refine s_ciE (va_runS (As := [.int _]) (rest := []) ⟨hx, hb, hml, hown, hw⟩ (c_M_isPage l  ) (cwS 1 hw (gd_S (gwd_6 (List.mem_of_getElem? (i := 34) rfl)) (gwd_6 (List.mem_of_getElem? (i := 35) rfl)) (gwd_0 (List.mem_of_getElem? (i := 3) rfl)) (gwd_6 (List.mem_of_getElem? (i := 36) rfl))) rfl rfl rfl (by decide +kernel) ⟨Nat.le_of_ble_eq_true rfl, Nat.le_of_ble_eq_true rfl⟩) (gPre.S hK hH) rfl rfl hl.1 rfl (lv_room (Nat.le_of_ble_eq_true rfl)) dM_isFree_1 ⟨Nat.zero_le _, Nat.zero_le _⟩) hS (fun H locs hH hS => ?_)
  refine s_ifeq hx hb dM_isFree_4 rfl (fun h_1 => ?_) (fun h_1 => ?_)
  · skip
    refine lv_iconst (v := 0) hx hb dM_isFree_29 (by decide) ?_
    exact r_z hx hb hr hlk hK hH hS dM_isFree_30 (by first | exact Or.inl rfl | exact Or.inr rfl | exact bz_01 _ | assumption) (⟨(bz_f (fun q => h_1 q.1)).symm, rfl⟩)
  · skip
    obtain ⟨j, hj, rfl⟩ := isP_ix h_1
    have hi : ix (nI j) = j := ix_nI (by omega)
    refine lv_aload_n hx hb dM_isFree_7 rfl (lv_at hl 0 rfl) ?_
    refine s_get hx hb hw inM hown hK hH 1 (by decide) (hw _ (gwd_5 (List.mem_of_getElem? (i := 41) rfl))) (by first | exact ⟨rfl, rfl⟩ | exact ⟨by assumption, rfl⟩ | exact ⟨by assumption, by assumption⟩ | exact ⟨by omega, rfl⟩ | exact ⟨by omega, by omega⟩ | exact ⟨by decide, rfl⟩) rfl rfl rfl rfl dM_isFree_8 ?_
    refine lv_iload_n hx hb dM_isFree_11 rfl (lv_at hl 1 rfl) ?_
    refine m_iald hx hb hK hH (by first | exact ⟨rfl, rfl⟩ | exact ⟨by assumption, rfl⟩ | exact ⟨by assumption, by assumption⟩ | exact ⟨by omega, rfl⟩ | exact ⟨by omega, by omega⟩ | exact ⟨by decide, rfl⟩) rfl _ (by first | rfl | assumption) (show _ < 24 from by first | assumption | decide | omega) (by decide) dM_isFree_12 ?_
    refine lv_if_ne hx hb dM_isFree_13 rfl (fun h_2 => ?_) (fun h_2 => ?_)
    · skip
      refine lv_iconst (v := 0) hx hb dM_isFree_29 (by decide) ?_
      exact r_z hx hb hr hlk hK hH hS dM_isFree_30 (by first | exact Or.inl rfl | exact Or.inr rfl | exact bz_01 _ | assumption) (⟨(bz_f (fun q => h_2 (by have z := q.2.1; rw [hi] at z; exact z))).symm, rfl⟩)
    · skip
      refine lv_aload_n hx hb dM_isFree_16 rfl (lv_at hl 0 rfl) ?_
      refine s_get hx hb hw inM hown hK hH 3 (by decide) (hw _ (gwd_5 (List.mem_of_getElem? (i := 43) rfl))) (by first | exact ⟨rfl, rfl⟩ | exact ⟨by assumption, rfl⟩ | exact ⟨by assumption, by assumption⟩ | exact ⟨by omega, rfl⟩ | exact ⟨by omega, by omega⟩ | exact ⟨by decide, rfl⟩) rfl rfl rfl rfl dM_isFree_17 ?_
      refine lv_iload_n hx hb dM_isFree_20 rfl (lv_at hl 1 rfl) ?_
      refine m_iald hx hb hK hH (by first | exact ⟨rfl, rfl⟩ | exact ⟨by assumption, rfl⟩ | exact ⟨by assumption, by assumption⟩ | exact ⟨by omega, rfl⟩ | exact ⟨by omega, by omega⟩ | exact ⟨by decide, rfl⟩) rfl _ (by first | rfl | assumption) (show _ < 24 from by first | assumption | decide | omega) (by decide) dM_isFree_21 ?_
      refine lv_if_ne hx hb dM_isFree_22 rfl (fun h_3 => ?_) (fun h_3 => ?_)
      · skip
        refine lv_iconst (v := 0) hx hb dM_isFree_29 (by decide) ?_
        exact r_z hx hb hr hlk hK hH hS dM_isFree_30 (by first | exact Or.inl rfl | exact Or.inr rfl | exact bz_01 _ | assumption) (⟨by first | exact (bz_t ⟨h_1, by rw [hi]; exact h_2, by rw [hi]; exact h_3⟩).symm | exact (bz_f (fun q => h_3 (by have z := q.2.2; rw [hi] at z; exact z))).symm, rfl⟩)
      · skip
        refine lv_iconst (v := 1) hx hb dM_isFree_25 (by decide) ?_
        refine lv_goto hx hb dM_isFree_26 rfl ?_
        exact r_z hx hb hr hlk hK hH hS dM_isFree_30 (by first | exact Or.inl rfl | exact Or.inr rfl | exact bz_01 _ | assumption) (⟨by first | exact (bz_t ⟨h_1, by rw [hi]; exact h_2, by rw [hi]; exact h_3⟩).symm | exact (bz_f (fun q => h_3 (by have z := q.2.2; rw [hi] at z; exact z))).symm, rfl⟩)
set_option maxHeartbeats 4000000 in
set_option maxRecDepth 100000 in
theorem c_M_isGuest (l : Launch) {D : va_G} {c : Nat → ClassId} {sz : Nat} {ad : gN → Nat} {k : Nat} {I J : gI} {P : gP} {LG : Option Nat} {LP : Option (Nat × Nat)} {a : Int32} (hk : k ≤ 6) (hmd : J (11, 0, 0) 7 = nI k) : Met l yM_isGuest wM_isGuest { frames := 0, cells := 0, slots := 0, locals := 0 } (gPre D c sz [.ref (ad (11, 0, 0)), .int a] (ad, k, I, J, P, LG, LP)) (va_Qi (fun r u => r = bz (mGst J a) ∧ u = (ad, k, I, J, P, LG, LP)) (gB D c sz) (gA sz)) 0 0 (gA sz) := by
  refine Met.ofW (cc := cM_isGuest) (maxL := 2) (ret := (some .boolean)) (by decide) rfl ?_
  intro p e s m args below meth cd s₁ B hml hv
  obtain ⟨rfl, hK, hH⟩ := hv
  have hx := B.exec
  have hb := B.bytes
  have hr := B.returns
  have hts := atoms_spec (ws := wM_isGuest) B.pre
  have hw : ∀ w ∈ gWd, w.before _ s = true := fun w h => hts w (List.mem_cons_of_mem _ h)
  have hown : s.vm.findClass RM = some m.cls := findClass_of_methodNamed B.named
  have hlk := B.notSynchronized
  have hS : va_S (gA sz) s.heap s.heap [] := va_S.rf
  have hH : gW D c sz ad k I J P LG LP s.heap := hH
  have hl := lv_entry ([.ref (ad (11, 0, 0)), .int a]) (n := 2) (Nat.le_of_ble_eq_true rfl)
  rw [lg_entry_eq]
  generalize (lg_sl ([.ref (ad (11, 0, 0)), .int a]) ++ List.replicate (2 - (lg_sl ([.ref (ad (11, 0, 0)), .int a])).length) Slot.unset).toArray = ls at hl ⊢
  have hl : lv_has ls 2 [(0, .ref (ad (11, 0, 0))), (1, .int a)] := hl
  refine lv_iload_n hx hb dM_isGuest_0 rfl (lv_at hl 1 rfl) ?_
  refine lv_iconst (v := 1) hx hb dM_isGuest_1 (by decide) ?_
  refine lv_icmp_lt hx hb dM_isGuest_2 rfl (fun h_1 => ?_) (fun h_1 => ?_)
  · skip
    refine lv_iconst (v := 0) hx hb dM_isGuest_26 (by decide) ?_
    exact r_z hx hb hr hlk hK hH hS dM_isGuest_27 (by first | exact Or.inl rfl | exact Or.inr rfl | exact bz_01 _ | assumption) (⟨(bz_f (fun q => q.1 h_1)).symm, rfl⟩)
  · skip
    refine lv_iload_n hx hb dM_isGuest_5 rfl (lv_at hl 1 rfl) ?_
    refine lv_aload_n hx hb dM_isGuest_6 rfl (lv_at hl 0 rfl) ?_
    refine s_get hx hb hw inM hown hK hH 7 (by decide) (hw _ (gwd_5 (List.mem_of_getElem? (i := 47) rfl))) (by first | exact ⟨rfl, rfl⟩ | exact ⟨by assumption, rfl⟩ | exact ⟨by assumption, by assumption⟩ | exact ⟨by omega, rfl⟩ | exact ⟨by omega, by omega⟩ | exact ⟨by decide, rfl⟩) rfl rfl rfl rfl dM_isGuest_7 ?_
    refine lv_icmp_gt hx hb dM_isGuest_10 rfl (fun h_2 => ?_) (fun h_2 => ?_)
    · skip
      refine lv_iconst (v := 0) hx hb dM_isGuest_26 (by decide) ?_
      exact r_z hx hb hr hlk hK hH hS dM_isGuest_27 (by first | exact Or.inl rfl | exact Or.inr rfl | exact bz_01 _ | assumption) (⟨(bz_f (fun q => q.2.1 h_2)).symm, rfl⟩)
    · skip
      obtain ⟨j, hj, rfl⟩ := gst_ix hk h_1 (by rw [← hmd]; exact h_2)
      have hi : ix (nI j) = j := ix_nI (by omega)
      refine lv_aload_n hx hb dM_isGuest_13 rfl (lv_at hl 0 rfl) ?_
      refine s_get hx hb hw inM hown hK hH 8 (by decide) (hw _ (gwd_6 (List.mem_of_getElem? (i := 0) rfl))) (by first | exact ⟨rfl, rfl⟩ | exact ⟨by assumption, rfl⟩ | exact ⟨by assumption, by assumption⟩ | exact ⟨by omega, rfl⟩ | exact ⟨by omega, by omega⟩ | exact ⟨by decide, rfl⟩) rfl rfl rfl rfl dM_isGuest_14 ?_
      refine lv_iload_n hx hb dM_isGuest_17 rfl (lv_at hl 1 rfl) ?_
      refine m_zald hx hb hK hH (by first | exact ⟨rfl, rfl⟩ | exact ⟨by assumption, rfl⟩ | exact ⟨by assumption, by assumption⟩ | exact ⟨by omega, rfl⟩ | exact ⟨by omega, by omega⟩ | exact ⟨by decide, rfl⟩) rfl _ (by first | rfl | assumption) (show _ < 7 from by first | assumption | decide | omega) (by decide) dM_isGuest_18 ?_
      refine lv_if_eq hx hb dM_isGuest_19 rfl (fun h_3 => ?_) (fun h_3 => ?_)
      · skip
        refine lv_iconst (v := 0) hx hb dM_isGuest_26 (by decide) ?_
        exact r_z hx hb hr hlk hK hH hS dM_isGuest_27 (by first | exact Or.inl rfl | exact Or.inr rfl | exact bz_01 _ | assumption) (⟨by first | exact (bz_t ⟨h_1, h_2, by rw [hi]; exact h_3⟩).symm | exact (bz_f (fun q => q.2.2 (by rw [hi]; exact h_3))).symm, rfl⟩)
      · skip
        refine lv_iconst (v := 1) hx hb dM_isGuest_22 (by decide) ?_
        refine lv_goto hx hb dM_isGuest_23 rfl ?_
        exact r_z hx hb hr hlk hK hH hS dM_isGuest_27 (by first | exact Or.inl rfl | exact Or.inr rfl | exact bz_01 _ | assumption) (⟨by first | exact (bz_t ⟨h_1, h_2, by rw [hi]; exact h_3⟩).symm | exact (bz_f (fun q => q.2.2 (by rw [hi]; exact h_3))).symm, rfl⟩)
set_option maxHeartbeats 4000000 in
set_option maxRecDepth 100000 in
theorem c_M_hostMay (l : Launch) {D : va_G} {c : Nat → ClassId} {sz : Nat} {ad : gN → Nat} {k : Nat} {I J : gI} {P : gP} {LG : Option Nat} {LP : Option (Nat × Nat)} {q : Nat} (hq : q < 24) : Met l yM_hostMay wM_hostMay { frames := 0, cells := 0, slots := 0, locals := 0 } (gPre D c sz [.ref (ad (11, 0, 0)), .int (nI q)] (ad, k, I, J, P, LG, LP)) (va_Qi (fun r u => r = bz (mMay J q) ∧ u = (ad, k, I, J, P, LG, LP)) (gB D c sz) (gA sz)) 0 0 (gA sz) := by
  refine Met.ofW (cc := cM_hostMay) (maxL := 2) (ret := (some .boolean)) (by decide) rfl ?_
  intro p e s m args below meth cd s₁ B hml hv
  obtain ⟨rfl, hK, hH⟩ := hv
  have hx := B.exec
  have hb := B.bytes
  have hr := B.returns
  have hts := atoms_spec (ws := wM_hostMay) B.pre
  have hw : ∀ w ∈ gWd, w.before _ s = true := fun w h => hts w (List.mem_cons_of_mem _ h)
  have hown : s.vm.findClass RM = some m.cls := findClass_of_methodNamed B.named
  have hlk := B.notSynchronized
  have hS : va_S (gA sz) s.heap s.heap [] := va_S.rf
  have hH : gW D c sz ad k I J P LG LP s.heap := hH
  have hl := lv_entry ([.ref (ad (11, 0, 0)), .int (nI q)]) (n := 2) (Nat.le_of_ble_eq_true rfl)
  rw [lg_entry_eq]
  generalize (lg_sl ([.ref (ad (11, 0, 0)), .int (nI q)]) ++ List.replicate (2 - (lg_sl ([.ref (ad (11, 0, 0)), .int (nI q)])).length) Slot.unset).toArray = ls at hl ⊢
  have hl : lv_has ls 2 [(0, .ref (ad (11, 0, 0))), (1, .int (nI q))] := hl
  refine lv_aload_n hx hb dM_hostMay_0 rfl (lv_at hl 0 rfl) ?_
  refine s_get hx hb hw inM hown hK hH 1 (by decide) (hw _ (gwd_5 (List.mem_of_getElem? (i := 41) rfl))) (by first | exact ⟨rfl, rfl⟩ | exact ⟨by assumption, rfl⟩ | exact ⟨by assumption, by assumption⟩ | exact ⟨by omega, rfl⟩ | exact ⟨by omega, by omega⟩ | exact ⟨by decide, rfl⟩) rfl rfl rfl rfl dM_hostMay_1 ?_
  refine lv_iload_n hx hb dM_hostMay_4 rfl (lv_at hl 1 rfl) ?_
  refine m_iald hx hb hK hH (by first | exact ⟨rfl, rfl⟩ | exact ⟨by assumption, rfl⟩ | exact ⟨by assumption, by assumption⟩ | exact ⟨by omega, rfl⟩ | exact ⟨by omega, by omega⟩ | exact ⟨by decide, rfl⟩) rfl _ (by first | rfl | assumption) (show _ < 24 from by first | assumption | decide | omega) (by decide) dM_hostMay_5 ?_
  refine lv_if_eq hx hb dM_hostMay_6 rfl (fun h_1 => ?_) (fun h_1 => ?_)
  · skip
    refine lv_iconst (v := 1) hx hb dM_hostMay_18 (by decide) ?_
    refine lv_goto hx hb dM_hostMay_19 rfl ?_
    exact r_z hx hb hr hlk hK hH hS dM_hostMay_23 (by first | exact Or.inl rfl | exact Or.inr rfl | exact bz_01 _ | assumption) (⟨by simp [bz, h_1], rfl⟩)
  · skip
    refine lv_aload_n hx hb dM_hostMay_9 rfl (lv_at hl 0 rfl) ?_
    refine s_get hx hb hw inM hown hK hH 5 (by decide) (hw _ (gwd_5 (List.mem_of_getElem? (i := 45) rfl))) (by first | exact ⟨rfl, rfl⟩ | exact ⟨by assumption, rfl⟩ | exact ⟨by assumption, by assumption⟩ | exact ⟨by omega, rfl⟩ | exact ⟨by omega, by omega⟩ | exact ⟨by decide, rfl⟩) rfl rfl rfl rfl dM_hostMay_10 ?_
    refine lv_iload_n hx hb dM_hostMay_13 rfl (lv_at hl 1 rfl) ?_
    refine m_zald hx hb hK hH (by first | exact ⟨rfl, rfl⟩ | exact ⟨by assumption, rfl⟩ | exact ⟨by assumption, by assumption⟩ | exact ⟨by omega, rfl⟩ | exact ⟨by omega, by omega⟩ | exact ⟨by decide, rfl⟩) rfl _ (by first | rfl | assumption) (show _ < 24 from by first | assumption | decide | omega) (by decide) dM_hostMay_14 ?_
    refine lv_if_eq hx hb dM_hostMay_15 rfl (fun h_2 => ?_) (fun h_2 => ?_)
    · skip
      refine lv_iconst (v := 0) hx hb dM_hostMay_22 (by decide) ?_
      exact r_z hx hb hr hlk hK hH hS dM_hostMay_23 (by first | exact Or.inl rfl | exact Or.inr rfl | exact bz_01 _ | assumption) (⟨by simp [bz, h_1, h_2], rfl⟩)
    · skip
      refine lv_iconst (v := 1) hx hb dM_hostMay_18 (by decide) ?_
      refine lv_goto hx hb dM_hostMay_19 rfl ?_
      exact r_z hx hb hr hlk hK hH hS dM_hostMay_23 (by first | exact Or.inl rfl | exact Or.inr rfl | exact bz_01 _ | assumption) (⟨by simp [bz, h_1, h_2], rfl⟩)
set_option maxHeartbeats 4000000 in
set_option maxRecDepth 100000 in
theorem c_M_wipe (l : Launch) {D : va_G} {c : Nat → ClassId} {sz : Nat} {ad : gN → Nat} {k : Nat} {I J : gI} {P : gP} {LG : Option Nat} {LP : Option (Nat × Nat)} {q : Nat} (hq : q < 24) : Met l yM_wipe wM_wipe { frames := 0, cells := 0, slots := 0, locals := 0 } (gPre D c sz [.ref (ad (11, 0, 0)), .int (nI q)] (ad, k, I, J, P, LG, LP)) (va_Qv (fun u => u = (ad, k, I, mWipe J q, P, LG, LP)) (gB D c sz) (gA sz)) 0 0 (gA sz) := by
  refine Met.ofW (cc := cM_wipe) (maxL := 3) (ret := none) (by decide) rfl ?_
  intro p e s m args below meth cd s₁ B hml hv
  obtain ⟨rfl, hK, hH⟩ := hv
  have hx := B.exec
  have hb := B.bytes
  have hr := B.returns
  have hts := atoms_spec (ws := wM_wipe) B.pre
  have hw : ∀ w ∈ gWd, w.before _ s = true := fun w h => hts w (List.mem_cons_of_mem _ h)
  have hown : s.vm.findClass RM = some m.cls := findClass_of_methodNamed B.named
  have hlk := B.notSynchronized
  have hS : va_S (gA sz) s.heap s.heap [] := va_S.rf
  have hH : gW D c sz ad k I J P LG LP s.heap := hH
  have hl := lv_entry ([.ref (ad (11, 0, 0)), .int (nI q)]) (n := 3) (Nat.le_of_ble_eq_true rfl)
  rw [lg_entry_eq]
  generalize (lg_sl ([.ref (ad (11, 0, 0)), .int (nI q)]) ++ List.replicate (3 - (lg_sl ([.ref (ad (11, 0, 0)), .int (nI q)])).length) Slot.unset).toArray = ls at hl ⊢
  have hl : lv_has ls 3 [(0, .ref (ad (11, 0, 0))), (1, .int (nI q))] := hl
  refine lv_iconst (v := 0) hx hb dM_wipe_0 (by decide) ?_
  refine lv_istore_n hx hb dM_wipe_1 rfl hl (by decide) rfl (fun ls hl => ?_)
  have hl : lv_has ls 3 [(2, .int _), (0, .ref _), (1, .int _)] := hl
  refine lv_iload_n hx hb dM_wipe_2 rfl (lv_at hl 0 rfl) ?_
  refine lv_iconst (v := 4) hx hb dM_wipe_3 (by decide) ?_
  refine lv_icmp_ge hx hb dM_wipe_4 rfl (fun h_1 => ?_) (fun h_1 => ?_)
  · exact absurd h_1 (by decide)
  · skip
    refine lv_aload_n hx hb dM_wipe_7 rfl (lv_at hl 1 rfl) ?_
    refine s_get hx hb hw inM hown hK hH 0 (by decide) (hw _ (gwd_5 (List.mem_of_getElem? (i := 40) rfl))) (by first | exact ⟨rfl, rfl⟩ | exact ⟨by assumption, rfl⟩ | exact ⟨by assumption, by assumption⟩ | exact ⟨by omega, rfl⟩ | exact ⟨by omega, by omega⟩ | exact ⟨by decide, rfl⟩) rfl rfl rfl rfl dM_wipe_8 ?_
    refine lv_iconst (v := 4) hx hb dM_wipe_11 (by decide) ?_
    refine lv_iload_n hx hb dM_wipe_12 rfl (lv_at hl 2 rfl) ?_
    refine lv_imul hx hb dM_wipe_13 ?_
    refine lv_iload_n hx hb dM_wipe_14 rfl (lv_at hl 0 rfl) ?_
    refine lv_iadd hx hb dM_wipe_15 ?_
    refine lv_iconst (v := 0) hx hb dM_wipe_16 (by decide) ?_
    refine m_iast hx hb hK hH hS (by first | exact ⟨rfl, rfl⟩ | exact ⟨by assumption, rfl⟩ | exact ⟨by assumption, by assumption⟩ | exact ⟨by omega, rfl⟩ | exact ⟨by omega, by omega⟩ | exact ⟨by decide, rfl⟩) rfl (4 * q + 0) (idx4 q 0) (show _ < 96 from by omega) (by decide) rfl dM_wipe_17 (fun H locs hH hS => ?_)
    refine lv_iinc (k := 0) (v := 1) hx hb dM_wipe_18 hl rfl (by decide) (by decide) rfl (fun ls hl => ?_)
    have hl : lv_has ls 3 [(2, .int _), (0, .ref _), (1, .int _)] := hl
    refine lv_goto hx hb dM_wipe_21 rfl ?_
    refine lv_iload_n hx hb dM_wipe_2 rfl (lv_at hl 0 rfl) ?_
    refine lv_iconst (v := 4) hx hb dM_wipe_3 (by decide) ?_
    refine lv_icmp_ge hx hb dM_wipe_4 rfl (fun h_2 => ?_) (fun h_2 => ?_)
    · exact absurd h_2 (by decide)
    · skip
      refine lv_aload_n hx hb dM_wipe_7 rfl (lv_at hl 1 rfl) ?_
      refine s_get hx hb hw inM hown hK hH 0 (by decide) (hw _ (gwd_5 (List.mem_of_getElem? (i := 40) rfl))) (by first | exact ⟨rfl, rfl⟩ | exact ⟨by assumption, rfl⟩ | exact ⟨by assumption, by assumption⟩ | exact ⟨by omega, rfl⟩ | exact ⟨by omega, by omega⟩ | exact ⟨by decide, rfl⟩) rfl rfl rfl rfl dM_wipe_8 ?_
      refine lv_iconst (v := 4) hx hb dM_wipe_11 (by decide) ?_
      refine lv_iload_n hx hb dM_wipe_12 rfl (lv_at hl 2 rfl) ?_
      refine lv_imul hx hb dM_wipe_13 ?_
      refine lv_iload_n hx hb dM_wipe_14 rfl (lv_at hl 0 rfl) ?_
      refine lv_iadd hx hb dM_wipe_15 ?_
      refine lv_iconst (v := 0) hx hb dM_wipe_16 (by decide) ?_
      refine m_iast hx hb hK hH hS (by first | exact ⟨rfl, rfl⟩ | exact ⟨by assumption, rfl⟩ | exact ⟨by assumption, by assumption⟩ | exact ⟨by omega, rfl⟩ | exact ⟨by omega, by omega⟩ | exact ⟨by decide, rfl⟩) rfl (4 * q + 1) (idx4 q 1) (show _ < 96 from by omega) (by decide) rfl dM_wipe_17 (fun H locs hH hS => ?_)
      refine lv_iinc (k := 0) (v := 2) hx hb dM_wipe_18 hl rfl (by decide) (by decide) rfl (fun ls hl => ?_)
      have hl : lv_has ls 3 [(2, .int _), (0, .ref _), (1, .int _)] := hl
      refine lv_goto hx hb dM_wipe_21 rfl ?_
      refine lv_iload_n hx hb dM_wipe_2 rfl (lv_at hl 0 rfl) ?_
      refine lv_iconst (v := 4) hx hb dM_wipe_3 (by decide) ?_
      refine lv_icmp_ge hx hb dM_wipe_4 rfl (fun h_3 => ?_) (fun h_3 => ?_)
      · exact absurd h_3 (by decide)
      · skip
        refine lv_aload_n hx hb dM_wipe_7 rfl (lv_at hl 1 rfl) ?_
        refine s_get hx hb hw inM hown hK hH 0 (by decide) (hw _ (gwd_5 (List.mem_of_getElem? (i := 40) rfl))) (by first | exact ⟨rfl, rfl⟩ | exact ⟨by assumption, rfl⟩ | exact ⟨by assumption, by assumption⟩ | exact ⟨by omega, rfl⟩ | exact ⟨by omega, by omega⟩ | exact ⟨by decide, rfl⟩) rfl rfl rfl rfl dM_wipe_8 ?_
        refine lv_iconst (v := 4) hx hb dM_wipe_11 (by decide) ?_
        refine lv_iload_n hx hb dM_wipe_12 rfl (lv_at hl 2 rfl) ?_
        refine lv_imul hx hb dM_wipe_13 ?_
        refine lv_iload_n hx hb dM_wipe_14 rfl (lv_at hl 0 rfl) ?_
        refine lv_iadd hx hb dM_wipe_15 ?_
        refine lv_iconst (v := 0) hx hb dM_wipe_16 (by decide) ?_
        refine m_iast hx hb hK hH hS (by first | exact ⟨rfl, rfl⟩ | exact ⟨by assumption, rfl⟩ | exact ⟨by assumption, by assumption⟩ | exact ⟨by omega, rfl⟩ | exact ⟨by omega, by omega⟩ | exact ⟨by decide, rfl⟩) rfl (4 * q + 2) (idx4 q 2) (show _ < 96 from by omega) (by decide) rfl dM_wipe_17 (fun H locs hH hS => ?_)
        refine lv_iinc (k := 0) (v := 3) hx hb dM_wipe_18 hl rfl (by decide) (by decide) rfl (fun ls hl => ?_)
        have hl : lv_has ls 3 [(2, .int _), (0, .ref _), (1, .int _)] := hl
        refine lv_goto hx hb dM_wipe_21 rfl ?_
        refine lv_iload_n hx hb dM_wipe_2 rfl (lv_at hl 0 rfl) ?_
        refine lv_iconst (v := 4) hx hb dM_wipe_3 (by decide) ?_
        refine lv_icmp_ge hx hb dM_wipe_4 rfl (fun h_4 => ?_) (fun h_4 => ?_)
        · exact absurd h_4 (by decide)
        · skip
          refine lv_aload_n hx hb dM_wipe_7 rfl (lv_at hl 1 rfl) ?_
          refine s_get hx hb hw inM hown hK hH 0 (by decide) (hw _ (gwd_5 (List.mem_of_getElem? (i := 40) rfl))) (by first | exact ⟨rfl, rfl⟩ | exact ⟨by assumption, rfl⟩ | exact ⟨by assumption, by assumption⟩ | exact ⟨by omega, rfl⟩ | exact ⟨by omega, by omega⟩ | exact ⟨by decide, rfl⟩) rfl rfl rfl rfl dM_wipe_8 ?_
          refine lv_iconst (v := 4) hx hb dM_wipe_11 (by decide) ?_
          refine lv_iload_n hx hb dM_wipe_12 rfl (lv_at hl 2 rfl) ?_
          refine lv_imul hx hb dM_wipe_13 ?_
          refine lv_iload_n hx hb dM_wipe_14 rfl (lv_at hl 0 rfl) ?_
          refine lv_iadd hx hb dM_wipe_15 ?_
          refine lv_iconst (v := 0) hx hb dM_wipe_16 (by decide) ?_
          refine m_iast hx hb hK hH hS (by first | exact ⟨rfl, rfl⟩ | exact ⟨by assumption, rfl⟩ | exact ⟨by assumption, by assumption⟩ | exact ⟨by omega, rfl⟩ | exact ⟨by omega, by omega⟩ | exact ⟨by decide, rfl⟩) rfl (4 * q + 3) (idx4 q 3) (show _ < 96 from by omega) (by decide) rfl dM_wipe_17 (fun H locs hH hS => ?_)
          refine lv_iinc (k := 0) (v := 4) hx hb dM_wipe_18 hl rfl (by decide) (by decide) rfl (fun ls hl => ?_)
          have hl : lv_has ls 3 [(2, .int _), (0, .ref _), (1, .int _)] := hl
          refine lv_goto hx hb dM_wipe_21 rfl ?_
          refine lv_iload_n hx hb dM_wipe_2 rfl (lv_at hl 0 rfl) ?_
          refine lv_iconst (v := 4) hx hb dM_wipe_3 (by decide) ?_
          refine lv_icmp_ge hx hb dM_wipe_4 rfl (fun h_5 => ?_) (fun h_5 => ?_)
          · skip
            exact r_v hx hb hr hlk hK hH hS dM_wipe_24 (rfl)
          · exact absurd h_5 (by decide)
set_option maxHeartbeats 4000000 in
set_option maxRecDepth 100000 in
theorem c_M_look (l : Launch) {D : va_G} {c : Nat → ClassId} {sz : Nat} {ad : gN → Nat} {k : Nat} {I J : gI} {P : gP} {LG : Option Nat} {LP : Option (Nat × Nat)} {q : Nat} (hq : q < 24) : Met l yM_look wM_look { frames := 1, cells := 0, slots := 0, locals := 21 } (gPre D c sz [.ref (ad (11, 0, 0)), .int (nI q)] (ad, k, I, J, P, LG, LP)) (va_Qv (fun u => u = (ad, k, I, mLook J q, P, LG, LP)) (gB D c sz) (gA sz)) 0 0 (gA sz) := by
  refine Met.ofW (cc := cM_look) (maxL := 2) (ret := none) (by decide) rfl ?_
  intro p e s m args below meth cd s₁ B hml hv
  obtain ⟨rfl, hK, hH⟩ := hv
  have hx := B.exec
  have hb := B.bytes
  have hr := B.returns
  have hts := atoms_spec (ws := wM_look) B.pre
  have hw : ∀ w ∈ gWd, w.before _ s = true := fun w h => hts w (List.mem_cons_of_mem _ h)
  have hown : s.vm.findClass RM = some m.cls := findClass_of_methodNamed B.named
  have hlk := B.notSynchronized
  have hS : va_S (gA sz) s.heap s.heap [] := va_S.rf
  have hH : gW D c sz ad k I J P LG LP s.heap := hH
  have hl := lv_entry ([.ref (ad (11, 0, 0)), .int (nI q)]) (n := 2) (Nat.le_of_ble_eq_true rfl)
  rw [lg_entry_eq]
  generalize (lg_sl ([.ref (ad (11, 0, 0)), .int (nI q)]) ++ List.replicate (2 - (lg_sl ([.ref (ad (11, 0, 0)), .int (nI q)])).length) Slot.unset).toArray = ls at hl ⊢
  have hl : lv_has ls 2 [(0, .ref (ad (11, 0, 0))), (1, .int (nI q))] := hl
  refine lv_aload_n hx hb dM_look_0 rfl (lv_at hl 0 rfl) ?_
  refine s_get hx hb hw inM hown hK hH 6 (by decide) (hw _ (gwd_5 (List.mem_of_getElem? (i := 46) rfl))) (by first | exact ⟨rfl, rfl⟩ | exact ⟨by assumption, rfl⟩ | exact ⟨by assumption, by assumption⟩ | exact ⟨by omega, rfl⟩ | exact ⟨by omega, by omega⟩ | exact ⟨by decide, rfl⟩) rfl rfl rfl rfl dM_look_1 ?_
  refine lv_iload_n hx hb dM_look_4 rfl (lv_at hl 1 rfl) ?_
  refine lv_aload_n hx hb dM_look_5 rfl (lv_at hl 0 rfl) ?_
  refine s_get hx hb hw inM hown hK hH 6 (by decide) (hw _ (gwd_5 (List.mem_of_getElem? (i := 46) rfl))) (by first | exact ⟨rfl, rfl⟩ | exact ⟨by assumption, rfl⟩ | exact ⟨by assumption, by assumption⟩ | exact ⟨by omega, rfl⟩ | exact ⟨by omega, by omega⟩ | exact ⟨by decide, rfl⟩) rfl rfl rfl rfl dM_look_6 ?_
  refine lv_iload_n hx hb dM_look_9 rfl (lv_at hl 1 rfl) ?_
  refine m_zald hx hb hK hH (by first | exact ⟨rfl, rfl⟩ | exact ⟨by assumption, rfl⟩ | exact ⟨by assumption, by assumption⟩ | exact ⟨by omega, rfl⟩ | exact ⟨by omega, by omega⟩ | exact ⟨by decide, rfl⟩) rfl _ (by first | rfl | assumption) (show _ < 24 from by first | assumption | decide | omega) (by decide) dM_look_10 ?_
  refine lv_if_eq hx hb dM_look_11 rfl (fun h_1 => ?_) (fun h_1 => ?_)
  · skip
    refine lv_iconst (v := 0) hx hb dM_look_26 (by decide) ?_
    refine m_zast hx hb hK hH hS (by first | exact ⟨rfl, rfl⟩ | exact ⟨by assumption, rfl⟩ | exact ⟨by assumption, by assumption⟩ | exact ⟨by omega, rfl⟩ | exact ⟨by omega, by omega⟩ | exact ⟨by decide, rfl⟩) rfl _ (by first | rfl | assumption) (show _ < 24 from by first | assumption | decide | omega) (by decide) (by first | exact Or.inl rfl | exact Or.inr rfl | exact bz_01 _ | assumption) rfl dM_look_27 (fun H locs hH hS => ?_)
    exact r_v hx hb hr hlk hK hH hS dM_look_28 (by simp [mLook, bz, h_1])
  · skip
    refine lv_aload_n hx hb dM_look_14 rfl (lv_at hl 0 rfl) ?_
    refine lv_iload_n hx hb dM_look_15 rfl (lv_at hl 1 rfl) ?_
    refine s_ciE (va_runV (As := [.int _]) (rest := [.int _, .ref _]) ⟨hx, hb, hml, hown, hw⟩ (c_M_hostMay l  (by assumption)) (cwV 1 hw (gd_V (gwd_6 (List.mem_of_getElem? (i := 37) rfl)) (gwd_6 (List.mem_of_getElem? (i := 38) rfl)) (gwd_9 (List.mem_of_getElem? (i := 23) rfl)) (gwd_0 (List.mem_of_getElem? (i := 3) rfl)) (gwd_6 (List.mem_of_getElem? (i := 39) rfl))) rfl rfl rfl (by decide +kernel) ⟨Nat.le_of_ble_eq_true rfl, Nat.le_of_ble_eq_true rfl⟩) (gPre.V (n := (11, 0, 0)) hK hH (by first | exact ⟨rfl, rfl⟩ | exact ⟨by assumption, rfl⟩ | exact ⟨by assumption, by assumption⟩ | exact ⟨by omega, rfl⟩ | exact ⟨by omega, by omega⟩ | exact ⟨by decide, rfl⟩) rfl rfl) rfl rfl hl.1 rfl (lv_room (Nat.le_of_ble_eq_true rfl)) dM_look_16 ⟨Nat.zero_le _, Nat.zero_le _⟩) hS (fun H locs hH hS => ?_)
    refine s_ifeq hx hb dM_look_19 rfl (fun h_2 => ?_) (fun h_2 => ?_)
    · skip
      refine lv_iconst (v := 0) hx hb dM_look_26 (by decide) ?_
      refine m_zast hx hb hK hH hS (by first | exact ⟨rfl, rfl⟩ | exact ⟨by assumption, rfl⟩ | exact ⟨by assumption, by assumption⟩ | exact ⟨by omega, rfl⟩ | exact ⟨by omega, by omega⟩ | exact ⟨by decide, rfl⟩) rfl _ (by first | rfl | assumption) (show _ < 24 from by first | assumption | decide | omega) (by decide) (by first | exact Or.inl rfl | exact Or.inr rfl | exact bz_01 _ | assumption) rfl dM_look_27 (fun H locs hH hS => ?_)
      exact r_v hx hb hr hlk hK hH hS dM_look_28 (by simp [mLook, bz, h_1, h_2])
    · skip
      refine lv_iconst (v := 1) hx hb dM_look_22 (by decide) ?_
      refine lv_goto hx hb dM_look_23 rfl ?_
      refine m_zast hx hb hK hH hS (by first | exact ⟨rfl, rfl⟩ | exact ⟨by assumption, rfl⟩ | exact ⟨by assumption, by assumption⟩ | exact ⟨by omega, rfl⟩ | exact ⟨by omega, by omega⟩ | exact ⟨by decide, rfl⟩) rfl _ (by first | rfl | assumption) (show _ < 24 from by first | assumption | decide | omega) (by decide) (by first | exact Or.inl rfl | exact Or.inr rfl | exact bz_01 _ | assumption) rfl dM_look_27 (fun H locs hH hS => ?_)
      exact r_v hx hb hr hlk hK hH hS dM_look_28 (by simp [mLook, bz, h_1, h_2])
set_option maxHeartbeats 4000000 in
set_option maxRecDepth 100000 in
theorem c_M_holder (l : Launch) {D : va_G} {c : Nat → ClassId} {sz : Nat} {ad : gN → Nat} {k : Nat} {I J : gI} {P : gP} {LG : Option Nat} {LP : Option (Nat × Nat)} {q : Nat} (hq : q < 24) : Met l yM_holder wM_holder { frames := 0, cells := 0, slots := 0, locals := 0 } (gPre D c sz [.ref (ad (11, 0, 0)), .int (nI q)] (ad, k, I, J, P, LG, LP)) (va_Qi (fun r u => r = mHolder J q ∧ u = (ad, k, I, J, P, LG, LP)) (gB D c sz) (gA sz)) 0 0 (gA sz) := by
  refine Met.ofW (cc := cM_holder) (maxL := 2) (ret := (some .int)) (by decide) rfl ?_
  intro p e s m args below meth cd s₁ B hml hv
  obtain ⟨rfl, hK, hH⟩ := hv
  have hx := B.exec
  have hb := B.bytes
  have hr := B.returns
  have hts := atoms_spec (ws := wM_holder) B.pre
  have hw : ∀ w ∈ gWd, w.before _ s = true := fun w h => hts w (List.mem_cons_of_mem _ h)
  have hown : s.vm.findClass RM = some m.cls := findClass_of_methodNamed B.named
  have hlk := B.notSynchronized
  have hS : va_S (gA sz) s.heap s.heap [] := va_S.rf
  have hH : gW D c sz ad k I J P LG LP s.heap := hH
  have hl := lv_entry ([.ref (ad (11, 0, 0)), .int (nI q)]) (n := 2) (Nat.le_of_ble_eq_true rfl)
  rw [lg_entry_eq]
  generalize (lg_sl ([.ref (ad (11, 0, 0)), .int (nI q)]) ++ List.replicate (2 - (lg_sl ([.ref (ad (11, 0, 0)), .int (nI q)])).length) Slot.unset).toArray = ls at hl ⊢
  have hl : lv_has ls 2 [(0, .ref (ad (11, 0, 0))), (1, .int (nI q))] := hl
  refine lv_aload_n hx hb dM_holder_0 rfl (lv_at hl 0 rfl) ?_
  refine s_get hx hb hw inM hown hK hH 3 (by decide) (hw _ (gwd_5 (List.mem_of_getElem? (i := 43) rfl))) (by first | exact ⟨rfl, rfl⟩ | exact ⟨by assumption, rfl⟩ | exact ⟨by assumption, by assumption⟩ | exact ⟨by omega, rfl⟩ | exact ⟨by omega, by omega⟩ | exact ⟨by decide, rfl⟩) rfl rfl rfl rfl dM_holder_1 ?_
  refine lv_iload_n hx hb dM_holder_4 rfl (lv_at hl 1 rfl) ?_
  refine m_iald hx hb hK hH (by first | exact ⟨rfl, rfl⟩ | exact ⟨by assumption, rfl⟩ | exact ⟨by assumption, by assumption⟩ | exact ⟨by omega, rfl⟩ | exact ⟨by omega, by omega⟩ | exact ⟨by decide, rfl⟩) rfl _ (by first | rfl | assumption) (show _ < 24 from by first | assumption | decide | omega) (by decide) dM_holder_5 ?_
  refine lv_if_le hx hb dM_holder_6 rfl (fun h_1 => ?_) (fun h_1 => ?_)
  · skip
    refine lv_aload_n hx hb dM_holder_18 rfl (lv_at hl 0 rfl) ?_
    refine s_get hx hb hw inM hown hK hH 1 (by decide) (hw _ (gwd_5 (List.mem_of_getElem? (i := 41) rfl))) (by first | exact ⟨rfl, rfl⟩ | exact ⟨by assumption, rfl⟩ | exact ⟨by assumption, by assumption⟩ | exact ⟨by omega, rfl⟩ | exact ⟨by omega, by omega⟩ | exact ⟨by decide, rfl⟩) rfl rfl rfl rfl dM_holder_19 ?_
    refine lv_iload_n hx hb dM_holder_22 rfl (lv_at hl 1 rfl) ?_
    refine m_iald hx hb hK hH (by first | exact ⟨rfl, rfl⟩ | exact ⟨by assumption, rfl⟩ | exact ⟨by assumption, by assumption⟩ | exact ⟨by omega, rfl⟩ | exact ⟨by omega, by omega⟩ | exact ⟨by decide, rfl⟩) rfl _ (by first | rfl | assumption) (show _ < 24 from by first | assumption | decide | omega) (by decide) dM_holder_23 ?_
    refine lv_iconst (v := 1) hx hb dM_holder_24 (by decide) ?_
    refine lv_icmp_lt hx hb dM_holder_25 rfl (fun h_2 => ?_) (fun h_2 => ?_)
    · skip
      refine lv_iconst (v := 0) hx hb dM_holder_48 (by decide) ?_
      exact r_i hx hb hr hlk hK hH hS dM_holder_49 (⟨by simp [mHolder, h_1, h_2], rfl⟩)
    · skip
      refine lv_aload_n hx hb dM_holder_28 rfl (lv_at hl 0 rfl) ?_
      refine s_get hx hb hw inM hown hK hH 1 (by decide) (hw _ (gwd_5 (List.mem_of_getElem? (i := 41) rfl))) (by first | exact ⟨rfl, rfl⟩ | exact ⟨by assumption, rfl⟩ | exact ⟨by assumption, by assumption⟩ | exact ⟨by omega, rfl⟩ | exact ⟨by omega, by omega⟩ | exact ⟨by decide, rfl⟩) rfl rfl rfl rfl dM_holder_29 ?_
      refine lv_iload_n hx hb dM_holder_32 rfl (lv_at hl 1 rfl) ?_
      refine m_iald hx hb hK hH (by first | exact ⟨rfl, rfl⟩ | exact ⟨by assumption, rfl⟩ | exact ⟨by assumption, by assumption⟩ | exact ⟨by omega, rfl⟩ | exact ⟨by omega, by omega⟩ | exact ⟨by decide, rfl⟩) rfl _ (by first | rfl | assumption) (show _ < 24 from by first | assumption | decide | omega) (by decide) dM_holder_33 ?_
      refine lv_bipush (v := 6) hx hb dM_holder_34 (by decide) ?_
      refine lv_icmp_gt hx hb dM_holder_36 rfl (fun h_3 => ?_) (fun h_3 => ?_)
      · skip
        refine lv_iconst (v := 0) hx hb dM_holder_48 (by decide) ?_
        exact r_i hx hb hr hlk hK hH hS dM_holder_49 (⟨by simp [mHolder, h_1, h_2, h_3], rfl⟩)
      · skip
        refine lv_aload_n hx hb dM_holder_39 rfl (lv_at hl 0 rfl) ?_
        refine s_get hx hb hw inM hown hK hH 1 (by decide) (hw _ (gwd_5 (List.mem_of_getElem? (i := 41) rfl))) (by first | exact ⟨rfl, rfl⟩ | exact ⟨by assumption, rfl⟩ | exact ⟨by assumption, by assumption⟩ | exact ⟨by omega, rfl⟩ | exact ⟨by omega, by omega⟩ | exact ⟨by decide, rfl⟩) rfl rfl rfl rfl dM_holder_40 ?_
        refine lv_iload_n hx hb dM_holder_43 rfl (lv_at hl 1 rfl) ?_
        refine m_iald hx hb hK hH (by first | exact ⟨rfl, rfl⟩ | exact ⟨by assumption, rfl⟩ | exact ⟨by assumption, by assumption⟩ | exact ⟨by omega, rfl⟩ | exact ⟨by omega, by omega⟩ | exact ⟨by decide, rfl⟩) rfl _ (by first | rfl | assumption) (show _ < 24 from by first | assumption | decide | omega) (by decide) dM_holder_44 ?_
        refine lv_goto hx hb dM_holder_45 rfl ?_
        exact r_i hx hb hr hlk hK hH hS dM_holder_49 (⟨by simp [mHolder, h_1, h_2, h_3], rfl⟩)
  · skip
    refine lv_aload_n hx hb dM_holder_9 rfl (lv_at hl 0 rfl) ?_
    refine s_get hx hb hw inM hown hK hH 3 (by decide) (hw _ (gwd_5 (List.mem_of_getElem? (i := 43) rfl))) (by first | exact ⟨rfl, rfl⟩ | exact ⟨by assumption, rfl⟩ | exact ⟨by assumption, by assumption⟩ | exact ⟨by omega, rfl⟩ | exact ⟨by omega, by omega⟩ | exact ⟨by decide, rfl⟩) rfl rfl rfl rfl dM_holder_10 ?_
    refine lv_iload_n hx hb dM_holder_13 rfl (lv_at hl 1 rfl) ?_
    refine m_iald hx hb hK hH (by first | exact ⟨rfl, rfl⟩ | exact ⟨by assumption, rfl⟩ | exact ⟨by assumption, by assumption⟩ | exact ⟨by omega, rfl⟩ | exact ⟨by omega, by omega⟩ | exact ⟨by decide, rfl⟩) rfl _ (by first | rfl | assumption) (show _ < 24 from by first | assumption | decide | omega) (by decide) dM_holder_14 ?_
    refine lv_goto hx hb dM_holder_15 rfl ?_
    exact r_i hx hb hr hlk hK hH hS dM_holder_49 (⟨by simp [mHolder, h_1], rfl⟩)
set_option maxHeartbeats 4000000 in
set_option maxRecDepth 100000 in
theorem c_M_held (l : Launch) {D : va_G} {c : Nat → ClassId} {sz : Nat} {ad : gN → Nat} {k : Nat} {I J : gI} {P : gP} {LG : Option Nat} {LP : Option (Nat × Nat)} {G a : Int32}  : Met l yM_held wM_held { frames := 1, cells := 0, slots := 0, locals := 21 } (gPre D c sz [.ref (ad (11, 0, 0)), .int G, .int a] (ad, k, I, J, P, LG, LP)) (va_Qi (fun r u => r = mHeld J G a ∧ u = (ad, k, I, J, P, LG, LP)) (gB D c sz) (gA sz)) 0 0 (gA sz) := by
  refine Met.ofW (cc := cM_held) (maxL := 4) (ret := (some .int)) (by decide) rfl ?_
  intro p e s m args below meth cd s₁ B hml hv
  obtain ⟨rfl, hK, hH⟩ := hv
  have hx := B.exec
  have hb := B.bytes
  have hr := B.returns
  have hts := atoms_spec (ws := wM_held) B.pre
  have hw : ∀ w ∈ gWd, w.before _ s = true := fun w h => hts w (List.mem_cons_of_mem _ h)
  have hown : s.vm.findClass RM = some m.cls := findClass_of_methodNamed B.named
  have hlk := B.notSynchronized
  have hS : va_S (gA sz) s.heap s.heap [] := va_S.rf
  have hH : gW D c sz ad k I J P LG LP s.heap := hH
  have hl := lv_entry ([.ref (ad (11, 0, 0)), .int G, .int a]) (n := 4) (Nat.le_of_ble_eq_true rfl)
  rw [lg_entry_eq]
  generalize (lg_sl ([.ref (ad (11, 0, 0)), .int G, .int a]) ++ List.replicate (4 - (lg_sl ([.ref (ad (11, 0, 0)), .int G, .int a])).length) Slot.unset).toArray = ls at hl ⊢
  have hl : lv_has ls 4 [(0, .ref (ad (11, 0, 0))), (1, .int G), (2, .int a)] := hl
  have key : ∀ (n i : Nat), i + n = 24 → findF (fun p => decide (mIs J G a p)) n i = mHeld J G a → ∀ ls : Array Slot, lv_has ls 4 [(3, .int (nI i)), (0, .ref (ad (11, 0, 0))), (1, .int G), (2, .int a)] → ∀ (H : Heap) (locs : List Loc), gW D c sz ad k I J P LG LP H → va_S (gA sz) s.heap H locs → W p l e (headSpec wM_held { frames := 1, cells := 0, slots := 0, locals := 21 }).room s m ([.ref (ad (11, 0, 0)), .int G, .int a] : List Value).toArray below meth cd H locs 0 0 (MQ below (va_Qi (fun r u => r = mHeld J G a ∧ u = (ad, k, I, J, P, LG, LP)) (gB D c sz) (gA sz)) ([.ref (ad (11, 0, 0)), .int G, .int a] : List Value).toArray s 0 0 (gA sz)) (F0 m 2 ls []) := by
    intro n
    induction n with
    | zero =>
      intro i hi hst ls hl H locs hH hS
      refine lv_iload_n hx hb dM_held_2 rfl (lv_at hl 0 rfl) ?_
      refine lv_bipush (v := 24) hx hb dM_held_3 (by decide) ?_
      refine lv_icmp_ge hx hb dM_held_5 rfl (fun h_1 => ?_) (fun h_1 => ?_)
      · skip
        refine lv_iconst (v := -1) hx hb dM_held_35 (by decide) ?_
        exact r_i hx hb hr hlk hK hH hS dM_held_36 (⟨hst, rfl⟩)
      · exact absurd (show (24 : Int32) ≤ nI i from nI_le (a := 24) (by omega) (by omega)) h_1
    | succ n ih =>
      intro i hi hst ls hl H locs hH hS
      refine lv_iload_n hx hb dM_held_2 rfl (lv_at hl 0 rfl) ?_
      refine lv_bipush (v := 24) hx hb dM_held_3 (by decide) ?_
      refine lv_icmp_ge hx hb dM_held_5 rfl (fun h_2 => ?_) (fun h_2 => ?_)
      · exact absurd h_2 (nI_ge (b := 24) (show i < 24 by omega) (by decide))
      · skip
        refine lv_aload_n hx hb dM_held_8 rfl (lv_at hl 1 rfl) ?_
        refine lv_iload_n hx hb dM_held_9 rfl (lv_at hl 0 rfl) ?_
        refine s_ciE (va_runV (As := [.int _]) (rest := []) ⟨hx, hb, hml, hown, hw⟩ (c_M_holder l  (by omega)) (cwV 1 hw (gd_V (gwd_7 (List.mem_of_getElem? (i := 30) rfl)) (gwd_7 (List.mem_of_getElem? (i := 31) rfl)) (gwd_9 (List.mem_of_getElem? (i := 31) rfl)) (gwd_0 (List.mem_of_getElem? (i := 3) rfl)) (gwd_7 (List.mem_of_getElem? (i := 32) rfl))) rfl rfl rfl (by decide +kernel) ⟨Nat.le_of_ble_eq_true rfl, Nat.le_of_ble_eq_true rfl⟩) (gPre.V (n := (11, 0, 0)) hK hH (by first | exact ⟨rfl, rfl⟩ | exact ⟨by assumption, rfl⟩ | exact ⟨by assumption, by assumption⟩ | exact ⟨by omega, rfl⟩ | exact ⟨by omega, by omega⟩ | exact ⟨by decide, rfl⟩) rfl rfl) rfl rfl hl.1 rfl (lv_room (Nat.le_of_ble_eq_true rfl)) dM_held_10 ⟨Nat.zero_le _, Nat.zero_le _⟩) hS (fun H locs hH hS => ?_)
        refine lv_iload_n hx hb dM_held_13 rfl (lv_at hl 2 rfl) ?_
        refine lv_icmp_ne hx hb dM_held_14 rfl (fun h_3 => ?_) (fun h_3 => ?_)
        · skip
          refine lv_iinc (k := 0) (v := nI (i + 1)) hx hb dM_held_29 hl rfl (by rw [nI_succ]; rfl) (by decide) rfl (fun ls hl => ?_)
          have hl : lv_has ls 4 [(3, .int _), (0, .ref _), (1, .int _), (2, .int _)] := hl
          refine lv_goto hx hb dM_held_32 rfl ?_
          exact ih (i + 1) (by omega) (by rw [← hst]; simp [findF, mIs, h_3]) ls (lv_sub hl [0, 1, 2, 3] rfl) H locs hH hS
        · skip
          refine lv_aload_n hx hb dM_held_17 rfl (lv_at hl 1 rfl) ?_
          refine s_get hx hb hw inM hown hK hH 4 (by decide) (hw _ (gwd_5 (List.mem_of_getElem? (i := 44) rfl))) (by first | exact ⟨rfl, rfl⟩ | exact ⟨by assumption, rfl⟩ | exact ⟨by assumption, by assumption⟩ | exact ⟨by omega, rfl⟩ | exact ⟨by omega, by omega⟩ | exact ⟨by decide, rfl⟩) rfl rfl rfl rfl dM_held_18 ?_
          refine lv_iload_n hx hb dM_held_21 rfl (lv_at hl 0 rfl) ?_
          refine m_iald hx hb hK hH (by first | exact ⟨rfl, rfl⟩ | exact ⟨by assumption, rfl⟩ | exact ⟨by assumption, by assumption⟩ | exact ⟨by omega, rfl⟩ | exact ⟨by omega, by omega⟩ | exact ⟨by decide, rfl⟩) rfl _ (by first | rfl | assumption) (show _ < 24 from by first | assumption | decide | omega) (by decide) dM_held_22 ?_
          refine lv_iload_n hx hb dM_held_23 rfl (lv_at hl 3 rfl) ?_
          refine lv_icmp_ne hx hb dM_held_24 rfl (fun h_4 => ?_) (fun h_4 => ?_)
          · skip
            refine lv_iinc (k := 0) (v := nI (i + 1)) hx hb dM_held_29 hl rfl (by rw [nI_succ]; rfl) (by decide) rfl (fun ls hl => ?_)
            have hl : lv_has ls 4 [(3, .int _), (0, .ref _), (1, .int _), (2, .int _)] := hl
            refine lv_goto hx hb dM_held_32 rfl ?_
            exact ih (i + 1) (by omega) (by rw [← hst]; simp [findF, mIs, h_3, h_4]) ls (lv_sub hl [0, 1, 2, 3] rfl) H locs hH hS
          · skip
            refine lv_iload_n hx hb dM_held_27 rfl (lv_at hl 0 rfl) ?_
            exact r_i hx hb hr hlk hK hH hS dM_held_28 (⟨by rw [← hst]; simp [findF, mIs, h_3, h_4], rfl⟩)
  refine lv_iconst (v := 0) hx hb dM_held_0 (by decide) ?_
  refine lv_istore_n hx hb dM_held_1 rfl hl (by decide) rfl (fun ls hl => ?_)
  have hl : lv_has ls 4 [(3, .int _), (0, .ref _), (1, .int _), (2, .int _)] := hl
  exact key 24 0 (by omega) rfl ls (lv_sub hl [0, 1, 2, 3] rfl) s.heap [] hH hS
theorem mSome_s {J : gI} {G e2 : Int32} {z i q : Nat} {x : Int32} (h : (mSome J G e2 z i q = true ∧ x = 1) ∨ (¬ mSome J G e2 z i q = true ∧ mBlk J G z i q ∧ x = 1) ∨ (¬ mSome J G e2 z i q = true ∧ ¬ mBlk J G z i q ∧ x = 0)) : x = bz (mSome J G e2 z i (q + 1) = true) := by
  have e : mSome J G e2 z i (q + 1) = (mSome J G e2 z i q || decide (mBlk J G z i q)) := by simp only [mSome, anyB, Bool.or_assoc]
  rcases h with ⟨h1, rfl⟩ | ⟨h1, h2, rfl⟩ | ⟨h1, h2, rfl⟩
  · exact (bz_t (by rw [e, h1]; rfl)).symm
  · exact (bz_t (by rw [e]; simp [h2])).symm
  · refine (bz_f (fun q => ?_)).symm
    rw [e, Bool.or_eq_true] at q
    rcases q with q | q
    · exact h1 q
    · exact h2 (of_decide_eq_true q)
set_option maxHeartbeats 4000000 in
set_option maxRecDepth 100000 in
theorem c_M_count (l : Launch) {D : va_G} {c : Nat → ClassId} {sz : Nat} {ad : gN → Nat} {k : Nat} {I J : gI} {P : gP} {LG : Option Nat} {LP : Option (Nat × Nat)} {G e2 : Int32}  : Met l yM_count wM_count { frames := 1, cells := 0, slots := 0, locals := 21 } (gPre D c sz [.ref (ad (11, 0, 0)), .int G, .int e2] (ad, k, I, J, P, LG, LP)) (va_Qi (fun r u => r = mCnt J G e2 ∧ u = (ad, k, I, J, P, LG, LP)) (gB D c sz) (gA sz)) 0 0 (gA sz) := by
  refine Met.ofW (cc := cM_count) (maxL := 8) (ret := (some .int)) (by decide) rfl ?_
  intro p e s m args below meth cd s₁ B hml hv
  obtain ⟨rfl, hK, hH⟩ := hv
  have hx := B.exec
  have hb := B.bytes
  have hr := B.returns
  have hts := atoms_spec (ws := wM_count) B.pre
  have hw : ∀ w ∈ gWd, w.before _ s = true := fun w h => hts w (List.mem_cons_of_mem _ h)
  have hown : s.vm.findClass RM = some m.cls := findClass_of_methodNamed B.named
  have hlk := B.notSynchronized
  have hS : va_S (gA sz) s.heap s.heap [] := va_S.rf
  have hH : gW D c sz ad k I J P LG LP s.heap := hH
  have hl := lv_entry ([.ref (ad (11, 0, 0)), .int G, .int e2]) (n := 8) (Nat.le_of_ble_eq_true rfl)
  rw [lg_entry_eq]
  generalize (lg_sl ([.ref (ad (11, 0, 0)), .int G, .int e2]) ++ List.replicate (8 - (lg_sl ([.ref (ad (11, 0, 0)), .int G, .int e2])).length) Slot.unset).toArray = ls at hl ⊢
  have hl : lv_has ls 8 [(0, .ref (ad (11, 0, 0))), (1, .int G), (2, .int e2)] := hl
  have in3 : ∀ (z i a0 : Nat), (z = 4 ∨ z = 16) → i < 64 / z → (∀ ls : Array Slot, lv_has ls 8 [(6, .int (bz (mSome J G e2 z i 24 = true))), (5, .int (nI i)), (4, .int (nI z)), (3, .int (nI a0)), (0, .ref (ad (11, 0, 0))), (1, .int G), (2, .int e2)] → ∀ (H : Heap) (locs : List Loc), gW D c sz ad k I J P LG LP H → va_S (gA sz) s.heap H locs → W p l e (headSpec wM_count { frames := 1, cells := 0, slots := 0, locals := 21 }).room s m ([.ref (ad (11, 0, 0)), .int G, .int e2] : List Value).toArray below meth cd H locs 0 0 (MQ below (va_Qi (fun r u => r = mCnt J G e2 ∧ u = (ad, k, I, J, P, LG, LP)) (gB D c sz) (gA sz)) ([.ref (ad (11, 0, 0)), .int G, .int e2] : List Value).toArray s 0 0 (gA sz)) (F0 m 98 ls [])) → ∀ (n q : Nat) (x : Int32), q + n = 24 → x = bz (mSome J G e2 z i q = true) → ∀ ls : Array Slot, lv_has ls 8 [(7, .int (nI q)), (6, .int x), (5, .int (nI i)), (4, .int (nI z)), (3, .int (nI a0)), (0, .ref (ad (11, 0, 0))), (1, .int G), (2, .int e2)] → ∀ (H : Heap) (locs : List Loc), gW D c sz ad k I J P LG LP H → va_S (gA sz) s.heap H locs → W p l e (headSpec wM_count { frames := 1, cells := 0, slots := 0, locals := 21 }).room s m ([.ref (ad (11, 0, 0)), .int G, .int e2] : List Value).toArray below meth cd H locs 0 0 (MQ below (va_Qi (fun r u => r = mCnt J G e2 ∧ u = (ad, k, I, J, P, LG, LP)) (gB D c sz) (gA sz)) ([.ref (ad (11, 0, 0)), .int G, .int e2] : List Value).toArray s 0 0 (gA sz)) (F0 m 48 ls []) := by
    intro z i a0 hz hiz cont n
    have hzn : ¬ nI z = 0 := nI_ne0 (by omega) (by omega)
    induction n with
    | zero =>
      intro q x hq hx9 ls hl H locs hH hS
      rw [show q = 24 by omega] at hx9
      subst hx9
      refine lv_iload hx hb dM_count_48 (lv_at hl 0 rfl) ?_
      refine lv_bipush (v := 24) hx hb dM_count_50 (by decide) ?_
      refine lv_icmp_ge hx hb dM_count_52 rfl (fun h_1 => ?_) (fun h_1 => ?_)
      · skip
        exact cont ls (lv_sub hl [1, 2, 3, 4, 5, 6, 7] rfl) H locs hH hS
      · exact absurd (show (24 : Int32) ≤ nI q from nI_le (a := 24) (by omega) (by omega)) h_1
    | succ n ih =>
      intro q x hq hx9 ls hl H locs hH hS
      subst hx9
      refine lv_iload hx hb dM_count_48 (lv_at hl 0 rfl) ?_
      refine lv_bipush (v := 24) hx hb dM_count_50 (by decide) ?_
      refine lv_icmp_ge hx hb dM_count_52 rfl (fun h_2 => ?_) (fun h_2 => ?_)
      · exact absurd h_2 (nI_ge (b := 24) (show q < 24 by omega) (by decide))
      · skip
        refine lv_iload hx hb dM_count_55 (lv_at hl 1 rfl) ?_
        refine s_ifne hx hb dM_count_57 rfl (fun h_3 => ?_) (fun h_3 => ?_)
        · skip
          refine lv_iconst (v := 1) hx hb dM_count_85 (by decide) ?_
          refine lv_goto hx hb dM_count_86 rfl ?_
          refine lv_istore hx hb dM_count_90 hl (by decide) rfl (fun ls hl => ?_)
          have hl : lv_has ls 8 [(6, .int _), (7, .int _), (5, .int _), (4, .int _), (3, .int _), (0, .ref _), (1, .int _), (2, .int _)] := hl
          refine lv_iinc (k := 1) (v := nI (q + 1)) hx hb dM_count_92 hl rfl (by rw [nI_succ]; rfl) (by decide) rfl (fun ls hl => ?_)
          have hl : lv_has ls 8 [(7, .int _), (6, .int _), (5, .int _), (4, .int _), (3, .int _), (0, .ref _), (1, .int _), (2, .int _)] := hl
          refine lv_goto hx hb dM_count_95 rfl ?_
          exact ih (q + 1) _ (by omega) (mSome_s (by first | exact Or.inl ⟨h_3, rfl⟩ | exact Or.inr (Or.inl ⟨h_3, ⟨rfl, rfl⟩, rfl⟩) | exact Or.inr (Or.inr ⟨h_3, fun z => rfl z.1, rfl⟩) | exact Or.inr (Or.inr ⟨h_3, fun z => rfl z.2, rfl⟩))) ls (lv_sub hl [0, 1, 2, 3, 4, 5, 6, 7] rfl) H locs hH hS
        · skip
          refine lv_aload_n hx hb dM_count_60 rfl (lv_at hl 5 rfl) ?_
          refine lv_iload hx hb dM_count_61 (lv_at hl 0 rfl) ?_
          refine s_ciE (va_runV (As := [.int _]) (rest := []) ⟨hx, hb, hml, hown, hw⟩ (c_M_holder l  (by omega)) (cwV 1 hw (gd_V (gwd_7 (List.mem_of_getElem? (i := 30) rfl)) (gwd_7 (List.mem_of_getElem? (i := 31) rfl)) (gwd_9 (List.mem_of_getElem? (i := 31) rfl)) (gwd_0 (List.mem_of_getElem? (i := 3) rfl)) (gwd_7 (List.mem_of_getElem? (i := 32) rfl))) rfl rfl rfl (by decide +kernel) ⟨Nat.le_of_ble_eq_true rfl, Nat.le_of_ble_eq_true rfl⟩) (gPre.V (n := (11, 0, 0)) hK hH (by first | exact ⟨rfl, rfl⟩ | exact ⟨by assumption, rfl⟩ | exact ⟨by assumption, by assumption⟩ | exact ⟨by omega, rfl⟩ | exact ⟨by omega, by omega⟩ | exact ⟨by decide, rfl⟩) rfl rfl) rfl rfl hl.1 rfl (lv_room (Nat.le_of_ble_eq_true rfl)) dM_count_63 ⟨Nat.zero_le _, Nat.zero_le _⟩) hS (fun H locs hH hS => ?_)
          refine lv_iload_n hx hb dM_count_66 rfl (lv_at hl 6 rfl) ?_
          refine lv_icmp_ne hx hb dM_count_67 rfl (fun h_4 => ?_) (fun h_4 => ?_)
          · skip
            refine lv_iconst (v := 0) hx hb dM_count_89 (by decide) ?_
            refine lv_istore hx hb dM_count_90 hl (by decide) rfl (fun ls hl => ?_)
            have hl : lv_has ls 8 [(6, .int _), (7, .int _), (5, .int _), (4, .int _), (3, .int _), (0, .ref _), (1, .int _), (2, .int _)] := hl
            refine lv_iinc (k := 1) (v := nI (q + 1)) hx hb dM_count_92 hl rfl (by rw [nI_succ]; rfl) (by decide) rfl (fun ls hl => ?_)
            have hl : lv_has ls 8 [(7, .int _), (6, .int _), (5, .int _), (4, .int _), (3, .int _), (0, .ref _), (1, .int _), (2, .int _)] := hl
            refine lv_goto hx hb dM_count_95 rfl ?_
            exact ih (q + 1) _ (by omega) (mSome_s (by first | exact Or.inl ⟨h_3, rfl⟩ | exact Or.inr (Or.inl ⟨h_3, ⟨h_4, rfl⟩, rfl⟩) | exact Or.inr (Or.inr ⟨h_3, fun z => h_4 z.1, rfl⟩) | exact Or.inr (Or.inr ⟨h_3, fun z => rfl z.2, rfl⟩))) ls (lv_sub hl [0, 1, 2, 3, 4, 5, 6, 7] rfl) H locs hH hS
          · skip
            refine lv_aload_n hx hb dM_count_70 rfl (lv_at hl 5 rfl) ?_
            refine s_get hx hb hw inM hown hK hH 4 (by decide) (hw _ (gwd_5 (List.mem_of_getElem? (i := 44) rfl))) (by first | exact ⟨rfl, rfl⟩ | exact ⟨by assumption, rfl⟩ | exact ⟨by assumption, by assumption⟩ | exact ⟨by omega, rfl⟩ | exact ⟨by omega, by omega⟩ | exact ⟨by decide, rfl⟩) rfl rfl rfl rfl dM_count_71 ?_
            refine lv_iload hx hb dM_count_74 (lv_at hl 0 rfl) ?_
            refine m_iald hx hb hK hH (by first | exact ⟨rfl, rfl⟩ | exact ⟨by assumption, rfl⟩ | exact ⟨by assumption, by assumption⟩ | exact ⟨by omega, rfl⟩ | exact ⟨by omega, by omega⟩ | exact ⟨by decide, rfl⟩) rfl _ (by first | rfl | assumption) (show _ < 24 from by first | assumption | decide | omega) (by decide) dM_count_76 ?_
            refine lv_iload hx hb dM_count_77 (lv_at hl 3 rfl) ?_
            refine lv_idiv hx hb dM_count_79 hzn ?_
            refine lv_iload hx hb dM_count_80 (lv_at hl 2 rfl) ?_
            refine lv_icmp_ne hx hb dM_count_82 rfl (fun h_5 => ?_) (fun h_5 => ?_)
            · skip
              refine lv_iconst (v := 0) hx hb dM_count_89 (by decide) ?_
              refine lv_istore hx hb dM_count_90 hl (by decide) rfl (fun ls hl => ?_)
              have hl : lv_has ls 8 [(6, .int _), (7, .int _), (5, .int _), (4, .int _), (3, .int _), (0, .ref _), (1, .int _), (2, .int _)] := hl
              refine lv_iinc (k := 1) (v := nI (q + 1)) hx hb dM_count_92 hl rfl (by rw [nI_succ]; rfl) (by decide) rfl (fun ls hl => ?_)
              have hl : lv_has ls 8 [(7, .int _), (6, .int _), (5, .int _), (4, .int _), (3, .int _), (0, .ref _), (1, .int _), (2, .int _)] := hl
              refine lv_goto hx hb dM_count_95 rfl ?_
              exact ih (q + 1) _ (by omega) (mSome_s (by first | exact Or.inl ⟨h_3, rfl⟩ | exact Or.inr (Or.inl ⟨h_3, ⟨h_4, h_5⟩, rfl⟩) | exact Or.inr (Or.inr ⟨h_3, fun z => h_4 z.1, rfl⟩) | exact Or.inr (Or.inr ⟨h_3, fun z => h_5 z.2, rfl⟩))) ls (lv_sub hl [0, 1, 2, 3, 4, 5, 6, 7] rfl) H locs hH hS
            · skip
              refine lv_iconst (v := 1) hx hb dM_count_85 (by decide) ?_
              refine lv_goto hx hb dM_count_86 rfl ?_
              refine lv_istore hx hb dM_count_90 hl (by decide) rfl (fun ls hl => ?_)
              have hl : lv_has ls 8 [(6, .int _), (7, .int _), (5, .int _), (4, .int _), (3, .int _), (0, .ref _), (1, .int _), (2, .int _)] := hl
              refine lv_iinc (k := 1) (v := nI (q + 1)) hx hb dM_count_92 hl rfl (by rw [nI_succ]; rfl) (by decide) rfl (fun ls hl => ?_)
              have hl : lv_has ls 8 [(7, .int _), (6, .int _), (5, .int _), (4, .int _), (3, .int _), (0, .ref _), (1, .int _), (2, .int _)] := hl
              refine lv_goto hx hb dM_count_95 rfl ?_
              exact ih (q + 1) _ (by omega) (mSome_s (by first | exact Or.inl ⟨h_3, rfl⟩ | exact Or.inr (Or.inl ⟨h_3, ⟨h_4, h_5⟩, rfl⟩) | exact Or.inr (Or.inr ⟨h_3, fun z => h_4 z.1, rfl⟩) | exact Or.inr (Or.inr ⟨h_3, fun z => h_5 z.2, rfl⟩))) ls (lv_sub hl [0, 1, 2, 3, 4, 5, 6, 7] rfl) H locs hH hS
  have mid : ∀ (z a0 : Nat), (z = 4 ∨ z = 16) → (∀ ls : Array Slot, lv_has ls 8 [(4, .int (nI z)), (3, .int (nI (a0 + mCnt1 J G e2 z))), (0, .ref (ad (11, 0, 0))), (1, .int G), (2, .int e2)] → ∀ (H : Heap) (locs : List Loc), gW D c sz ad k I J P LG LP H → va_S (gA sz) s.heap H locs → W p l e (headSpec wM_count { frames := 1, cells := 0, slots := 0, locals := 21 }).room s m ([.ref (ad (11, 0, 0)), .int G, .int e2] : List Value).toArray below meth cd H locs 0 0 (MQ below (va_Qi (fun r u => r = mCnt J G e2 ∧ u = (ad, k, I, J, P, LG, LP)) (gB D c sz) (gA sz)) ([.ref (ad (11, 0, 0)), .int G, .int e2] : List Value).toArray s 0 0 (gA sz)) (F0 m 117 ls [])) → ∀ (n i a : Nat), i + n = 64 / z → a = a0 + cntB (fun i => mSome J G e2 z i 24) i → ∀ ls : Array Slot, lv_has ls 8 [(5, .int (nI i)), (4, .int (nI z)), (3, .int (nI a)), (0, .ref (ad (11, 0, 0))), (1, .int G), (2, .int e2)] → ∀ (H : Heap) (locs : List Loc), gW D c sz ad k I J P LG LP H → va_S (gA sz) s.heap H locs → W p l e (headSpec wM_count { frames := 1, cells := 0, slots := 0, locals := 21 }).room s m ([.ref (ad (11, 0, 0)), .int G, .int e2] : List Value).toArray below meth cd H locs 0 0 (MQ below (va_Qi (fun r u => r = mCnt J G e2 ∧ u = (ad, k, I, J, P, LG, LP)) (gB D c sz) (gA sz)) ([.ref (ad (11, 0, 0)), .int G, .int e2] : List Value).toArray s 0 0 (gA sz)) (F0 m 15 ls []) := by
    intro z a0 hz cont n
    have hzn : ¬ nI z = 0 := nI_ne0 (by omega) (by omega)
    have hzq : 64 / z ≤ 64 := Nat.div_le_self 64 z
    have h64 : (64 : Int32) / nI z = nI (64 / z) := pk_div (a := 64) (by decide) (by omega) (by omega)
    induction n with
    | zero =>
      intro i a hi ha ls hl H locs hH hS
      rw [show i = 64 / z by omega] at ha
      subst ha
      refine lv_iload hx hb dM_count_15 (lv_at hl 0 rfl) ?_
      refine lv_bipush (v := 64) hx hb dM_count_17 (by decide) ?_
      refine lv_iload hx hb dM_count_19 (lv_at hl 1 rfl) ?_
      refine lv_idiv hx hb dM_count_21 hzn ?_
      refine lv_icmp_ge hx hb dM_count_22 rfl (fun h_6 => ?_) (fun h_6 => ?_)
      · skip
        exact cont ls (lv_sub hl [1, 2, 3, 4, 5] rfl) H locs hH hS
      · exact absurd (by rw [h64]; exact nI_le (by omega) (by omega)) h_6
    | succ n ih =>
      intro i a hi ha ls hl H locs hH hS
      have fin : ∀ ls : Array Slot, lv_has ls 8 [(6, .int (bz (mSome J G e2 z i 24 = true))), (5, .int (nI i)), (4, .int (nI z)), (3, .int (nI a)), (0, .ref (ad (11, 0, 0))), (1, .int G), (2, .int e2)] → ∀ (H : Heap) (locs : List Loc), gW D c sz ad k I J P LG LP H → va_S (gA sz) s.heap H locs → W p l e (headSpec wM_count { frames := 1, cells := 0, slots := 0, locals := 21 }).room s m ([.ref (ad (11, 0, 0)), .int G, .int e2] : List Value).toArray below meth cd H locs 0 0 (MQ below (va_Qi (fun r u => r = mCnt J G e2 ∧ u = (ad, k, I, J, P, LG, LP)) (gB D c sz) (gA sz)) ([.ref (ad (11, 0, 0)), .int G, .int e2] : List Value).toArray s 0 0 (gA sz)) (F0 m 98 ls []) := by
        intro ls hl H locs hH hS
        refine lv_iload hx hb dM_count_98 (lv_at hl 0 rfl) ?_
        refine s_ifeq hx hb dM_count_100 rfl (fun h_7 => ?_) (fun h_7 => ?_)
        · skip
          refine lv_iload_n hx hb dM_count_109 rfl (lv_at hl 3 rfl) ?_
          refine lv_istore_n hx hb dM_count_110 rfl hl (by decide) rfl (fun ls hl => ?_)
          have hl : lv_has ls 8 [(3, .int _), (6, .int _), (5, .int _), (4, .int _), (0, .ref _), (1, .int _), (2, .int _)] := hl
          refine lv_iinc (k := 2) (v := nI (i + 1)) hx hb dM_count_111 hl rfl (by rw [nI_succ]; rfl) (by decide) rfl (fun ls hl => ?_)
          have hl : lv_has ls 8 [(5, .int _), (3, .int _), (6, .int _), (4, .int _), (0, .ref _), (1, .int _), (2, .int _)] := hl
          refine lv_goto hx hb dM_count_114 rfl ?_
          exact ih (i + 1) _ (by omega) (by simp [cntB, ha, Nat.add_assoc, h_7]) ls (lv_sub hl [0, 3, 1, 4, 5, 6] rfl) H locs hH hS
        · skip
          refine lv_iload_n hx hb dM_count_103 rfl (lv_at hl 3 rfl) ?_
          refine lv_iconst (v := 1) hx hb dM_count_104 (by decide) ?_
          refine lv_iadd hx hb dM_count_105 ?_
          rw [nI_1]
          refine lv_goto hx hb dM_count_106 rfl ?_
          refine lv_istore_n hx hb dM_count_110 rfl hl (by decide) rfl (fun ls hl => ?_)
          have hl : lv_has ls 8 [(3, .int _), (6, .int _), (5, .int _), (4, .int _), (0, .ref _), (1, .int _), (2, .int _)] := hl
          refine lv_iinc (k := 2) (v := nI (i + 1)) hx hb dM_count_111 hl rfl (by rw [nI_succ]; rfl) (by decide) rfl (fun ls hl => ?_)
          have hl : lv_has ls 8 [(5, .int _), (3, .int _), (6, .int _), (4, .int _), (0, .ref _), (1, .int _), (2, .int _)] := hl
          refine lv_goto hx hb dM_count_114 rfl ?_
          exact ih (i + 1) _ (by omega) (by simp [cntB, ha, Nat.add_assoc, h_7]) ls (lv_sub hl [0, 3, 1, 4, 5, 6] rfl) H locs hH hS
      refine lv_iload hx hb dM_count_15 (lv_at hl 0 rfl) ?_
      refine lv_bipush (v := 64) hx hb dM_count_17 (by decide) ?_
      refine lv_iload hx hb dM_count_19 (lv_at hl 1 rfl) ?_
      refine lv_idiv hx hb dM_count_21 hzn ?_
      refine lv_icmp_ge hx hb dM_count_22 rfl (fun h_8 => ?_) (fun h_8 => ?_)
      · exact absurd (by rw [← h64]; exact h_8) (nI_ge (show i < 64 / z by omega) (by omega))
      · skip
        refine lv_iload_n hx hb dM_count_25 rfl (lv_at hl 5 rfl) ?_
        refine lv_if_lt hx hb dM_count_26 rfl (fun h_9 => ?_) (fun h_9 => ?_)
        · skip
          refine lv_iconst (v := 0) hx hb dM_count_42 (by decide) ?_
          refine lv_istore hx hb dM_count_43 hl (by decide) rfl (fun ls hl => ?_)
          have hl : lv_has ls 8 [(6, .int _), (5, .int _), (4, .int _), (3, .int _), (0, .ref _), (1, .int _), (2, .int _)] := hl
          refine lv_iconst (v := 0) hx hb dM_count_45 (by decide) ?_
          refine lv_istore hx hb dM_count_46 hl (by decide) rfl (fun ls hl => ?_)
          have hl : lv_has ls 8 [(7, .int _), (6, .int _), (5, .int _), (4, .int _), (3, .int _), (0, .ref _), (1, .int _), (2, .int _)] := hl
          exact in3 z i a hz (by omega) fin 24 0 _ (by omega) (by simp [bz, mSome, anyB, h_9]) ls (lv_sub hl [0, 1, 2, 3, 4, 5, 6, 7] rfl) H locs hH hS
        · skip
          refine lv_iload_n hx hb dM_count_29 rfl (lv_at hl 5 rfl) ?_
          refine lv_iload hx hb dM_count_30 (lv_at hl 1 rfl) ?_
          refine lv_idiv hx hb dM_count_32 hzn ?_
          refine lv_iload hx hb dM_count_33 (lv_at hl 0 rfl) ?_
          refine lv_icmp_ne hx hb dM_count_35 rfl (fun h_10 => ?_) (fun h_10 => ?_)
          · skip
            refine lv_iconst (v := 0) hx hb dM_count_42 (by decide) ?_
            refine lv_istore hx hb dM_count_43 hl (by decide) rfl (fun ls hl => ?_)
            have hl : lv_has ls 8 [(6, .int _), (5, .int _), (4, .int _), (3, .int _), (0, .ref _), (1, .int _), (2, .int _)] := hl
            refine lv_iconst (v := 0) hx hb dM_count_45 (by decide) ?_
            refine lv_istore hx hb dM_count_46 hl (by decide) rfl (fun ls hl => ?_)
            have hl : lv_has ls 8 [(7, .int _), (6, .int _), (5, .int _), (4, .int _), (3, .int _), (0, .ref _), (1, .int _), (2, .int _)] := hl
            exact in3 z i a hz (by omega) fin 24 0 _ (by omega) (by simp [bz, mSome, anyB, h_9, h_10]) ls (lv_sub hl [0, 1, 2, 3, 4, 5, 6, 7] rfl) H locs hH hS
          · skip
            refine lv_iconst (v := 1) hx hb dM_count_38 (by decide) ?_
            refine lv_goto hx hb dM_count_39 rfl ?_
            refine lv_istore hx hb dM_count_43 hl (by decide) rfl (fun ls hl => ?_)
            have hl : lv_has ls 8 [(6, .int _), (5, .int _), (4, .int _), (3, .int _), (0, .ref _), (1, .int _), (2, .int _)] := hl
            refine lv_iconst (v := 0) hx hb dM_count_45 (by decide) ?_
            refine lv_istore hx hb dM_count_46 hl (by decide) rfl (fun ls hl => ?_)
            have hl : lv_has ls 8 [(7, .int _), (6, .int _), (5, .int _), (4, .int _), (3, .int _), (0, .ref _), (1, .int _), (2, .int _)] := hl
            exact in3 z i a hz (by omega) fin 24 0 _ (by omega) (by simp [bz, mSome, anyB, h_9, h_10]) ls (lv_sub hl [0, 1, 2, 3, 4, 5, 6, 7] rfl) H locs hH hS
  refine lv_iconst (v := 0) hx hb dM_count_0 (by decide) ?_
  refine lv_istore_n hx hb dM_count_1 rfl hl (by decide) rfl (fun ls hl => ?_)
  have hl : lv_has ls 8 [(3, .int _), (0, .ref _), (1, .int _), (2, .int _)] := hl
  refine lv_iconst (v := 4) hx hb dM_count_2 (by decide) ?_
  refine lv_istore hx hb dM_count_3 hl (by decide) rfl (fun ls hl => ?_)
  have hl : lv_has ls 8 [(4, .int _), (3, .int _), (0, .ref _), (1, .int _), (2, .int _)] := hl
  refine lv_iload hx hb dM_count_5 (lv_at hl 0 rfl) ?_
  refine lv_bipush (v := 16) hx hb dM_count_7 (by decide) ?_
  refine lv_icmp_gt hx hb dM_count_9 rfl (fun h_11 => ?_) (fun h_11 => ?_)
  · exact absurd h_11 (by decide)
  · skip
    refine lv_iconst (v := 0) hx hb dM_count_12 (by decide) ?_
    refine lv_istore hx hb dM_count_13 hl (by decide) rfl (fun ls hl => ?_)
    have hl : lv_has ls 8 [(5, .int _), (4, .int _), (3, .int _), (0, .ref _), (1, .int _), (2, .int _)] := hl
    refine mid 4 0 (by decide) (fun ls hl H locs hH hS => ?_) (64 / 4) 0 _ (by omega) (by rfl) ls (lv_sub hl [0, 1, 2, 3, 4, 5] rfl) _ _ hH hS
    refine lv_iinc (k := 0) (v := 16) hx hb dM_count_117 hl rfl (by decide) (by decide) rfl (fun ls hl => ?_)
    have hl : lv_has ls 8 [(4, .int _), (3, .int _), (0, .ref _), (1, .int _), (2, .int _)] := hl
    refine lv_goto hx hb dM_count_120 rfl ?_
    refine lv_iload hx hb dM_count_5 (lv_at hl 0 rfl) ?_
    refine lv_bipush (v := 16) hx hb dM_count_7 (by decide) ?_
    refine lv_icmp_gt hx hb dM_count_9 rfl (fun h_12 => ?_) (fun h_12 => ?_)
    · exact absurd h_12 (by decide)
    · skip
      refine lv_iconst (v := 0) hx hb dM_count_12 (by decide) ?_
      refine lv_istore hx hb dM_count_13 hl (by decide) rfl (fun ls hl => ?_)
      have hl : lv_has ls 8 [(5, .int _), (4, .int _), (3, .int _), (0, .ref _), (1, .int _), (2, .int _)] := hl
      refine mid 16 (0 + mCnt1 J G e2 4) (by decide) (fun ls hl H locs hH hS => ?_) (64 / 16) 0 _ (by omega) (by rfl) ls (lv_sub hl [0, 1, 2, 3, 4, 5] rfl) _ _ hH hS
      refine lv_iinc (k := 0) (v := 28) hx hb dM_count_117 hl rfl (by decide) (by decide) rfl (fun ls hl => ?_)
      have hl : lv_has ls 8 [(4, .int _), (3, .int _), (0, .ref _), (1, .int _), (2, .int _)] := hl
      refine lv_goto hx hb dM_count_120 rfl ?_
      refine lv_iload hx hb dM_count_5 (lv_at hl 0 rfl) ?_
      refine lv_bipush (v := 16) hx hb dM_count_7 (by decide) ?_
      refine lv_icmp_gt hx hb dM_count_9 rfl (fun h_13 => ?_) (fun h_13 => ?_)
      · skip
        refine lv_iload_n hx hb dM_count_123 rfl (lv_at hl 1 rfl) ?_
        exact r_i hx hb hr hlk hK hH hS dM_count_124 (⟨by rw [mCnt, Nat.zero_add], rfl⟩)
      · exact absurd h_13 (by decide)
set_option maxHeartbeats 4000000 in
set_option maxRecDepth 100000 in
theorem c_M_rest (l : Launch) {D : va_G} {c : Nat → ClassId} {sz : Nat} {ad : gN → Nat} {k : Nat} {I J : gI} {P : gP} {LG : Option Nat} {LP : Option (Nat × Nat)} {G : Int32}  : Met l yM_rest wM_rest { frames := 2, cells := 0, slots := 0, locals := 48 } (gPre D c sz [.ref (ad (11, 0, 0)), .int G] (ad, k, I, J, P, LG, LP)) (va_Qi (fun r u => r = mRest J G ∧ u = (ad, k, I, J, P, LG, LP)) (gB D c sz) (gA sz)) 0 0 (gA sz) := by
  refine Met.ofW (cc := cM_rest) (maxL := 4) (ret := (some .int)) (by decide) rfl ?_
  intro p e s m args below meth cd s₁ B hml hv
  obtain ⟨rfl, hK, hH⟩ := hv
  have hx := B.exec
  have hb := B.bytes
  have hr := B.returns
  have hts := atoms_spec (ws := wM_rest) B.pre
  have hw : ∀ w ∈ gWd, w.before _ s = true := fun w h => hts w (List.mem_cons_of_mem _ h)
  have hown : s.vm.findClass RM = some m.cls := findClass_of_methodNamed B.named
  have hlk := B.notSynchronized
  have hS : va_S (gA sz) s.heap s.heap [] := va_S.rf
  have hH : gW D c sz ad k I J P LG LP s.heap := hH
  have hl := lv_entry ([.ref (ad (11, 0, 0)), .int G]) (n := 4) (Nat.le_of_ble_eq_true rfl)
  rw [lg_entry_eq]
  generalize (lg_sl ([.ref (ad (11, 0, 0)), .int G]) ++ List.replicate (4 - (lg_sl ([.ref (ad (11, 0, 0)), .int G])).length) Slot.unset).toArray = ls at hl ⊢
  have hl : lv_has ls 4 [(0, .ref (ad (11, 0, 0))), (1, .int G)] := hl
  have key : ∀ (n i a : Nat), i + n = 24 → a = cntB (fun p => decide (J (ma 1) p = 7 ∧ J (ma 2) p = G)) i → ∀ ls : Array Slot, lv_has ls 4 [(3, .int (nI i)), (2, .int (nI a)), (0, .ref (ad (11, 0, 0))), (1, .int G)] → ∀ (H : Heap) (locs : List Loc), gW D c sz ad k I J P LG LP H → va_S (gA sz) s.heap H locs → W p l e (headSpec wM_rest { frames := 2, cells := 0, slots := 0, locals := 48 }).room s m ([.ref (ad (11, 0, 0)), .int G] : List Value).toArray below meth cd H locs 0 0 (MQ below (va_Qi (fun r u => r = mRest J G ∧ u = (ad, k, I, J, P, LG, LP)) (gB D c sz) (gA sz)) ([.ref (ad (11, 0, 0)), .int G] : List Value).toArray s 0 0 (gA sz)) (F0 m 4 ls []) := by
    intro n
    induction n with
    | zero =>
      intro i a hi ha ls hl H locs hH hS
      rw [show i = 24 by omega] at ha
      refine lv_iload_n hx hb dM_rest_4 rfl (lv_at hl 0 rfl) ?_
      refine lv_bipush (v := 24) hx hb dM_rest_5 (by decide) ?_
      refine lv_icmp_ge hx hb dM_rest_7 rfl (fun h_1 => ?_) (fun h_1 => ?_)
      · skip
        refine lv_iload_n hx hb dM_rest_45 rfl (lv_at hl 1 rfl) ?_
        refine lv_iconst (v := 1) hx hb dM_rest_46 (by decide) ?_
        refine lv_isub hx hb dM_rest_47 ?_
        refine lv_aload_n hx hb dM_rest_48 rfl (lv_at hl 2 rfl) ?_
        refine lv_iload_n hx hb dM_rest_49 rfl (lv_at hl 3 rfl) ?_
        refine lv_iconst (v := -1) hx hb dM_rest_50 (by decide) ?_
        refine s_ciE (va_runV (As := [.int _, .int _]) (rest := [.int _]) ⟨hx, hb, hml, hown, hw⟩ (c_M_count l  ) (cwV 2 hw (gd_V (gwd_7 (List.mem_of_getElem? (i := 27) rfl)) (gwd_7 (List.mem_of_getElem? (i := 28) rfl)) (gwd_9 (List.mem_of_getElem? (i := 30) rfl)) (gwd_0 (List.mem_of_getElem? (i := 3) rfl)) (gwd_7 (List.mem_of_getElem? (i := 29) rfl))) rfl rfl rfl (by decide +kernel) ⟨Nat.le_of_ble_eq_true rfl, Nat.le_of_ble_eq_true rfl⟩) (gPre.V (n := (11, 0, 0)) hK hH (by first | exact ⟨rfl, rfl⟩ | exact ⟨by assumption, rfl⟩ | exact ⟨by assumption, by assumption⟩ | exact ⟨by omega, rfl⟩ | exact ⟨by omega, by omega⟩ | exact ⟨by decide, rfl⟩) rfl rfl) rfl rfl hl.1 rfl (lv_room (Nat.le_of_ble_eq_true rfl)) dM_rest_51 ⟨Nat.zero_le _, Nat.zero_le _⟩) hS (fun H locs hH hS => ?_)
        refine lv_isub hx hb dM_rest_54 ?_
        exact r_i hx hb hr hlk hK hH hS dM_rest_55 (⟨by rw [ha]; rfl, rfl⟩)
      · exact absurd (show (24 : Int32) ≤ nI i from nI_le (a := 24) (by omega) (by omega)) h_1
    | succ n ih =>
      intro i a hi ha ls hl H locs hH hS
      refine lv_iload_n hx hb dM_rest_4 rfl (lv_at hl 0 rfl) ?_
      refine lv_bipush (v := 24) hx hb dM_rest_5 (by decide) ?_
      refine lv_icmp_ge hx hb dM_rest_7 rfl (fun h_2 => ?_) (fun h_2 => ?_)
      · exact absurd h_2 (nI_ge (b := 24) (show i < 24 by omega) (by decide))
      · skip
        refine lv_aload_n hx hb dM_rest_10 rfl (lv_at hl 2 rfl) ?_
        refine s_get hx hb hw inM hown hK hH 1 (by decide) (hw _ (gwd_5 (List.mem_of_getElem? (i := 41) rfl))) (by first | exact ⟨rfl, rfl⟩ | exact ⟨by assumption, rfl⟩ | exact ⟨by assumption, by assumption⟩ | exact ⟨by omega, rfl⟩ | exact ⟨by omega, by omega⟩ | exact ⟨by decide, rfl⟩) rfl rfl rfl rfl dM_rest_11 ?_
        refine lv_iload_n hx hb dM_rest_14 rfl (lv_at hl 0 rfl) ?_
        refine m_iald hx hb hK hH (by first | exact ⟨rfl, rfl⟩ | exact ⟨by assumption, rfl⟩ | exact ⟨by assumption, by assumption⟩ | exact ⟨by omega, rfl⟩ | exact ⟨by omega, by omega⟩ | exact ⟨by decide, rfl⟩) rfl _ (by first | rfl | assumption) (show _ < 24 from by omega) (by decide) dM_rest_15 ?_
        refine lv_bipush (v := 7) hx hb dM_rest_16 (by decide) ?_
        refine lv_icmp_ne hx hb dM_rest_18 rfl (fun h_3 => ?_) (fun h_3 => ?_)
        · skip
          refine lv_iload_n hx hb dM_rest_37 rfl (lv_at hl 1 rfl) ?_
          refine lv_istore_n hx hb dM_rest_38 rfl hl (by decide) rfl (fun ls hl => ?_)
          have hl : lv_has ls 4 [(2, .int _), (3, .int _), (0, .ref _), (1, .int _)] := hl
          refine lv_iinc (k := 1) (v := nI (i + 1)) hx hb dM_rest_39 hl rfl (by rw [nI_succ]; rfl) (by decide) rfl (fun ls hl => ?_)
          have hl : lv_has ls 4 [(3, .int _), (2, .int _), (0, .ref _), (1, .int _)] := hl
          refine lv_goto hx hb dM_rest_42 rfl ?_
          exact ih (i + 1) _ (by omega) (by simp [cntB, ha, h_3]) ls (lv_sub hl [0, 1, 2, 3] rfl) H locs hH hS
        · skip
          refine lv_aload_n hx hb dM_rest_21 rfl (lv_at hl 2 rfl) ?_
          refine s_get hx hb hw inM hown hK hH 2 (by decide) (hw _ (gwd_5 (List.mem_of_getElem? (i := 42) rfl))) (by first | exact ⟨rfl, rfl⟩ | exact ⟨by assumption, rfl⟩ | exact ⟨by assumption, by assumption⟩ | exact ⟨by omega, rfl⟩ | exact ⟨by omega, by omega⟩ | exact ⟨by decide, rfl⟩) rfl rfl rfl rfl dM_rest_22 ?_
          refine lv_iload_n hx hb dM_rest_25 rfl (lv_at hl 0 rfl) ?_
          refine m_iald hx hb hK hH (by first | exact ⟨rfl, rfl⟩ | exact ⟨by assumption, rfl⟩ | exact ⟨by assumption, by assumption⟩ | exact ⟨by omega, rfl⟩ | exact ⟨by omega, by omega⟩ | exact ⟨by decide, rfl⟩) rfl _ (by first | rfl | assumption) (show _ < 24 from by omega) (by decide) dM_rest_26 ?_
          refine lv_iload_n hx hb dM_rest_27 rfl (lv_at hl 3 rfl) ?_
          refine lv_icmp_ne hx hb dM_rest_28 rfl (fun h_4 => ?_) (fun h_4 => ?_)
          · skip
            refine lv_iload_n hx hb dM_rest_37 rfl (lv_at hl 1 rfl) ?_
            refine lv_istore_n hx hb dM_rest_38 rfl hl (by decide) rfl (fun ls hl => ?_)
            have hl : lv_has ls 4 [(2, .int _), (3, .int _), (0, .ref _), (1, .int _)] := hl
            refine lv_iinc (k := 1) (v := nI (i + 1)) hx hb dM_rest_39 hl rfl (by rw [nI_succ]; rfl) (by decide) rfl (fun ls hl => ?_)
            have hl : lv_has ls 4 [(3, .int _), (2, .int _), (0, .ref _), (1, .int _)] := hl
            refine lv_goto hx hb dM_rest_42 rfl ?_
            exact ih (i + 1) _ (by omega) (by simp [cntB, ha, h_3, h_4]) ls (lv_sub hl [0, 1, 2, 3] rfl) H locs hH hS
          · skip
            refine lv_iload_n hx hb dM_rest_31 rfl (lv_at hl 1 rfl) ?_
            refine lv_iconst (v := 1) hx hb dM_rest_32 (by decide) ?_
            refine lv_iadd hx hb dM_rest_33 ?_
            rw [nI_1]
            refine lv_goto hx hb dM_rest_34 rfl ?_
            refine lv_istore_n hx hb dM_rest_38 rfl hl (by decide) rfl (fun ls hl => ?_)
            have hl : lv_has ls 4 [(2, .int _), (3, .int _), (0, .ref _), (1, .int _)] := hl
            refine lv_iinc (k := 1) (v := nI (i + 1)) hx hb dM_rest_39 hl rfl (by rw [nI_succ]; rfl) (by decide) rfl (fun ls hl => ?_)
            have hl : lv_has ls 4 [(3, .int _), (2, .int _), (0, .ref _), (1, .int _)] := hl
            refine lv_goto hx hb dM_rest_42 rfl ?_
            exact ih (i + 1) _ (by omega) (by simp [cntB, ha, h_3, h_4]) ls (lv_sub hl [0, 1, 2, 3] rfl) H locs hH hS
  refine lv_iconst (v := 0) hx hb dM_rest_0 (by decide) ?_
  refine lv_istore_n hx hb dM_rest_1 rfl hl (by decide) rfl (fun ls hl => ?_)
  have hl : lv_has ls 4 [(2, .int _), (0, .ref _), (1, .int _)] := hl
  refine lv_iconst (v := 0) hx hb dM_rest_2 (by decide) ?_
  refine lv_istore_n hx hb dM_rest_3 rfl hl (by decide) rfl (fun ls hl => ?_)
  have hl : lv_has ls 4 [(3, .int _), (2, .int _), (0, .ref _), (1, .int _)] := hl
  exact key 24 0 0 (by omega) rfl ls (lv_sub hl [0, 1, 2, 3] rfl) s.heap [] hH hS
end
section
theorem mOk_ix {x y : Int32} (h : mOk x y) : ∃ j i, j < 24 ∧ i < 4 ∧ x = nI j ∧ y = nI i := by
  obtain ⟨j, hj, rfl⟩ := isP_ix h.1
  obtain ⟨i, hi, rfl⟩ := ix_le 3 3 rfl (by decide) h.2.1 h.2.2
  exact ⟨j, i, hj, by omega, rfl, rfl⟩
theorem mTouch_ok {J : gI} {x y : Int32} (h : ¬ (mTouch J x y).1 = 0) : mOk x y := by
  by_cases z : mOk x y
  · exact z
  · rw [mTouch, if_neg z] at h
    exact absurd rfl h
theorem mTouch_01 {J : gI} {x y : Int32} (h01 : ∀ q, q < 24 → J (13, 6, 0) q = 0 ∨ J (13, 6, 0) q = 1) : (mTouch J x y).1 = 0 ∨ (mTouch J x y).1 = 1 := by
  by_cases z : mOk x y
  · obtain ⟨j, i, hj, -, rfl, -⟩ := mOk_ix z
    rw [mTouch, if_pos z, ix_nI (by omega)]
    show mTch J j (mb 6) j = 0 ∨ mTch J j (mb 6) j = 1
    unfold mTch
    split
    · simp only [iu_at, and_self, if_true]
      exact bz_01 _
    · exact h01 j hj
  · rw [mTouch, if_neg z]
    exact Or.inl rfl
set_option maxHeartbeats 4000000 in
set_option maxRecDepth 100000 in
theorem c_M_touch (l : Launch) {D : va_G} {c : Nat → ClassId} {sz : Nat} {ad : gN → Nat} {k : Nat} {I J : gI} {P : gP} {LG : Option Nat} {LP : Option (Nat × Nat)} {x y : Int32} (h01 : ∀ q, q < 24 → J (13, 6, 0) q = 0 ∨ J (13, 6, 0) q = 1) : Met l yM_touch wM_touch { frames := 1, cells := 0, slots := 0, locals := 21 } (gPre D c sz [.ref (ad (11, 0, 0)), .int x, .int y] (ad, k, I, J, P, LG, LP)) (va_Qi (fun r u => r = (mTouch J x y).1 ∧ u = (ad, k, I, (mTouch J x y).2, P, LG, LP)) (gB D c sz) (gA sz)) 0 0 (gA sz) := by
  refine Met.ofW (cc := cM_touch) (maxL := 3) (ret := (some .boolean)) (by decide) rfl ?_
  intro p e s m args below meth cd s₁ B hml hv
  obtain ⟨rfl, hK, hH⟩ := hv
  have hx := B.exec
  have hb := B.bytes
  have hr := B.returns
  have hts := atoms_spec (ws := wM_touch) B.pre
  have hw : ∀ w ∈ gWd, w.before _ s = true := fun w h => hts w (List.mem_cons_of_mem _ h)
  have hown : s.vm.findClass RM = some m.cls := findClass_of_methodNamed B.named
  have hlk := B.notSynchronized
  have hS : va_S (gA sz) s.heap s.heap [] := va_S.rf
  have hH : gW D c sz ad k I J P LG LP s.heap := hH
  have hl := lv_entry ([.ref (ad (11, 0, 0)), .int x, .int y]) (n := 3) (Nat.le_of_ble_eq_true rfl)
  rw [lg_entry_eq]
  generalize (lg_sl ([.ref (ad (11, 0, 0)), .int x, .int y]) ++ List.replicate (3 - (lg_sl ([.ref (ad (11, 0, 0)), .int x, .int y])).length) Slot.unset).toArray = ls at hl ⊢
  have hl : lv_has ls 3 [(0, .ref (ad (11, 0, 0))), (1, .int x), (2, .int y)] := hl
  refine lv_iload_n hx hb dM_touch_0 rfl (lv_at hl 1 rfl) ?_
  refine s_ciE (va_runS (As := [.int _]) (rest := []) ⟨hx, hb, hml, hown, hw⟩ (c_M_isPage l  ) (cwS 1 hw (gd_S (gwd_6 (List.mem_of_getElem? (i := 34) rfl)) (gwd_6 (List.mem_of_getElem? (i := 35) rfl)) (gwd_0 (List.mem_of_getElem? (i := 3) rfl)) (gwd_6 (List.mem_of_getElem? (i := 36) rfl))) rfl rfl rfl (by decide +kernel) ⟨Nat.le_of_ble_eq_true rfl, Nat.le_of_ble_eq_true rfl⟩) (gPre.S hK hH) rfl rfl hl.1 rfl (lv_room (Nat.le_of_ble_eq_true rfl)) dM_touch_1 ⟨Nat.zero_le _, Nat.zero_le _⟩) hS (fun H locs hH hS => ?_)
  refine s_ifeq hx hb dM_touch_4 rfl (fun h_1 => ?_) (fun h_1 => ?_)
  · skip
    refine lv_iconst (v := 0) hx hb dM_touch_16 (by decide) ?_
    exact r_z hx hb hr hlk hK hH hS dM_touch_17 (by first | exact Or.inl rfl | exact Or.inr rfl | exact bz_01 _ | assumption) (by rw [mTouch, if_neg (fun q => h_1 q.1)]; exact ⟨rfl, rfl⟩)
  · skip
    obtain ⟨j, hj, rfl⟩ := isP_ix h_1
    have hi : ix (nI j) = j := ix_nI (by omega)
    refine lv_iload_n hx hb dM_touch_7 rfl (lv_at hl 2 rfl) ?_
    refine lv_if_lt hx hb dM_touch_8 rfl (fun h_2 => ?_) (fun h_2 => ?_)
    · skip
      refine lv_iconst (v := 0) hx hb dM_touch_16 (by decide) ?_
      exact r_z hx hb hr hlk hK hH hS dM_touch_17 (by first | exact Or.inl rfl | exact Or.inr rfl | exact bz_01 _ | assumption) (by rw [mTouch, if_neg (fun q => q.2.1 h_2)]; exact ⟨rfl, rfl⟩)
    · skip
      refine lv_iload_n hx hb dM_touch_11 rfl (lv_at hl 2 rfl) ?_
      refine lv_iconst (v := 3) hx hb dM_touch_12 (by decide) ?_
      refine lv_icmp_le hx hb dM_touch_13 rfl (fun h_3 => ?_) (fun h_3 => ?_)
      · skip
        refine lv_aload_n hx hb dM_touch_18 rfl (lv_at hl 0 rfl) ?_
        refine s_get hx hb hw inM hown hK hH 6 (by decide) (hw _ (gwd_5 (List.mem_of_getElem? (i := 46) rfl))) (by first | exact ⟨rfl, rfl⟩ | exact ⟨by assumption, rfl⟩ | exact ⟨by assumption, by assumption⟩ | exact ⟨by omega, rfl⟩ | exact ⟨by omega, by omega⟩ | exact ⟨by decide, rfl⟩) rfl rfl rfl rfl dM_touch_19 ?_
        refine lv_iload_n hx hb dM_touch_22 rfl (lv_at hl 1 rfl) ?_
        refine m_zald hx hb hK hH (by first | exact ⟨rfl, rfl⟩ | exact ⟨by assumption, rfl⟩ | exact ⟨by assumption, by assumption⟩ | exact ⟨by omega, rfl⟩ | exact ⟨by omega, by omega⟩ | exact ⟨by decide, rfl⟩) rfl _ (by first | rfl | assumption) (show _ < 24 from by first | assumption | decide | omega) (by decide) dM_touch_23 ?_
        refine lv_if_ne hx hb dM_touch_24 rfl (fun h_4 => ?_) (fun h_4 => ?_)
        · skip
          refine lv_aload_n hx hb dM_touch_48 rfl (lv_at hl 0 rfl) ?_
          refine s_get hx hb hw inM hown hK hH 6 (by decide) (hw _ (gwd_5 (List.mem_of_getElem? (i := 46) rfl))) (by first | exact ⟨rfl, rfl⟩ | exact ⟨by assumption, rfl⟩ | exact ⟨by assumption, by assumption⟩ | exact ⟨by omega, rfl⟩ | exact ⟨by omega, by omega⟩ | exact ⟨by decide, rfl⟩) rfl rfl rfl rfl dM_touch_49 ?_
          refine lv_iload_n hx hb dM_touch_52 rfl (lv_at hl 1 rfl) ?_
          refine m_zald hx hb hK hH (by first | exact ⟨rfl, rfl⟩ | exact ⟨by assumption, rfl⟩ | exact ⟨by assumption, by assumption⟩ | exact ⟨by omega, rfl⟩ | exact ⟨by omega, by omega⟩ | exact ⟨by decide, rfl⟩) rfl _ (by first | rfl | assumption) (show _ < 24 from by first | assumption | decide | omega) (by decide) dM_touch_53 ?_
          try simp only [iu_at, and_self, if_true]
          exact r_z hx hb hr hlk hK hH hS dM_touch_54 (by first | exact h01 j hj | exact bz_01 _) (by rw [mTouch, if_pos ⟨h_1, h_2, h_3⟩, hi]; first | (rw [mTch, if_neg h_4]; exact ⟨rfl, rfl⟩) | (rw [mTch, if_pos h_4]; exact ⟨by simp [iu_at], rfl⟩))
        · skip
          refine lv_aload_n hx hb dM_touch_27 rfl (lv_at hl 0 rfl) ?_
          refine lv_dup hx hb dM_touch_28 rfl ?_
          refine s_get hx hb hw inM hown hK hH 16 (by decide) (hw _ (gwd_6 (List.mem_of_getElem? (i := 8) rfl))) (by first | exact ⟨rfl, rfl⟩ | exact ⟨by assumption, rfl⟩ | exact ⟨by assumption, by assumption⟩ | exact ⟨by omega, rfl⟩ | exact ⟨by omega, by omega⟩ | exact ⟨by decide, rfl⟩) rfl rfl rfl rfl dM_touch_29 ?_
          refine lv_iconst (v := 1) hx hb dM_touch_32 (by decide) ?_
          refine lv_iadd hx hb dM_touch_33 ?_
          refine m_put hx hb hw inM tyM_ok nM hown hK hH hS 16 (by decide) (hw _ (gwd_6 (List.mem_of_getElem? (i := 8) rfl))) (by first | exact ⟨rfl, rfl⟩ | exact ⟨by assumption, rfl⟩ | exact ⟨by assumption, by assumption⟩ | exact ⟨by omega, rfl⟩ | exact ⟨by omega, by omega⟩ | exact ⟨by decide, rfl⟩) rfl rfl rfl rfl rfl rfl rfl (Nat.le_of_ble_eq_true rfl) rfl dM_touch_34 (fun H locs hH hS => ?_)
          refine lv_aload_n hx hb dM_touch_37 rfl (lv_at hl 0 rfl) ?_
          refine s_get hx hb hw inM hown hK hH 6 (by decide) (hw _ (gwd_5 (List.mem_of_getElem? (i := 46) rfl))) (by first | exact ⟨rfl, rfl⟩ | exact ⟨by assumption, rfl⟩ | exact ⟨by assumption, by assumption⟩ | exact ⟨by omega, rfl⟩ | exact ⟨by omega, by omega⟩ | exact ⟨by decide, rfl⟩) rfl rfl rfl rfl dM_touch_38 ?_
          refine lv_iload_n hx hb dM_touch_41 rfl (lv_at hl 1 rfl) ?_
          refine lv_aload_n hx hb dM_touch_42 rfl (lv_at hl 0 rfl) ?_
          refine lv_iload_n hx hb dM_touch_43 rfl (lv_at hl 1 rfl) ?_
          refine s_ciE (va_runV (As := [.int _]) (rest := [.int _, .ref _]) ⟨hx, hb, hml, hown, hw⟩ (c_M_hostMay l  (by assumption)) (cwV 1 hw (gd_V (gwd_6 (List.mem_of_getElem? (i := 37) rfl)) (gwd_6 (List.mem_of_getElem? (i := 38) rfl)) (gwd_9 (List.mem_of_getElem? (i := 23) rfl)) (gwd_0 (List.mem_of_getElem? (i := 3) rfl)) (gwd_6 (List.mem_of_getElem? (i := 39) rfl))) rfl rfl rfl (by decide +kernel) ⟨Nat.le_of_ble_eq_true rfl, Nat.le_of_ble_eq_true rfl⟩) (gPre.V (n := (11, 0, 0)) hK hH (by first | exact ⟨rfl, rfl⟩ | exact ⟨by assumption, rfl⟩ | exact ⟨by assumption, by assumption⟩ | exact ⟨by omega, rfl⟩ | exact ⟨by omega, by omega⟩ | exact ⟨by decide, rfl⟩) rfl rfl) rfl rfl hl.1 rfl (lv_room (Nat.le_of_ble_eq_true rfl)) dM_touch_44 ⟨Nat.zero_le _, Nat.zero_le _⟩) hS (fun H locs hH hS => ?_)
          refine m_zast hx hb hK hH hS (by first | exact ⟨rfl, rfl⟩ | exact ⟨by assumption, rfl⟩ | exact ⟨by assumption, by assumption⟩ | exact ⟨by omega, rfl⟩ | exact ⟨by omega, by omega⟩ | exact ⟨by decide, rfl⟩) rfl _ (by first | rfl | assumption) (show _ < 24 from by first | assumption | decide | omega) (by decide) (by first | exact Or.inl rfl | exact Or.inr rfl | exact bz_01 _ | assumption) rfl dM_touch_47 (fun H locs hH hS => ?_)
          refine lv_aload_n hx hb dM_touch_48 rfl (lv_at hl 0 rfl) ?_
          refine s_get hx hb hw inM hown hK hH 6 (by decide) (hw _ (gwd_5 (List.mem_of_getElem? (i := 46) rfl))) (by first | exact ⟨rfl, rfl⟩ | exact ⟨by assumption, rfl⟩ | exact ⟨by assumption, by assumption⟩ | exact ⟨by omega, rfl⟩ | exact ⟨by omega, by omega⟩ | exact ⟨by decide, rfl⟩) rfl rfl rfl rfl dM_touch_49 ?_
          refine lv_iload_n hx hb dM_touch_52 rfl (lv_at hl 1 rfl) ?_
          refine m_zald hx hb hK hH (by first | exact ⟨rfl, rfl⟩ | exact ⟨by assumption, rfl⟩ | exact ⟨by assumption, by assumption⟩ | exact ⟨by omega, rfl⟩ | exact ⟨by omega, by omega⟩ | exact ⟨by decide, rfl⟩) rfl _ (by first | rfl | assumption) (show _ < 24 from by first | assumption | decide | omega) (by decide) dM_touch_53 ?_
          try simp only [iu_at, and_self, if_true]
          exact r_z hx hb hr hlk hK hH hS dM_touch_54 (by first | exact h01 j hj | exact bz_01 _) (by rw [mTouch, if_pos ⟨h_1, h_2, h_3⟩, hi]; first | (rw [mTch, if_neg h_4]; exact ⟨rfl, rfl⟩) | (rw [mTch, if_pos h_4]; exact ⟨by simp [iu_at], rfl⟩))
      · skip
        refine lv_iconst (v := 0) hx hb dM_touch_16 (by decide) ?_
        exact r_z hx hb hr hlk hK hH hS dM_touch_17 (by first | exact Or.inl rfl | exact Or.inr rfl | exact bz_01 _ | assumption) (by rw [mTouch, if_neg (fun q => h_3 q.2.2)]; exact ⟨rfl, rfl⟩)
set_option maxHeartbeats 4000000 in
set_option maxRecDepth 100000 in
theorem c_M_read (l : Launch) {D : va_G} {c : Nat → ClassId} {sz : Nat} {ad : gN → Nat} {k : Nat} {I J : gI} {P : gP} {LG : Option Nat} {LP : Option (Nat × Nat)} {x y : Int32} (h01 : ∀ q, q < 24 → J (13, 6, 0) q = 0 ∨ J (13, 6, 0) q = 1) : Met l yM_read wM_read { frames := 2, cells := 0, slots := 0, locals := 43 } (gPre D c sz [.ref (ad (11, 0, 0)), .int x, .int y] (ad, k, I, J, P, LG, LP)) (va_Ql (fun r u => r = (mRead J x y).1 ∧ u = (ad, k, I, (mRead J x y).2, P, LG, LP)) (gB D c sz) (gA sz)) 0 0 (gA sz) := by
  refine Met.ofW (cc := cM_read) (maxL := 3) (ret := (some .long)) (by decide) rfl ?_
  intro p e s m args below meth cd s₁ B hml hv
  obtain ⟨rfl, hK, hH⟩ := hv
  have hx := B.exec
  have hb := B.bytes
  have hr := B.returns
  have hts := atoms_spec (ws := wM_read) B.pre
  have hw : ∀ w ∈ gWd, w.before _ s = true := fun w h => hts w (List.mem_cons_of_mem _ h)
  have hown : s.vm.findClass RM = some m.cls := findClass_of_methodNamed B.named
  have hlk := B.notSynchronized
  have hS : va_S (gA sz) s.heap s.heap [] := va_S.rf
  have hH : gW D c sz ad k I J P LG LP s.heap := hH
  have hl := lv_entry ([.ref (ad (11, 0, 0)), .int x, .int y]) (n := 3) (Nat.le_of_ble_eq_true rfl)
  rw [lg_entry_eq]
  generalize (lg_sl ([.ref (ad (11, 0, 0)), .int x, .int y]) ++ List.replicate (3 - (lg_sl ([.ref (ad (11, 0, 0)), .int x, .int y])).length) Slot.unset).toArray = ls at hl ⊢
  have hl : lv_has ls 3 [(0, .ref (ad (11, 0, 0))), (1, .int x), (2, .int y)] := hl
  refine lv_aload_n hx hb dM_read_0 rfl (lv_at hl 0 rfl) ?_
  refine lv_iload_n hx hb dM_read_1 rfl (lv_at hl 1 rfl) ?_
  refine lv_iload_n hx hb dM_read_2 rfl (lv_at hl 2 rfl) ?_
  refine s_ciE (va_runV (As := [.int _, .int _]) (rest := []) ⟨hx, hb, hml, hown, hw⟩ (c_M_touch l  (h01)) (cwV 2 hw (gd_V (gwd_6 (List.mem_of_getElem? (i := 31) rfl)) (gwd_6 (List.mem_of_getElem? (i := 32) rfl)) (gwd_9 (List.mem_of_getElem? (i := 22) rfl)) (gwd_0 (List.mem_of_getElem? (i := 3) rfl)) (gwd_6 (List.mem_of_getElem? (i := 33) rfl))) rfl rfl rfl (by decide +kernel) ⟨Nat.le_of_ble_eq_true rfl, Nat.le_of_ble_eq_true rfl⟩) (gPre.V (n := (11, 0, 0)) hK hH (by first | exact ⟨rfl, rfl⟩ | exact ⟨by assumption, rfl⟩ | exact ⟨by assumption, by assumption⟩ | exact ⟨by omega, rfl⟩ | exact ⟨by omega, by omega⟩ | exact ⟨by decide, rfl⟩) rfl rfl) rfl rfl hl.1 rfl (lv_room (Nat.le_of_ble_eq_true rfl)) dM_read_3 ⟨Nat.zero_le _, Nat.zero_le _⟩) hS (fun H locs hH hS => ?_)
  refine lv_if_eq hx hb dM_read_6 rfl (fun h_1 => ?_) (fun h_1 => ?_)
  · skip
    refine lv_ldc2 (v := 1099511627776) hx hb hown (hw _ (gwd_6 (List.mem_of_getElem? (i := 40) rfl))) dM_read_23 ?_
    exact r_l hx hb hr hlk hK hH hS dM_read_26 (by first | (rw [mRead, if_pos h_1]; exact ⟨rfl, rfl⟩) | (rw [mRead, if_neg h_1, hi, hi2]; exact ⟨rfl, rfl⟩))
  · skip
    obtain ⟨j, i4, hj, hi4, rfl, rfl⟩ := mOk_ix (mTouch_ok h_1)
    have hi : ix (nI j) = j := ix_nI (by omega)
    have hi2 : ix (nI i4) = i4 := ix_nI (by omega)
    refine lv_aload_n hx hb dM_read_9 rfl (lv_at hl 0 rfl) ?_
    refine s_get hx hb hw inM hown hK hH 0 (by decide) (hw _ (gwd_5 (List.mem_of_getElem? (i := 40) rfl))) (by first | exact ⟨rfl, rfl⟩ | exact ⟨by assumption, rfl⟩ | exact ⟨by assumption, by assumption⟩ | exact ⟨by omega, rfl⟩ | exact ⟨by omega, by omega⟩ | exact ⟨by decide, rfl⟩) rfl rfl rfl rfl dM_read_10 ?_
    refine lv_iconst (v := 4) hx hb dM_read_13 (by decide) ?_
    refine lv_iload_n hx hb dM_read_14 rfl (lv_at hl 1 rfl) ?_
    refine lv_imul hx hb dM_read_15 ?_
    refine lv_iload_n hx hb dM_read_16 rfl (lv_at hl 2 rfl) ?_
    refine lv_iadd hx hb dM_read_17 ?_
    refine m_iald hx hb hK hH (by first | exact ⟨rfl, rfl⟩ | exact ⟨by assumption, rfl⟩ | exact ⟨by assumption, by assumption⟩ | exact ⟨by omega, rfl⟩ | exact ⟨by omega, by omega⟩ | exact ⟨by decide, rfl⟩) rfl (4 * j + i4) (idx4 j i4) (show _ < 96 from by first | assumption | decide | omega) (by decide) dM_read_18 ?_
    refine lv_i2l hx hb dM_read_19 rfl ?_
    refine lv_goto hx hb dM_read_20 rfl ?_
    exact r_l hx hb hr hlk hK hH hS dM_read_26 (by first | (rw [mRead, if_pos h_1]; exact ⟨rfl, rfl⟩) | (rw [mRead, if_neg h_1, hi, hi2]; exact ⟨rfl, rfl⟩))
set_option maxHeartbeats 4000000 in
set_option maxRecDepth 100000 in
theorem c_M_write (l : Launch) {D : va_G} {c : Nat → ClassId} {sz : Nat} {ad : gN → Nat} {k : Nat} {I J : gI} {P : gP} {LG : Option Nat} {LP : Option (Nat × Nat)} {x y z : Int32} (h01 : ∀ q, q < 24 → J (13, 6, 0) q = 0 ∨ J (13, 6, 0) q = 1) : Met l yM_write wM_write { frames := 2, cells := 0, slots := 0, locals := 43 } (gPre D c sz [.ref (ad (11, 0, 0)), .int x, .int y, .int z] (ad, k, I, J, P, LG, LP)) (va_Qi (fun r u => r = (mWrite J x y z).1 ∧ u = (ad, k, I, (mWrite J x y z).2, P, LG, LP)) (gB D c sz) (gA sz)) 0 0 (gA sz) := by
  refine Met.ofW (cc := cM_write) (maxL := 5) (ret := (some .boolean)) (by decide) rfl ?_
  intro p e s m args below meth cd s₁ B hml hv
  obtain ⟨rfl, hK, hH⟩ := hv
  have hx := B.exec
  have hb := B.bytes
  have hr := B.returns
  have hts := atoms_spec (ws := wM_write) B.pre
  have hw : ∀ w ∈ gWd, w.before _ s = true := fun w h => hts w (List.mem_cons_of_mem _ h)
  have hown : s.vm.findClass RM = some m.cls := findClass_of_methodNamed B.named
  have hlk := B.notSynchronized
  have hS : va_S (gA sz) s.heap s.heap [] := va_S.rf
  have hH : gW D c sz ad k I J P LG LP s.heap := hH
  have hl := lv_entry ([.ref (ad (11, 0, 0)), .int x, .int y, .int z]) (n := 5) (Nat.le_of_ble_eq_true rfl)
  rw [lg_entry_eq]
  generalize (lg_sl ([.ref (ad (11, 0, 0)), .int x, .int y, .int z]) ++ List.replicate (5 - (lg_sl ([.ref (ad (11, 0, 0)), .int x, .int y, .int z])).length) Slot.unset).toArray = ls at hl ⊢
  have hl : lv_has ls 5 [(0, .ref (ad (11, 0, 0))), (1, .int x), (2, .int y), (3, .int z)] := hl
  refine lv_aload_n hx hb dM_write_0 rfl (lv_at hl 0 rfl) ?_
  refine lv_iload_n hx hb dM_write_1 rfl (lv_at hl 1 rfl) ?_
  refine lv_iload_n hx hb dM_write_2 rfl (lv_at hl 2 rfl) ?_
  refine s_ciE (va_runV (As := [.int _, .int _]) (rest := []) ⟨hx, hb, hml, hown, hw⟩ (c_M_touch l  (h01)) (cwV 2 hw (gd_V (gwd_6 (List.mem_of_getElem? (i := 31) rfl)) (gwd_6 (List.mem_of_getElem? (i := 32) rfl)) (gwd_9 (List.mem_of_getElem? (i := 22) rfl)) (gwd_0 (List.mem_of_getElem? (i := 3) rfl)) (gwd_6 (List.mem_of_getElem? (i := 33) rfl))) rfl rfl rfl (by decide +kernel) ⟨Nat.le_of_ble_eq_true rfl, Nat.le_of_ble_eq_true rfl⟩) (gPre.V (n := (11, 0, 0)) hK hH (by first | exact ⟨rfl, rfl⟩ | exact ⟨by assumption, rfl⟩ | exact ⟨by assumption, by assumption⟩ | exact ⟨by omega, rfl⟩ | exact ⟨by omega, by omega⟩ | exact ⟨by decide, rfl⟩) rfl rfl) rfl rfl hl.1 rfl (lv_room (Nat.le_of_ble_eq_true rfl)) dM_write_3 ⟨Nat.zero_le _, Nat.zero_le _⟩) hS (fun H locs hH hS => ?_)
  refine lv_istore hx hb dM_write_6 hl (by decide) rfl (fun ls hl => ?_)
  have hl : lv_has ls 5 [(4, .int _), (0, .ref _), (1, .int _), (2, .int _), (3, .int _)] := hl
  refine lv_iload hx hb dM_write_8 (lv_at hl 0 rfl) ?_
  refine lv_if_eq hx hb dM_write_10 rfl (fun h_1 => ?_) (fun h_1 => ?_)
  · skip
    refine lv_iload hx hb dM_write_24 (lv_at hl 0 rfl) ?_
    exact r_z hx hb hr hlk hK hH hS dM_write_26 (mTouch_01 h01) (by first | (rw [mWrite, if_pos h_1]; exact ⟨rfl, rfl⟩) | (rw [mWrite, if_neg h_1, hi, hi2]; exact ⟨rfl, rfl⟩))
  · skip
    obtain ⟨j, i4, hj, hi4, rfl, rfl⟩ := mOk_ix (mTouch_ok h_1)
    have hi : ix (nI j) = j := ix_nI (by omega)
    have hi2 : ix (nI i4) = i4 := ix_nI (by omega)
    refine lv_aload_n hx hb dM_write_13 rfl (lv_at hl 1 rfl) ?_
    refine s_get hx hb hw inM hown hK hH 0 (by decide) (hw _ (gwd_5 (List.mem_of_getElem? (i := 40) rfl))) (by first | exact ⟨rfl, rfl⟩ | exact ⟨by assumption, rfl⟩ | exact ⟨by assumption, by assumption⟩ | exact ⟨by omega, rfl⟩ | exact ⟨by omega, by omega⟩ | exact ⟨by decide, rfl⟩) rfl rfl rfl rfl dM_write_14 ?_
    refine lv_iconst (v := 4) hx hb dM_write_17 (by decide) ?_
    refine lv_iload_n hx hb dM_write_18 rfl (lv_at hl 2 rfl) ?_
    refine lv_imul hx hb dM_write_19 ?_
    refine lv_iload_n hx hb dM_write_20 rfl (lv_at hl 3 rfl) ?_
    refine lv_iadd hx hb dM_write_21 ?_
    refine lv_iload_n hx hb dM_write_22 rfl (lv_at hl 4 rfl) ?_
    refine m_iast hx hb hK hH hS (by first | exact ⟨rfl, rfl⟩ | exact ⟨by assumption, rfl⟩ | exact ⟨by assumption, by assumption⟩ | exact ⟨by omega, rfl⟩ | exact ⟨by omega, by omega⟩ | exact ⟨by decide, rfl⟩) rfl (4 * j + i4) (idx4 j i4) (show _ < 96 from by first | assumption | decide | omega) (by decide) rfl dM_write_23 (fun H locs hH hS => ?_)
    refine lv_iload hx hb dM_write_24 (lv_at hl 0 rfl) ?_
    exact r_z hx hb hr hlk hK hH hS dM_write_26 (mTouch_01 h01) (by first | (rw [mWrite, if_pos h_1]; exact ⟨rfl, rfl⟩) | (rw [mWrite, if_neg h_1, hi, hi2]; exact ⟨rfl, rfl⟩))
set_option maxHeartbeats 4000000 in
set_option maxRecDepth 100000 in
theorem c_M_faults (l : Launch) {D : va_G} {c : Nat → ClassId} {sz : Nat} {ad : gN → Nat} {k : Nat} {I J : gI} {P : gP} {LG : Option Nat} {LP : Option (Nat × Nat)}   : Met l yM_faults wM_faults { frames := 0, cells := 0, slots := 0, locals := 0 } (gPre D c sz [.ref (ad (11, 0, 0))] (ad, k, I, J, P, LG, LP)) (va_Qi (fun r u => r = J (11, 0, 0) 16 ∧ u = (ad, k, I, J, P, LG, LP)) (gB D c sz) (gA sz)) 0 0 (gA sz) := by
  refine Met.ofW (cc := cM_faults) (maxL := 1) (ret := (some .int)) (by decide) rfl ?_
  intro p e s m args below meth cd s₁ B hml hv
  obtain ⟨rfl, hK, hH⟩ := hv
  have hx := B.exec
  have hb := B.bytes
  have hr := B.returns
  have hts := atoms_spec (ws := wM_faults) B.pre
  have hw : ∀ w ∈ gWd, w.before _ s = true := fun w h => hts w (List.mem_cons_of_mem _ h)
  have hown : s.vm.findClass RM = some m.cls := findClass_of_methodNamed B.named
  have hlk := B.notSynchronized
  have hS : va_S (gA sz) s.heap s.heap [] := va_S.rf
  have hH : gW D c sz ad k I J P LG LP s.heap := hH
  have hl := lv_entry ([.ref (ad (11, 0, 0))]) (n := 1) (Nat.le_of_ble_eq_true rfl)
  rw [lg_entry_eq]
  generalize (lg_sl ([.ref (ad (11, 0, 0))]) ++ List.replicate (1 - (lg_sl ([.ref (ad (11, 0, 0))])).length) Slot.unset).toArray = ls at hl ⊢
  have hl : lv_has ls 1 [(0, .ref (ad (11, 0, 0)))] := hl
  refine lv_aload_n hx hb dM_faults_0 rfl (lv_at hl 0 rfl) ?_
  refine s_get hx hb hw inM hown hK hH 16 (by decide) (hw _ (gwd_6 (List.mem_of_getElem? (i := 8) rfl))) (by first | exact ⟨rfl, rfl⟩ | exact ⟨by assumption, rfl⟩ | exact ⟨by assumption, by assumption⟩ | exact ⟨by omega, rfl⟩ | exact ⟨by omega, by omega⟩ | exact ⟨by decide, rfl⟩) rfl rfl rfl rfl dM_faults_1 ?_
  exact r_i hx hb hr hlk hK hH hS dM_faults_4 (⟨rfl, rfl⟩)
set_option maxHeartbeats 4000000 in
set_option maxRecDepth 100000 in
theorem c_M_info (l : Launch) {D : va_G} {c : Nat → ClassId} {sz : Nat} {ad : gN → Nat} {k : Nat} {I J : gI} {P : gP} {LG : Option Nat} {LP : Option (Nat × Nat)}   : Met l yM_info wM_info { frames := 0, cells := 0, slots := 0, locals := 0 } (gPre D c sz [.ref (ad (11, 0, 0))] (ad, k, I, J, P, LG, LP)) (va_Qi (fun r u => r = J (11, 0, 0) 14 ∧ u = (ad, k, I, J, P, LG, LP)) (gB D c sz) (gA sz)) 0 0 (gA sz) := by
  refine Met.ofW (cc := cM_info) (maxL := 1) (ret := (some .int)) (by decide) rfl ?_
  intro p e s m args below meth cd s₁ B hml hv
  obtain ⟨rfl, hK, hH⟩ := hv
  have hx := B.exec
  have hb := B.bytes
  have hr := B.returns
  have hts := atoms_spec (ws := wM_info) B.pre
  have hw : ∀ w ∈ gWd, w.before _ s = true := fun w h => hts w (List.mem_cons_of_mem _ h)
  have hown : s.vm.findClass RM = some m.cls := findClass_of_methodNamed B.named
  have hlk := B.notSynchronized
  have hS : va_S (gA sz) s.heap s.heap [] := va_S.rf
  have hH : gW D c sz ad k I J P LG LP s.heap := hH
  have hl := lv_entry ([.ref (ad (11, 0, 0))]) (n := 1) (Nat.le_of_ble_eq_true rfl)
  rw [lg_entry_eq]
  generalize (lg_sl ([.ref (ad (11, 0, 0))]) ++ List.replicate (1 - (lg_sl ([.ref (ad (11, 0, 0))])).length) Slot.unset).toArray = ls at hl ⊢
  have hl : lv_has ls 1 [(0, .ref (ad (11, 0, 0)))] := hl
  refine lv_aload_n hx hb dM_info_0 rfl (lv_at hl 0 rfl) ?_
  refine s_get hx hb hw inM hown hK hH 14 (by decide) (hw _ (gwd_6 (List.mem_of_getElem? (i := 6) rfl))) (by first | exact ⟨rfl, rfl⟩ | exact ⟨by assumption, rfl⟩ | exact ⟨by assumption, by assumption⟩ | exact ⟨by omega, rfl⟩ | exact ⟨by omega, by omega⟩ | exact ⟨by decide, rfl⟩) rfl rfl rfl rfl dM_info_1 ?_
  exact r_i hx hb hr hlk hK hH hS dM_info_4 (⟨rfl, rfl⟩)
set_option maxHeartbeats 4000000 in
set_option maxRecDepth 100000 in
theorem c_M_keep (l : Launch) {D : va_G} {c : Nat → ClassId} {sz : Nat} {ad : gN → Nat} {k : Nat} {I J : gI} {P : gP} {LG : Option Nat} {LP : Option (Nat × Nat)} {q : Nat} {G : Int32} (hq : q < 24) : Met l yM_keep wM_keep { frames := 2, cells := 0, slots := 0, locals := 42 } (gPre D c sz [.ref (ad (11, 0, 0)), .int (nI q), .int G] (ad, k, I, J, P, LG, LP)) (va_Qv (fun u => u = (ad, k, I, mKeep J q G, P, LG, LP)) (gB D c sz) (gA sz)) 0 0 (gA sz) := by
  refine Met.ofW (cc := cM_keep) (maxL := 3) (ret := none) (by decide) rfl ?_
  intro p e s m args below meth cd s₁ B hml hv
  obtain ⟨rfl, hK, hH⟩ := hv
  have hx := B.exec
  have hb := B.bytes
  have hr := B.returns
  have hts := atoms_spec (ws := wM_keep) B.pre
  have hw : ∀ w ∈ gWd, w.before _ s = true := fun w h => hts w (List.mem_cons_of_mem _ h)
  have hown : s.vm.findClass RM = some m.cls := findClass_of_methodNamed B.named
  have hlk := B.notSynchronized
  have hS : va_S (gA sz) s.heap s.heap [] := va_S.rf
  have hH : gW D c sz ad k I J P LG LP s.heap := hH
  have hl := lv_entry ([.ref (ad (11, 0, 0)), .int (nI q), .int G]) (n := 3) (Nat.le_of_ble_eq_true rfl)
  rw [lg_entry_eq]
  generalize (lg_sl ([.ref (ad (11, 0, 0)), .int (nI q), .int G]) ++ List.replicate (3 - (lg_sl ([.ref (ad (11, 0, 0)), .int (nI q), .int G])).length) Slot.unset).toArray = ls at hl ⊢
  have hl : lv_has ls 3 [(0, .ref (ad (11, 0, 0))), (1, .int (nI q)), (2, .int G)] := hl
  refine lv_aload_n hx hb dM_keep_0 rfl (lv_at hl 0 rfl) ?_
  refine s_get hx hb hw inM hown hK hH 1 (by decide) (hw _ (gwd_5 (List.mem_of_getElem? (i := 41) rfl))) (by first | exact ⟨rfl, rfl⟩ | exact ⟨by assumption, rfl⟩ | exact ⟨by assumption, by assumption⟩ | exact ⟨by omega, rfl⟩ | exact ⟨by omega, by omega⟩ | exact ⟨by decide, rfl⟩) rfl rfl rfl rfl dM_keep_1 ?_
  refine lv_iload_n hx hb dM_keep_4 rfl (lv_at hl 1 rfl) ?_
  refine lv_bipush (v := 7) hx hb dM_keep_5 (by decide) ?_
  refine m_iast hx hb hK hH hS (by first | exact ⟨rfl, rfl⟩ | exact ⟨by assumption, rfl⟩ | exact ⟨by assumption, by assumption⟩ | exact ⟨by omega, rfl⟩ | exact ⟨by omega, by omega⟩ | exact ⟨by decide, rfl⟩) rfl _ (by first | rfl | assumption) (show _ < 24 from by first | assumption | decide | omega) (by decide) rfl dM_keep_7 (fun H locs hH hS => ?_)
  refine lv_aload_n hx hb dM_keep_8 rfl (lv_at hl 0 rfl) ?_
  refine s_get hx hb hw inM hown hK hH 2 (by decide) (hw _ (gwd_5 (List.mem_of_getElem? (i := 42) rfl))) (by first | exact ⟨rfl, rfl⟩ | exact ⟨by assumption, rfl⟩ | exact ⟨by assumption, by assumption⟩ | exact ⟨by omega, rfl⟩ | exact ⟨by omega, by omega⟩ | exact ⟨by decide, rfl⟩) rfl rfl rfl rfl dM_keep_9 ?_
  refine lv_iload_n hx hb dM_keep_12 rfl (lv_at hl 1 rfl) ?_
  refine lv_iload_n hx hb dM_keep_13 rfl (lv_at hl 2 rfl) ?_
  refine m_iast hx hb hK hH hS (by first | exact ⟨rfl, rfl⟩ | exact ⟨by assumption, rfl⟩ | exact ⟨by assumption, by assumption⟩ | exact ⟨by omega, rfl⟩ | exact ⟨by omega, by omega⟩ | exact ⟨by decide, rfl⟩) rfl _ (by first | rfl | assumption) (show _ < 24 from by first | assumption | decide | omega) (by decide) rfl dM_keep_14 (fun H locs hH hS => ?_)
  refine lv_aload_n hx hb dM_keep_15 rfl (lv_at hl 0 rfl) ?_
  refine lv_iload_n hx hb dM_keep_16 rfl (lv_at hl 1 rfl) ?_
  refine s_cvE (va_runV (As := [.int _]) (rest := []) ⟨hx, hb, hml, hown, hw⟩ (c_M_wipe l  (by assumption)) (cwV 1 hw (gd_V (gwd_7 (List.mem_of_getElem? (i := 11) rfl)) (gwd_7 (List.mem_of_getElem? (i := 12) rfl)) (gwd_9 (List.mem_of_getElem? (i := 26) rfl)) (gwd_0 (List.mem_of_getElem? (i := 3) rfl)) (gwd_7 (List.mem_of_getElem? (i := 13) rfl))) rfl rfl rfl (by decide +kernel) ⟨Nat.le_of_ble_eq_true rfl, Nat.le_of_ble_eq_true rfl⟩) (gPre.V (n := (11, 0, 0)) hK hH (by first | exact ⟨rfl, rfl⟩ | exact ⟨by assumption, rfl⟩ | exact ⟨by assumption, by assumption⟩ | exact ⟨by omega, rfl⟩ | exact ⟨by omega, by omega⟩ | exact ⟨by decide, rfl⟩) rfl rfl) rfl rfl hl.1 rfl (lv_room (Nat.le_of_ble_eq_true rfl)) dM_keep_17 ⟨Nat.zero_le _, Nat.zero_le _⟩) hS (fun H locs hH hS => ?_)
  refine lv_aload_n hx hb dM_keep_20 rfl (lv_at hl 0 rfl) ?_
  refine lv_iload_n hx hb dM_keep_21 rfl (lv_at hl 1 rfl) ?_
  refine s_cvE (va_runV (As := [.int _]) (rest := []) ⟨hx, hb, hml, hown, hw⟩ (c_M_look l  (by assumption)) (cwV 1 hw (gd_V (gwd_7 (List.mem_of_getElem? (i := 14) rfl)) (gwd_7 (List.mem_of_getElem? (i := 15) rfl)) (gwd_9 (List.mem_of_getElem? (i := 27) rfl)) (gwd_0 (List.mem_of_getElem? (i := 3) rfl)) (gwd_7 (List.mem_of_getElem? (i := 16) rfl))) rfl rfl rfl (by decide +kernel) ⟨Nat.le_of_ble_eq_true rfl, Nat.le_of_ble_eq_true rfl⟩) (gPre.V (n := (11, 0, 0)) hK hH (by first | exact ⟨rfl, rfl⟩ | exact ⟨by assumption, rfl⟩ | exact ⟨by assumption, by assumption⟩ | exact ⟨by omega, rfl⟩ | exact ⟨by omega, by omega⟩ | exact ⟨by decide, rfl⟩) rfl rfl) rfl rfl hl.1 rfl (lv_room (Nat.le_of_ble_eq_true rfl)) dM_keep_22 ⟨Nat.zero_le _, Nat.zero_le _⟩) hS (fun H locs hH hS => ?_)
  exact r_v hx hb hr hlk hK hH hS dM_keep_25 (rfl)
theorem mKeep_made {J : gI} {q : Nat} {G : Int32} : mKeep J q G (11, 0, 0) 7 = J (11, 0, 0) 7 := by simp [mKeep, mLook, mWipe, iu_at]
set_option maxHeartbeats 4000000 in
set_option maxRecDepth 100000 in
theorem c_M_create (l : Launch) {D : va_G} {c : Nat → ClassId} {sz : Nat} {ad : gN → Nat} {k : Nat} {I J : gI} {P : gP} {LG : Option Nat} {LP : Option (Nat × Nat)} {x : Int32} (hk : k ≤ 6) (hmd : J (11, 0, 0) 7 = nI k) : Met l yM_create wM_create { frames := 3, cells := 0, slots := 0, locals := 64 } (gPre D c sz [.ref (ad (11, 0, 0)), .int x] (ad, k, I, J, P, LG, LP)) (va_Qi (fun r u => r = (mCreate J x).1 ∧ u = (ad, k, I, (mCreate J x).2, P, LG, LP)) (gB D c sz) (gA sz)) 0 0 (gA sz) := by
  refine Met.ofW (cc := cM_create) (maxL := 2) (ret := (some .int)) (by decide) rfl ?_
  intro p e s m args below meth cd s₁ B hml hv
  obtain ⟨rfl, hK, hH⟩ := hv
  have hx := B.exec
  have hb := B.bytes
  have hr := B.returns
  have hts := atoms_spec (ws := wM_create) B.pre
  have hw : ∀ w ∈ gWd, w.before _ s = true := fun w h => hts w (List.mem_cons_of_mem _ h)
  have hown : s.vm.findClass RM = some m.cls := findClass_of_methodNamed B.named
  have hlk := B.notSynchronized
  have hS : va_S (gA sz) s.heap s.heap [] := va_S.rf
  have hH : gW D c sz ad k I J P LG LP s.heap := hH
  have hl := lv_entry ([.ref (ad (11, 0, 0)), .int x]) (n := 2) (Nat.le_of_ble_eq_true rfl)
  rw [lg_entry_eq]
  generalize (lg_sl ([.ref (ad (11, 0, 0)), .int x]) ++ List.replicate (2 - (lg_sl ([.ref (ad (11, 0, 0)), .int x])).length) Slot.unset).toArray = ls at hl ⊢
  have hl : lv_has ls 2 [(0, .ref (ad (11, 0, 0))), (1, .int x)] := hl
  refine lv_aload_n hx hb dM_create_0 rfl (lv_at hl 0 rfl) ?_
  refine lv_iload_n hx hb dM_create_1 rfl (lv_at hl 1 rfl) ?_
  refine s_ciE (va_runV (As := [.int _]) (rest := []) ⟨hx, hb, hml, hown, hw⟩ (c_M_isFree l  ) (cwV 1 hw (gd_V (gwd_7 (List.mem_of_getElem? (i := 5) rfl)) (gwd_7 (List.mem_of_getElem? (i := 6) rfl)) (gwd_9 (List.mem_of_getElem? (i := 24) rfl)) (gwd_0 (List.mem_of_getElem? (i := 3) rfl)) (gwd_7 (List.mem_of_getElem? (i := 7) rfl))) rfl rfl rfl (by decide +kernel) ⟨Nat.le_of_ble_eq_true rfl, Nat.le_of_ble_eq_true rfl⟩) (gPre.V (n := (11, 0, 0)) hK hH (by first | exact ⟨rfl, rfl⟩ | exact ⟨by assumption, rfl⟩ | exact ⟨by assumption, by assumption⟩ | exact ⟨by omega, rfl⟩ | exact ⟨by omega, by omega⟩ | exact ⟨by decide, rfl⟩) rfl rfl) rfl rfl hl.1 rfl (lv_room (Nat.le_of_ble_eq_true rfl)) dM_create_2 ⟨Nat.zero_le _, Nat.zero_le _⟩) hS (fun H locs hH hS => ?_)
  refine s_ifne hx hb dM_create_5 rfl (fun h_1 => ?_) (fun h_1 => ?_)
  · skip
    obtain ⟨j, hj, rfl⟩ := isP_ix (h_1).1
    have hi : ix (nI j) = j := ix_nI (by omega)
    refine lv_aload_n hx hb dM_create_10 rfl (lv_at hl 0 rfl) ?_
    refine s_get hx hb hw inM hown hK hH 7 (by decide) (hw _ (gwd_5 (List.mem_of_getElem? (i := 47) rfl))) (by first | exact ⟨rfl, rfl⟩ | exact ⟨by assumption, rfl⟩ | exact ⟨by assumption, by assumption⟩ | exact ⟨by omega, rfl⟩ | exact ⟨by omega, by omega⟩ | exact ⟨by decide, rfl⟩) rfl rfl rfl rfl dM_create_11 ?_
    refine lv_bipush (v := 6) hx hb dM_create_14 (by decide) ?_
    refine lv_icmp_lt hx hb dM_create_16 rfl (fun h_2 => ?_) (fun h_2 => ?_)
    · skip
      have hk6 : k < 6 := (nI_ltI (by omega) (by decide)).mp (show nI k < nI 6 by rw [← hmd]; exact h_2)
      have eE : iu (iu J (11, 0, 0) 7 (J (11, 0, 0) 7 + 1)) (13, 8, 0) (k + 1) 1 (11, 0, 0) 7 = J (11, 0, 0) 7 + 1 := by simp [iu_at]
      have hixk : ix (J (11, 0, 0) 7 + 1) = k + 1 := by rw [hmd, nI_1]; exact ix_nI (by omega)
      refine lv_aload_n hx hb dM_create_22 rfl (lv_at hl 0 rfl) ?_
      refine lv_dup hx hb dM_create_23 rfl ?_
      refine s_get hx hb hw inM hown hK hH 7 (by decide) (hw _ (gwd_5 (List.mem_of_getElem? (i := 47) rfl))) (by first | exact ⟨rfl, rfl⟩ | exact ⟨by assumption, rfl⟩ | exact ⟨by assumption, by assumption⟩ | exact ⟨by omega, rfl⟩ | exact ⟨by omega, by omega⟩ | exact ⟨by decide, rfl⟩) rfl rfl rfl rfl dM_create_24 ?_
      refine lv_iconst (v := 1) hx hb dM_create_27 (by decide) ?_
      refine lv_iadd hx hb dM_create_28 ?_
      refine m_put hx hb hw inM tyM_ok nM hown hK hH hS 7 (by decide) (hw _ (gwd_5 (List.mem_of_getElem? (i := 47) rfl))) (by first | exact ⟨rfl, rfl⟩ | exact ⟨by assumption, rfl⟩ | exact ⟨by assumption, by assumption⟩ | exact ⟨by omega, rfl⟩ | exact ⟨by omega, by omega⟩ | exact ⟨by decide, rfl⟩) rfl rfl rfl rfl rfl rfl rfl (Nat.le_of_ble_eq_true rfl) rfl dM_create_29 (fun H locs hH hS => ?_)
      refine lv_aload_n hx hb dM_create_32 rfl (lv_at hl 0 rfl) ?_
      refine s_get hx hb hw inM hown hK hH 8 (by decide) (hw _ (gwd_6 (List.mem_of_getElem? (i := 0) rfl))) (by first | exact ⟨rfl, rfl⟩ | exact ⟨by assumption, rfl⟩ | exact ⟨by assumption, by assumption⟩ | exact ⟨by omega, rfl⟩ | exact ⟨by omega, by omega⟩ | exact ⟨by decide, rfl⟩) rfl rfl rfl rfl dM_create_33 ?_
      refine lv_aload_n hx hb dM_create_36 rfl (lv_at hl 0 rfl) ?_
      refine s_get hx hb hw inM hown hK hH 7 (by decide) (hw _ (gwd_5 (List.mem_of_getElem? (i := 47) rfl))) (by first | exact ⟨rfl, rfl⟩ | exact ⟨by assumption, rfl⟩ | exact ⟨by assumption, by assumption⟩ | exact ⟨by omega, rfl⟩ | exact ⟨by omega, by omega⟩ | exact ⟨by decide, rfl⟩) rfl rfl rfl rfl dM_create_37 ?_
      refine lv_iconst (v := 1) hx hb dM_create_40 (by decide) ?_
      refine m_zast hx hb hK hH hS (by first | exact ⟨rfl, rfl⟩ | exact ⟨by assumption, rfl⟩ | exact ⟨by assumption, by assumption⟩ | exact ⟨by omega, rfl⟩ | exact ⟨by omega, by omega⟩ | exact ⟨by decide, rfl⟩) rfl (k + 1) (by simp only [iu_at, and_self, if_true, hmd]; exact nI_1 k) (show _ < 7 from by first | assumption | decide | omega) (by decide) (by first | exact Or.inl rfl | exact Or.inr rfl | exact bz_01 _ | assumption) rfl dM_create_41 (fun H locs hH hS => ?_)
      refine lv_aload_n hx hb dM_create_42 rfl (lv_at hl 0 rfl) ?_
      refine lv_iload_n hx hb dM_create_43 rfl (lv_at hl 1 rfl) ?_
      refine lv_aload_n hx hb dM_create_44 rfl (lv_at hl 0 rfl) ?_
      refine s_get hx hb hw inM hown hK hH 7 (by decide) (hw _ (gwd_5 (List.mem_of_getElem? (i := 47) rfl))) (by first | exact ⟨rfl, rfl⟩ | exact ⟨by assumption, rfl⟩ | exact ⟨by assumption, by assumption⟩ | exact ⟨by omega, rfl⟩ | exact ⟨by omega, by omega⟩ | exact ⟨by decide, rfl⟩) rfl rfl rfl rfl dM_create_45 ?_
      rw [eE]
      refine s_cvE (va_runV (As := [.int _, .int _]) (rest := []) ⟨hx, hb, hml, hown, hw⟩ (c_M_keep l  (by assumption)) (cwV 2 hw (gd_V (gwd_7 (List.mem_of_getElem? (i := 8) rfl)) (gwd_7 (List.mem_of_getElem? (i := 9) rfl)) (gwd_9 (List.mem_of_getElem? (i := 25) rfl)) (gwd_0 (List.mem_of_getElem? (i := 3) rfl)) (gwd_7 (List.mem_of_getElem? (i := 10) rfl))) rfl rfl rfl (by decide +kernel) ⟨Nat.le_of_ble_eq_true rfl, Nat.le_of_ble_eq_true rfl⟩) (gPre.V (n := (11, 0, 0)) hK hH (by first | exact ⟨rfl, rfl⟩ | exact ⟨by assumption, rfl⟩ | exact ⟨by assumption, by assumption⟩ | exact ⟨by omega, rfl⟩ | exact ⟨by omega, by omega⟩ | exact ⟨by decide, rfl⟩) rfl rfl) rfl rfl hl.1 rfl (lv_room (Nat.le_of_ble_eq_true rfl)) dM_create_48 ⟨Nat.zero_le _, Nat.zero_le _⟩) hS (fun H locs hH hS => ?_)
      refine lv_aload_n hx hb dM_create_51 rfl (lv_at hl 0 rfl) ?_
      refine s_get hx hb hw inM hown hK hH 7 (by decide) (hw _ (gwd_5 (List.mem_of_getElem? (i := 47) rfl))) (by first | exact ⟨rfl, rfl⟩ | exact ⟨by assumption, rfl⟩ | exact ⟨by assumption, by assumption⟩ | exact ⟨by omega, rfl⟩ | exact ⟨by omega, by omega⟩ | exact ⟨by decide, rfl⟩) rfl rfl rfl rfl dM_create_52 ?_
      exact r_i hx hb hr hlk hK hH hS dM_create_55 (by first | (rw [mCreate, if_neg (fun q => q h_1), if_pos h_2]; exact ⟨rfl, rfl⟩) | (rw [mCreate, if_neg (fun q => q h_1), if_neg (fun q => q h_2), hi, hixk]; exact ⟨by rw [mKeep_made, eE], rfl⟩))
    · skip
      refine lv_bipush (v := -2) hx hb dM_create_19 (by decide) ?_
      exact r_i hx hb hr hlk hK hH hS dM_create_21 (by first | (rw [mCreate, if_neg (fun q => q h_1), if_pos h_2]; exact ⟨rfl, rfl⟩) | (rw [mCreate, if_neg (fun q => q h_1), if_neg (fun q => q h_2), hi, hixk]; exact ⟨by rw [mKeep_made, eE], rfl⟩))
  · skip
    refine lv_iconst (v := -1) hx hb dM_create_8 (by decide) ?_
    exact r_i hx hb hr hlk hK hH hS dM_create_9 (by rw [mCreate, if_pos h_1]; exact ⟨rfl, rfl⟩)
set_option maxHeartbeats 4000000 in
set_option maxRecDepth 100000 in
theorem c_M_feed (l : Launch) {D : va_G} {c : Nat → ClassId} {sz : Nat} {ad : gN → Nat} {k : Nat} {I J : gI} {P : gP} {LG : Option Nat} {LP : Option (Nat × Nat)} {a x : Int32} (hk : k ≤ 6) (hmd : J (11, 0, 0) 7 = nI k) : Met l yM_feed wM_feed { frames := 3, cells := 0, slots := 0, locals := 71 } (gPre D c sz [.ref (ad (11, 0, 0)), .int a, .int x] (ad, k, I, J, P, LG, LP)) (va_Qi (fun r u => r = (mFeed J a x).1 ∧ u = (ad, k, I, (mFeed J a x).2, P, LG, LP)) (gB D c sz) (gA sz)) 0 0 (gA sz) := by
  refine Met.ofW (cc := cM_feed) (maxL := 3) (ret := (some .int)) (by decide) rfl ?_
  intro p e s m args below meth cd s₁ B hml hv
  obtain ⟨rfl, hK, hH⟩ := hv
  have hx := B.exec
  have hb := B.bytes
  have hr := B.returns
  have hts := atoms_spec (ws := wM_feed) B.pre
  have hw : ∀ w ∈ gWd, w.before _ s = true := fun w h => hts w (List.mem_cons_of_mem _ h)
  have hown : s.vm.findClass RM = some m.cls := findClass_of_methodNamed B.named
  have hlk := B.notSynchronized
  have hS : va_S (gA sz) s.heap s.heap [] := va_S.rf
  have hH : gW D c sz ad k I J P LG LP s.heap := hH
  have hl := lv_entry ([.ref (ad (11, 0, 0)), .int a, .int x]) (n := 3) (Nat.le_of_ble_eq_true rfl)
  rw [lg_entry_eq]
  generalize (lg_sl ([.ref (ad (11, 0, 0)), .int a, .int x]) ++ List.replicate (3 - (lg_sl ([.ref (ad (11, 0, 0)), .int a, .int x])).length) Slot.unset).toArray = ls at hl ⊢
  have hl : lv_has ls 3 [(0, .ref (ad (11, 0, 0))), (1, .int a), (2, .int x)] := hl
  refine lv_aload_n hx hb dM_feed_0 rfl (lv_at hl 0 rfl) ?_
  refine lv_iload_n hx hb dM_feed_1 rfl (lv_at hl 1 rfl) ?_
  refine s_ciE (va_runV (As := [.int _]) (rest := []) ⟨hx, hb, hml, hown, hw⟩ (c_M_isGuest l  (by assumption) (by assumption)) (cwV 1 hw (gd_V (gwd_7 (List.mem_of_getElem? (i := 21) rfl)) (gwd_7 (List.mem_of_getElem? (i := 22) rfl)) (gwd_9 (List.mem_of_getElem? (i := 28) rfl)) (gwd_0 (List.mem_of_getElem? (i := 3) rfl)) (gwd_7 (List.mem_of_getElem? (i := 23) rfl))) rfl rfl rfl (by decide +kernel) ⟨Nat.le_of_ble_eq_true rfl, Nat.le_of_ble_eq_true rfl⟩) (gPre.V (n := (11, 0, 0)) hK hH (by first | exact ⟨rfl, rfl⟩ | exact ⟨by assumption, rfl⟩ | exact ⟨by assumption, by assumption⟩ | exact ⟨by omega, rfl⟩ | exact ⟨by omega, by omega⟩ | exact ⟨by decide, rfl⟩) rfl rfl) rfl rfl hl.1 rfl (lv_room (Nat.le_of_ble_eq_true rfl)) dM_feed_2 ⟨Nat.zero_le _, Nat.zero_le _⟩) hS (fun H locs hH hS => ?_)
  refine s_ifne hx hb dM_feed_5 rfl (fun h_1 => ?_) (fun h_1 => ?_)
  · skip
    refine lv_aload_n hx hb dM_feed_10 rfl (lv_at hl 0 rfl) ?_
    refine lv_iload_n hx hb dM_feed_11 rfl (lv_at hl 2 rfl) ?_
    refine s_ciE (va_runV (As := [.int _]) (rest := []) ⟨hx, hb, hml, hown, hw⟩ (c_M_isFree l  ) (cwV 1 hw (gd_V (gwd_7 (List.mem_of_getElem? (i := 5) rfl)) (gwd_7 (List.mem_of_getElem? (i := 6) rfl)) (gwd_9 (List.mem_of_getElem? (i := 24) rfl)) (gwd_0 (List.mem_of_getElem? (i := 3) rfl)) (gwd_7 (List.mem_of_getElem? (i := 7) rfl))) rfl rfl rfl (by decide +kernel) ⟨Nat.le_of_ble_eq_true rfl, Nat.le_of_ble_eq_true rfl⟩) (gPre.V (n := (11, 0, 0)) hK hH (by first | exact ⟨rfl, rfl⟩ | exact ⟨by assumption, rfl⟩ | exact ⟨by assumption, by assumption⟩ | exact ⟨by omega, rfl⟩ | exact ⟨by omega, by omega⟩ | exact ⟨by decide, rfl⟩) rfl rfl) rfl rfl hl.1 rfl (lv_room (Nat.le_of_ble_eq_true rfl)) dM_feed_12 ⟨Nat.zero_le _, Nat.zero_le _⟩) hS (fun H locs hH hS => ?_)
    refine s_ifne hx hb dM_feed_15 rfl (fun h_2 => ?_) (fun h_2 => ?_)
    · skip
      obtain ⟨j, hj, rfl⟩ := isP_ix (h_2).1
      have hi : ix (nI j) = j := ix_nI (by omega)
      refine lv_aload_n hx hb dM_feed_21 rfl (lv_at hl 0 rfl) ?_
      refine lv_iload_n hx hb dM_feed_22 rfl (lv_at hl 2 rfl) ?_
      refine lv_iload_n hx hb dM_feed_23 rfl (lv_at hl 1 rfl) ?_
      refine s_cvE (va_runV (As := [.int _, .int _]) (rest := []) ⟨hx, hb, hml, hown, hw⟩ (c_M_keep l  (by assumption)) (cwV 2 hw (gd_V (gwd_7 (List.mem_of_getElem? (i := 8) rfl)) (gwd_7 (List.mem_of_getElem? (i := 9) rfl)) (gwd_9 (List.mem_of_getElem? (i := 25) rfl)) (gwd_0 (List.mem_of_getElem? (i := 3) rfl)) (gwd_7 (List.mem_of_getElem? (i := 10) rfl))) rfl rfl rfl (by decide +kernel) ⟨Nat.le_of_ble_eq_true rfl, Nat.le_of_ble_eq_true rfl⟩) (gPre.V (n := (11, 0, 0)) hK hH (by first | exact ⟨rfl, rfl⟩ | exact ⟨by assumption, rfl⟩ | exact ⟨by assumption, by assumption⟩ | exact ⟨by omega, rfl⟩ | exact ⟨by omega, by omega⟩ | exact ⟨by decide, rfl⟩) rfl rfl) rfl rfl hl.1 rfl (lv_room (Nat.le_of_ble_eq_true rfl)) dM_feed_24 ⟨Nat.zero_le _, Nat.zero_le _⟩) hS (fun H locs hH hS => ?_)
      refine lv_aload_n hx hb dM_feed_27 rfl (lv_at hl 0 rfl) ?_
      refine lv_iload_n hx hb dM_feed_28 rfl (lv_at hl 1 rfl) ?_
      refine s_ciE (va_runV (As := [.int _]) (rest := []) ⟨hx, hb, hml, hown, hw⟩ (c_M_rest l  ) (cwV 1 hw (gd_V (gwd_7 (List.mem_of_getElem? (i := 24) rfl)) (gwd_7 (List.mem_of_getElem? (i := 25) rfl)) (gwd_9 (List.mem_of_getElem? (i := 29) rfl)) (gwd_0 (List.mem_of_getElem? (i := 3) rfl)) (gwd_7 (List.mem_of_getElem? (i := 26) rfl))) rfl rfl rfl (by decide +kernel) ⟨Nat.le_of_ble_eq_true rfl, Nat.le_of_ble_eq_true rfl⟩) (gPre.V (n := (11, 0, 0)) hK hH (by first | exact ⟨rfl, rfl⟩ | exact ⟨by assumption, rfl⟩ | exact ⟨by assumption, by assumption⟩ | exact ⟨by omega, rfl⟩ | exact ⟨by omega, by omega⟩ | exact ⟨by decide, rfl⟩) rfl rfl) rfl rfl hl.1 rfl (lv_room (Nat.le_of_ble_eq_true rfl)) dM_feed_29 ⟨Nat.zero_le _, Nat.zero_le _⟩) hS (fun H locs hH hS => ?_)
      exact r_i hx hb hr hlk hK hH hS dM_feed_32 (by first | (rw [mFeed, if_pos h_1]; exact ⟨rfl, rfl⟩) | (rw [mFeed, if_neg (fun q => q h_1), if_pos h_2]; exact ⟨rfl, rfl⟩) | (rw [mFeed, if_neg (fun q => q h_1), if_neg (fun q => q h_2), hi]; exact ⟨rfl, rfl⟩))
    · skip
      refine lv_bipush (v := -2) hx hb dM_feed_18 (by decide) ?_
      exact r_i hx hb hr hlk hK hH hS dM_feed_20 (by first | (rw [mFeed, if_pos h_1]; exact ⟨rfl, rfl⟩) | (rw [mFeed, if_neg (fun q => q h_1), if_pos h_2]; exact ⟨rfl, rfl⟩) | (rw [mFeed, if_neg (fun q => q h_1), if_neg (fun q => q h_2), hi]; exact ⟨rfl, rfl⟩))
  · skip
    refine lv_iconst (v := -1) hx hb dM_feed_8 (by decide) ?_
    exact r_i hx hb hr hlk hK hH hS dM_feed_9 (by first | (rw [mFeed, if_pos h_1]; exact ⟨rfl, rfl⟩) | (rw [mFeed, if_neg (fun q => q h_1), if_pos rfl]; exact ⟨rfl, rfl⟩) | (rw [mFeed, if_neg (fun q => q h_1), if_neg (fun q => q rfl), hi]; exact ⟨rfl, rfl⟩))
set_option maxHeartbeats 4000000 in
set_option maxRecDepth 100000 in
theorem c_M_refusal (l : Launch) {D : va_G} {c : Nat → ClassId} {sz : Nat} {ad : gN → Nat} {k : Nat} {I J : gI} {P : gP} {LG : Option Nat} {LP : Option (Nat × Nat)} {a x y : Int32} (hk : k ≤ 6) (hmd : J (11, 0, 0) 7 = nI k) : Met l yM_refusal wM_refusal { frames := 3, cells := 0, slots := 0, locals := 71 } (gPre D c sz [.ref (ad (11, 0, 0)), .int a, .int x, .int y] (ad, k, I, J, P, LG, LP)) (va_Qi (fun r u => r = mRef J a x y ∧ u = (ad, k, I, J, P, LG, LP)) (gB D c sz) (gA sz)) 0 0 (gA sz) := by
  refine Met.ofW (cc := cM_refusal) (maxL := 5) (ret := (some .int)) (by decide) rfl ?_
  intro p e s m args below meth cd s₁ B hml hv
  obtain ⟨rfl, hK, hH⟩ := hv
  have hx := B.exec
  have hb := B.bytes
  have hr := B.returns
  have hts := atoms_spec (ws := wM_refusal) B.pre
  have hw : ∀ w ∈ gWd, w.before _ s = true := fun w h => hts w (List.mem_cons_of_mem _ h)
  have hown : s.vm.findClass RM = some m.cls := findClass_of_methodNamed B.named
  have hlk := B.notSynchronized
  have hS : va_S (gA sz) s.heap s.heap [] := va_S.rf
  have hH : gW D c sz ad k I J P LG LP s.heap := hH
  have hl := lv_entry ([.ref (ad (11, 0, 0)), .int a, .int x, .int y]) (n := 5) (Nat.le_of_ble_eq_true rfl)
  rw [lg_entry_eq]
  generalize (lg_sl ([.ref (ad (11, 0, 0)), .int a, .int x, .int y]) ++ List.replicate (5 - (lg_sl ([.ref (ad (11, 0, 0)), .int a, .int x, .int y])).length) Slot.unset).toArray = ls at hl ⊢
  have hl : lv_has ls 5 [(0, .ref (ad (11, 0, 0))), (1, .int a), (2, .int x), (3, .int y)] := hl
  refine lv_aload_n hx hb dM_refusal_0 rfl (lv_at hl 0 rfl) ?_
  refine lv_iload_n hx hb dM_refusal_1 rfl (lv_at hl 1 rfl) ?_
  refine s_ciE (va_runV (As := [.int _]) (rest := []) ⟨hx, hb, hml, hown, hw⟩ (c_M_isGuest l  (by assumption) (by assumption)) (cwV 1 hw (gd_V (gwd_7 (List.mem_of_getElem? (i := 21) rfl)) (gwd_7 (List.mem_of_getElem? (i := 22) rfl)) (gwd_9 (List.mem_of_getElem? (i := 28) rfl)) (gwd_0 (List.mem_of_getElem? (i := 3) rfl)) (gwd_7 (List.mem_of_getElem? (i := 23) rfl))) rfl rfl rfl (by decide +kernel) ⟨Nat.le_of_ble_eq_true rfl, Nat.le_of_ble_eq_true rfl⟩) (gPre.V (n := (11, 0, 0)) hK hH (by first | exact ⟨rfl, rfl⟩ | exact ⟨by assumption, rfl⟩ | exact ⟨by assumption, by assumption⟩ | exact ⟨by omega, rfl⟩ | exact ⟨by omega, by omega⟩ | exact ⟨by decide, rfl⟩) rfl rfl) rfl rfl hl.1 rfl (lv_room (Nat.le_of_ble_eq_true rfl)) dM_refusal_2 ⟨Nat.zero_le _, Nat.zero_le _⟩) hS (fun H locs hH hS => ?_)
  refine s_ifne hx hb dM_refusal_5 rfl (fun h_1 => ?_) (fun h_1 => ?_)
  · skip
    refine lv_aload_n hx hb dM_refusal_10 rfl (lv_at hl 0 rfl) ?_
    refine lv_iload_n hx hb dM_refusal_11 rfl (lv_at hl 2 rfl) ?_
    refine s_ciE (va_runV (As := [.int _]) (rest := []) ⟨hx, hb, hml, hown, hw⟩ (c_M_isFree l  ) (cwV 1 hw (gd_V (gwd_7 (List.mem_of_getElem? (i := 5) rfl)) (gwd_7 (List.mem_of_getElem? (i := 6) rfl)) (gwd_9 (List.mem_of_getElem? (i := 24) rfl)) (gwd_0 (List.mem_of_getElem? (i := 3) rfl)) (gwd_7 (List.mem_of_getElem? (i := 7) rfl))) rfl rfl rfl (by decide +kernel) ⟨Nat.le_of_ble_eq_true rfl, Nat.le_of_ble_eq_true rfl⟩) (gPre.V (n := (11, 0, 0)) hK hH (by first | exact ⟨rfl, rfl⟩ | exact ⟨by assumption, rfl⟩ | exact ⟨by assumption, by assumption⟩ | exact ⟨by omega, rfl⟩ | exact ⟨by omega, by omega⟩ | exact ⟨by decide, rfl⟩) rfl rfl) rfl rfl hl.1 rfl (lv_room (Nat.le_of_ble_eq_true rfl)) dM_refusal_12 ⟨Nat.zero_le _, Nat.zero_le _⟩) hS (fun H locs hH hS => ?_)
    refine s_ifne hx hb dM_refusal_15 rfl (fun h_2 => ?_) (fun h_2 => ?_)
    · skip
      refine lv_iload_n hx hb dM_refusal_21 rfl (lv_at hl 3 rfl) ?_
      refine lv_if_lt hx hb dM_refusal_22 rfl (fun h_3 => ?_) (fun h_3 => ?_)
      · skip
        refine lv_bipush (v := -3) hx hb dM_refusal_40 (by decide) ?_
        exact r_i hx hb hr hlk hK hH hS dM_refusal_42 (⟨by rw [mRef, if_neg (fun q => q h_1), if_neg (fun q => q h_2), if_pos (Or.inl h_3)], rfl⟩)
      · skip
        refine lv_iload_n hx hb dM_refusal_25 rfl (lv_at hl 3 rfl) ?_
        refine lv_bipush (v := 63) hx hb dM_refusal_26 (by decide) ?_
        refine lv_icmp_gt hx hb dM_refusal_28 rfl (fun h_4 => ?_) (fun h_4 => ?_)
        · skip
          refine lv_bipush (v := -3) hx hb dM_refusal_40 (by decide) ?_
          exact r_i hx hb hr hlk hK hH hS dM_refusal_42 (⟨by rw [mRef, if_neg (fun q => q h_1), if_neg (fun q => q h_2), if_pos (Or.inr (Or.inl h_4))], rfl⟩)
        · skip
          refine lv_aload_n hx hb dM_refusal_31 rfl (lv_at hl 0 rfl) ?_
          refine lv_iload_n hx hb dM_refusal_32 rfl (lv_at hl 1 rfl) ?_
          refine lv_iload_n hx hb dM_refusal_33 rfl (lv_at hl 3 rfl) ?_
          refine s_ciE (va_runV (As := [.int _, .int _]) (rest := []) ⟨hx, hb, hml, hown, hw⟩ (c_M_held l  ) (cwV 2 hw (gd_V (gwd_7 (List.mem_of_getElem? (i := 40) rfl)) (gwd_7 (List.mem_of_getElem? (i := 41) rfl)) (gwd_9 (List.mem_of_getElem? (i := 33) rfl)) (gwd_0 (List.mem_of_getElem? (i := 3) rfl)) (gwd_7 (List.mem_of_getElem? (i := 42) rfl))) rfl rfl rfl (by decide +kernel) ⟨Nat.le_of_ble_eq_true rfl, Nat.le_of_ble_eq_true rfl⟩) (gPre.V (n := (11, 0, 0)) hK hH (by first | exact ⟨rfl, rfl⟩ | exact ⟨by assumption, rfl⟩ | exact ⟨by assumption, by assumption⟩ | exact ⟨by omega, rfl⟩ | exact ⟨by omega, by omega⟩ | exact ⟨by decide, rfl⟩) rfl rfl) rfl rfl hl.1 rfl (lv_room (Nat.le_of_ble_eq_true rfl)) dM_refusal_34 ⟨Nat.zero_le _, Nat.zero_le _⟩) hS (fun H locs hH hS => ?_)
          refine lv_if_lt hx hb dM_refusal_37 rfl (fun h_5 => ?_) (fun h_5 => ?_)
          · skip
            refine lv_aload_n hx hb dM_refusal_43 rfl (lv_at hl 0 rfl) ?_
            refine lv_iload_n hx hb dM_refusal_44 rfl (lv_at hl 1 rfl) ?_
            refine lv_iload_n hx hb dM_refusal_45 rfl (lv_at hl 3 rfl) ?_
            refine s_ciE (va_runV (As := [.int _, .int _]) (rest := []) ⟨hx, hb, hml, hown, hw⟩ (c_M_count l  ) (cwV 2 hw (gd_V (gwd_7 (List.mem_of_getElem? (i := 27) rfl)) (gwd_7 (List.mem_of_getElem? (i := 28) rfl)) (gwd_9 (List.mem_of_getElem? (i := 30) rfl)) (gwd_0 (List.mem_of_getElem? (i := 3) rfl)) (gwd_7 (List.mem_of_getElem? (i := 29) rfl))) rfl rfl rfl (by decide +kernel) ⟨Nat.le_of_ble_eq_true rfl, Nat.le_of_ble_eq_true rfl⟩) (gPre.V (n := (11, 0, 0)) hK hH (by first | exact ⟨rfl, rfl⟩ | exact ⟨by assumption, rfl⟩ | exact ⟨by assumption, by assumption⟩ | exact ⟨by omega, rfl⟩ | exact ⟨by omega, by omega⟩ | exact ⟨by decide, rfl⟩) rfl rfl) rfl rfl hl.1 rfl (lv_room (Nat.le_of_ble_eq_true rfl)) dM_refusal_46 ⟨Nat.zero_le _, Nat.zero_le _⟩) hS (fun H locs hH hS => ?_)
            refine lv_aload_n hx hb dM_refusal_49 rfl (lv_at hl 0 rfl) ?_
            refine lv_iload_n hx hb dM_refusal_50 rfl (lv_at hl 1 rfl) ?_
            refine lv_iconst (v := -1) hx hb dM_refusal_51 (by decide) ?_
            refine s_ciE (va_runV (As := [.int _, .int _]) (rest := [.int _]) ⟨hx, hb, hml, hown, hw⟩ (c_M_count l  ) (cwV 2 hw (gd_V (gwd_7 (List.mem_of_getElem? (i := 27) rfl)) (gwd_7 (List.mem_of_getElem? (i := 28) rfl)) (gwd_9 (List.mem_of_getElem? (i := 30) rfl)) (gwd_0 (List.mem_of_getElem? (i := 3) rfl)) (gwd_7 (List.mem_of_getElem? (i := 29) rfl))) rfl rfl rfl (by decide +kernel) ⟨Nat.le_of_ble_eq_true rfl, Nat.le_of_ble_eq_true rfl⟩) (gPre.V (n := (11, 0, 0)) hK hH (by first | exact ⟨rfl, rfl⟩ | exact ⟨by assumption, rfl⟩ | exact ⟨by assumption, by assumption⟩ | exact ⟨by omega, rfl⟩ | exact ⟨by omega, by omega⟩ | exact ⟨by decide, rfl⟩) rfl rfl) rfl rfl hl.1 rfl (lv_room (Nat.le_of_ble_eq_true rfl)) dM_refusal_52 ⟨Nat.zero_le _, Nat.zero_le _⟩) hS (fun H locs hH hS => ?_)
            refine lv_isub hx hb dM_refusal_55 ?_
            refine lv_istore hx hb dM_refusal_56 hl (by decide) rfl (fun ls hl => ?_)
            have hl : lv_has ls 5 [(4, .int _), (0, .ref _), (1, .int _), (2, .int _), (3, .int _)] := hl
            refine lv_iload hx hb dM_refusal_58 (lv_at hl 0 rfl) ?_
            refine lv_aload_n hx hb dM_refusal_60 rfl (lv_at hl 1 rfl) ?_
            refine lv_iload_n hx hb dM_refusal_61 rfl (lv_at hl 2 rfl) ?_
            refine s_ciE (va_runV (As := [.int _]) (rest := [.int _]) ⟨hx, hb, hml, hown, hw⟩ (c_M_rest l  ) (cwV 1 hw (gd_V (gwd_7 (List.mem_of_getElem? (i := 24) rfl)) (gwd_7 (List.mem_of_getElem? (i := 25) rfl)) (gwd_9 (List.mem_of_getElem? (i := 29) rfl)) (gwd_0 (List.mem_of_getElem? (i := 3) rfl)) (gwd_7 (List.mem_of_getElem? (i := 26) rfl))) rfl rfl rfl (by decide +kernel) ⟨Nat.le_of_ble_eq_true rfl, Nat.le_of_ble_eq_true rfl⟩) (gPre.V (n := (11, 0, 0)) hK hH (by first | exact ⟨rfl, rfl⟩ | exact ⟨by assumption, rfl⟩ | exact ⟨by assumption, by assumption⟩ | exact ⟨by omega, rfl⟩ | exact ⟨by omega, by omega⟩ | exact ⟨by decide, rfl⟩) rfl rfl) rfl rfl hl.1 rfl (lv_room (Nat.le_of_ble_eq_true rfl)) dM_refusal_62 ⟨Nat.zero_le _, Nat.zero_le _⟩) hS (fun H locs hH hS => ?_)
            refine lv_icmp_le hx hb dM_refusal_65 rfl (fun h_6 => ?_) (fun h_6 => ?_)
            · skip
              refine lv_iconst (v := 0) hx hb dM_refusal_73 (by decide) ?_
              exact r_i hx hb hr hlk hK hH hS dM_refusal_74 (⟨by first | rw [mRef, if_neg (fun q => q h_1), if_neg (fun q => q h_2), if_neg (fun q => q.elim h_3 (fun q => q.elim h_4 (fun q => q h_5))), if_pos h_6] | rw [mRef, if_neg (fun q => q h_1), if_neg (fun q => q h_2), if_neg (fun q => q.elim h_3 (fun q => q.elim h_4 (fun q => q h_5))), if_neg h_6], rfl⟩)
            · skip
              refine lv_bipush (v := -4) hx hb dM_refusal_68 (by decide) ?_
              refine lv_goto hx hb dM_refusal_70 rfl ?_
              exact r_i hx hb hr hlk hK hH hS dM_refusal_74 (⟨by first | rw [mRef, if_neg (fun q => q h_1), if_neg (fun q => q h_2), if_neg (fun q => q.elim h_3 (fun q => q.elim h_4 (fun q => q h_5))), if_pos h_6] | rw [mRef, if_neg (fun q => q h_1), if_neg (fun q => q h_2), if_neg (fun q => q.elim h_3 (fun q => q.elim h_4 (fun q => q h_5))), if_neg h_6], rfl⟩)
          · skip
            refine lv_bipush (v := -3) hx hb dM_refusal_40 (by decide) ?_
            exact r_i hx hb hr hlk hK hH hS dM_refusal_42 (⟨by rw [mRef, if_neg (fun q => q h_1), if_neg (fun q => q h_2), if_pos (Or.inr (Or.inr h_5))], rfl⟩)
    · skip
      refine lv_bipush (v := -2) hx hb dM_refusal_18 (by decide) ?_
      exact r_i hx hb hr hlk hK hH hS dM_refusal_20 (⟨by rw [mRef, if_neg (fun q => q h_1), if_pos h_2], rfl⟩)
  · skip
    refine lv_iconst (v := -1) hx hb dM_refusal_8 (by decide) ?_
    exact r_i hx hb hr hlk hK hH hS dM_refusal_9 (⟨by rw [mRef, if_pos h_1], rfl⟩)
theorem mRef_nn {J : gI} {a x y : Int32} (h : ¬ mRef J a x y < 0) : mGst J a ∧ mFree J x ∧ ¬ y < 0 ∧ ¬ 63 < y ∧ mHeld J a y < 0 ∧ mCnt J a y - mCnt J a (-1) ≤ mRest J a ∧ mRef J a x y = 0 := by
  unfold mRef at h ⊢
  by_cases h1 : mGst J a
  · rw [if_neg (fun q => q h1)] at h ⊢
    by_cases h2 : mFree J x
    · rw [if_neg (fun q => q h2)] at h ⊢
      by_cases h3 : y < 0 ∨ 63 < y ∨ ¬ mHeld J a y < 0
      · rw [if_pos h3] at h
        exact absurd (by decide) h
      · rw [if_neg h3] at h ⊢
        by_cases h4 : mCnt J a y - mCnt J a (-1) ≤ mRest J a
        · refine ⟨h1, h2, fun q => h3 (Or.inl q), fun q => h3 (Or.inr (Or.inl q)), ?_, h4, by rw [if_pos h4]⟩
          by_cases h5 : mHeld J a y < 0
          · exact h5
          · exact absurd (Or.inr (Or.inr h5)) h3
        · rw [if_neg h4] at h
          exact absurd (by decide) h
    · rw [if_pos h2] at h
      exact absurd (by decide) h
  · rw [if_pos h1] at h
    exact absurd (by decide) h
set_option maxHeartbeats 4000000 in
set_option maxRecDepth 100000 in
theorem c_M_donate (l : Launch) {D : va_G} {c : Nat → ClassId} {sz : Nat} {ad : gN → Nat} {k : Nat} {I J : gI} {P : gP} {LG : Option Nat} {LP : Option (Nat × Nat)} {a x y : Int32} (hk : k ≤ 6) (hmd : J (11, 0, 0) 7 = nI k) : Met l yM_donate wM_donate { frames := 4, cells := 0, slots := 0, locals := 95 } (gPre D c sz [.ref (ad (11, 0, 0)), .int a, .int x, .int y] (ad, k, I, J, P, LG, LP)) (va_Qi (fun r u => r = (mDonate J a x y).1 ∧ u = (ad, k, I, (mDonate J a x y).2, P, LG, LP)) (gB D c sz) (gA sz)) 0 0 (gA sz) := by
  refine Met.ofW (cc := cM_donate) (maxL := 5) (ret := (some .int)) (by decide) rfl ?_
  intro p e s m args below meth cd s₁ B hml hv
  obtain ⟨rfl, hK, hH⟩ := hv
  have hx := B.exec
  have hb := B.bytes
  have hr := B.returns
  have hts := atoms_spec (ws := wM_donate) B.pre
  have hw : ∀ w ∈ gWd, w.before _ s = true := fun w h => hts w (List.mem_cons_of_mem _ h)
  have hown : s.vm.findClass RM = some m.cls := findClass_of_methodNamed B.named
  have hlk := B.notSynchronized
  have hS : va_S (gA sz) s.heap s.heap [] := va_S.rf
  have hH : gW D c sz ad k I J P LG LP s.heap := hH
  have hl := lv_entry ([.ref (ad (11, 0, 0)), .int a, .int x, .int y]) (n := 5) (Nat.le_of_ble_eq_true rfl)
  rw [lg_entry_eq]
  generalize (lg_sl ([.ref (ad (11, 0, 0)), .int a, .int x, .int y]) ++ List.replicate (5 - (lg_sl ([.ref (ad (11, 0, 0)), .int a, .int x, .int y])).length) Slot.unset).toArray = ls at hl ⊢
  have hl : lv_has ls 5 [(0, .ref (ad (11, 0, 0))), (1, .int a), (2, .int x), (3, .int y)] := hl
  refine lv_aload_n hx hb dM_donate_0 rfl (lv_at hl 0 rfl) ?_
  refine lv_iload_n hx hb dM_donate_1 rfl (lv_at hl 1 rfl) ?_
  refine lv_iload_n hx hb dM_donate_2 rfl (lv_at hl 2 rfl) ?_
  refine lv_iload_n hx hb dM_donate_3 rfl (lv_at hl 3 rfl) ?_
  refine s_ciE (va_runV (As := [.int _, .int _, .int _]) (rest := []) ⟨hx, hb, hml, hown, hw⟩ (c_M_refusal l  (by assumption) (by assumption)) (cwV 3 hw (gd_V (gwd_7 (List.mem_of_getElem? (i := 37) rfl)) (gwd_7 (List.mem_of_getElem? (i := 38) rfl)) (gwd_9 (List.mem_of_getElem? (i := 32) rfl)) (gwd_0 (List.mem_of_getElem? (i := 3) rfl)) (gwd_7 (List.mem_of_getElem? (i := 39) rfl))) rfl rfl rfl (by decide +kernel) ⟨Nat.le_of_ble_eq_true rfl, Nat.le_of_ble_eq_true rfl⟩) (gPre.V (n := (11, 0, 0)) hK hH (by first | exact ⟨rfl, rfl⟩ | exact ⟨by assumption, rfl⟩ | exact ⟨by assumption, by assumption⟩ | exact ⟨by omega, rfl⟩ | exact ⟨by omega, by omega⟩ | exact ⟨by decide, rfl⟩) rfl rfl) rfl rfl hl.1 rfl (lv_room (Nat.le_of_ble_eq_true rfl)) dM_donate_4 ⟨Nat.zero_le _, Nat.zero_le _⟩) hS (fun H locs hH hS => ?_)
  refine lv_istore hx hb dM_donate_7 hl (by decide) rfl (fun ls hl => ?_)
  have hl : lv_has ls 5 [(4, .int _), (0, .ref _), (1, .int _), (2, .int _), (3, .int _)] := hl
  refine lv_iload hx hb dM_donate_9 (lv_at hl 0 rfl) ?_
  refine lv_if_ge hx hb dM_donate_11 rfl (fun h_1 => ?_) (fun h_1 => ?_)
  · skip
    obtain ⟨hg1, hf1, hy0, hy1, hh1, hc1, hr0⟩ := mRef_nn (Int32.not_lt.mpr h_1)
    obtain ⟨j, hj, rfl⟩ := isP_ix hf1.1
    have hi : ix (nI j) = j := ix_nI (by omega)
    obtain ⟨ja, hja, rfl⟩ := gst_ix hk hg1.1 (by rw [← hmd]; exact hg1.2.1)
    have hia : ix (nI ja) = ja := ix_nI (by omega)
    refine lv_aload_n hx hb dM_donate_17 rfl (lv_at hl 1 rfl) ?_
    refine s_get hx hb hw inM hown hK hH 1 (by decide) (hw _ (gwd_5 (List.mem_of_getElem? (i := 41) rfl))) (by first | exact ⟨rfl, rfl⟩ | exact ⟨by assumption, rfl⟩ | exact ⟨by assumption, by assumption⟩ | exact ⟨by omega, rfl⟩ | exact ⟨by omega, by omega⟩ | exact ⟨by decide, rfl⟩) rfl rfl rfl rfl dM_donate_18 ?_
    refine lv_iload_n hx hb dM_donate_21 rfl (lv_at hl 3 rfl) ?_
    refine lv_iload_n hx hb dM_donate_22 rfl (lv_at hl 2 rfl) ?_
    refine m_iast hx hb hK hH hS (by first | exact ⟨rfl, rfl⟩ | exact ⟨by assumption, rfl⟩ | exact ⟨by assumption, by assumption⟩ | exact ⟨by omega, rfl⟩ | exact ⟨by omega, by omega⟩ | exact ⟨by decide, rfl⟩) rfl _ (by first | rfl | assumption) (show _ < 24 from by first | assumption | decide | omega) (by decide) rfl dM_donate_23 (fun H locs hH hS => ?_)
    refine lv_aload_n hx hb dM_donate_24 rfl (lv_at hl 1 rfl) ?_
    refine s_get hx hb hw inM hown hK hH 4 (by decide) (hw _ (gwd_5 (List.mem_of_getElem? (i := 44) rfl))) (by first | exact ⟨rfl, rfl⟩ | exact ⟨by assumption, rfl⟩ | exact ⟨by assumption, by assumption⟩ | exact ⟨by omega, rfl⟩ | exact ⟨by omega, by omega⟩ | exact ⟨by decide, rfl⟩) rfl rfl rfl rfl dM_donate_25 ?_
    refine lv_iload_n hx hb dM_donate_28 rfl (lv_at hl 3 rfl) ?_
    refine lv_iload_n hx hb dM_donate_29 rfl (lv_at hl 4 rfl) ?_
    refine m_iast hx hb hK hH hS (by first | exact ⟨rfl, rfl⟩ | exact ⟨by assumption, rfl⟩ | exact ⟨by assumption, by assumption⟩ | exact ⟨by omega, rfl⟩ | exact ⟨by omega, by omega⟩ | exact ⟨by decide, rfl⟩) rfl _ (by first | rfl | assumption) (show _ < 24 from by first | assumption | decide | omega) (by decide) rfl dM_donate_30 (fun H locs hH hS => ?_)
    refine lv_aload_n hx hb dM_donate_31 rfl (lv_at hl 1 rfl) ?_
    refine s_get hx hb hw inM hown hK hH 5 (by decide) (hw _ (gwd_5 (List.mem_of_getElem? (i := 45) rfl))) (by first | exact ⟨rfl, rfl⟩ | exact ⟨by assumption, rfl⟩ | exact ⟨by assumption, by assumption⟩ | exact ⟨by omega, rfl⟩ | exact ⟨by omega, by omega⟩ | exact ⟨by decide, rfl⟩) rfl rfl rfl rfl dM_donate_32 ?_
    refine lv_iload_n hx hb dM_donate_35 rfl (lv_at hl 3 rfl) ?_
    refine lv_iconst (v := 0) hx hb dM_donate_36 (by decide) ?_
    refine m_zast hx hb hK hH hS (by first | exact ⟨rfl, rfl⟩ | exact ⟨by assumption, rfl⟩ | exact ⟨by assumption, by assumption⟩ | exact ⟨by omega, rfl⟩ | exact ⟨by omega, by omega⟩ | exact ⟨by decide, rfl⟩) rfl _ (by first | rfl | assumption) (show _ < 24 from by first | assumption | decide | omega) (by decide) (by first | exact Or.inl rfl | exact Or.inr rfl | exact bz_01 _ | assumption) rfl dM_donate_37 (fun H locs hH hS => ?_)
    refine lv_aload_n hx hb dM_donate_38 rfl (lv_at hl 1 rfl) ?_
    refine s_get hx hb hw inM hown hK hH 9 (by decide) (hw _ (gwd_6 (List.mem_of_getElem? (i := 1) rfl))) (by first | exact ⟨rfl, rfl⟩ | exact ⟨by assumption, rfl⟩ | exact ⟨by assumption, by assumption⟩ | exact ⟨by omega, rfl⟩ | exact ⟨by omega, by omega⟩ | exact ⟨by decide, rfl⟩) rfl rfl rfl rfl dM_donate_39 ?_
    refine lv_iload_n hx hb dM_donate_42 rfl (lv_at hl 2 rfl) ?_
    refine m_zald hx hb hK hH (by first | exact ⟨rfl, rfl⟩ | exact ⟨by assumption, rfl⟩ | exact ⟨by assumption, by assumption⟩ | exact ⟨by omega, rfl⟩ | exact ⟨by omega, by omega⟩ | exact ⟨by decide, rfl⟩) rfl _ (by first | rfl | assumption) (show _ < 7 from by first | assumption | decide | omega) (by decide) dM_donate_43 ?_
    refine lv_if_eq hx hb dM_donate_44 rfl (fun h_2 => ?_) (fun h_2 => ?_)
    · skip
      refine lv_aload_n hx hb dM_donate_52 rfl (lv_at hl 1 rfl) ?_
      refine lv_iload_n hx hb dM_donate_53 rfl (lv_at hl 3 rfl) ?_
      refine s_cvE (va_runV (As := [.int _]) (rest := []) ⟨hx, hb, hml, hown, hw⟩ (c_M_look l  (by assumption)) (cwV 1 hw (gd_V (gwd_7 (List.mem_of_getElem? (i := 14) rfl)) (gwd_7 (List.mem_of_getElem? (i := 15) rfl)) (gwd_9 (List.mem_of_getElem? (i := 27) rfl)) (gwd_0 (List.mem_of_getElem? (i := 3) rfl)) (gwd_7 (List.mem_of_getElem? (i := 16) rfl))) rfl rfl rfl (by decide +kernel) ⟨Nat.le_of_ble_eq_true rfl, Nat.le_of_ble_eq_true rfl⟩) (gPre.V (n := (11, 0, 0)) hK hH (by first | exact ⟨rfl, rfl⟩ | exact ⟨by assumption, rfl⟩ | exact ⟨by assumption, by assumption⟩ | exact ⟨by omega, rfl⟩ | exact ⟨by omega, by omega⟩ | exact ⟨by decide, rfl⟩) rfl rfl) rfl rfl hl.1 rfl (lv_room (Nat.le_of_ble_eq_true rfl)) dM_donate_54 ⟨Nat.zero_le _, Nat.zero_le _⟩) hS (fun H locs hH hS => ?_)
      refine lv_iconst (v := 0) hx hb dM_donate_57 (by decide) ?_
      exact r_i hx hb hr hlk hK hH hS dM_donate_58 (by first | (rw [mDonate, if_pos (Int32.not_le.mp h_1)]; exact ⟨rfl, rfl⟩) | (rw [mDonate, if_neg (Int32.not_lt.mpr h_1), hi, hia]; refine ⟨rfl, ?_⟩; first | (rw [if_pos (show mDon1 J (nI ja) j y (mb 9) ja = 0 from h_2)]; rfl) | (rw [if_neg (show ¬ mDon1 J (nI ja) j y (mb 9) ja = 0 from h_2)]; rfl)))
    · skip
      refine lv_aload_n hx hb dM_donate_47 rfl (lv_at hl 1 rfl) ?_
      refine lv_iload_n hx hb dM_donate_48 rfl (lv_at hl 3 rfl) ?_
      refine s_cvE (va_runV (As := [.int _]) (rest := []) ⟨hx, hb, hml, hown, hw⟩ (c_M_wipe l  (by assumption)) (cwV 1 hw (gd_V (gwd_7 (List.mem_of_getElem? (i := 11) rfl)) (gwd_7 (List.mem_of_getElem? (i := 12) rfl)) (gwd_9 (List.mem_of_getElem? (i := 26) rfl)) (gwd_0 (List.mem_of_getElem? (i := 3) rfl)) (gwd_7 (List.mem_of_getElem? (i := 13) rfl))) rfl rfl rfl (by decide +kernel) ⟨Nat.le_of_ble_eq_true rfl, Nat.le_of_ble_eq_true rfl⟩) (gPre.V (n := (11, 0, 0)) hK hH (by first | exact ⟨rfl, rfl⟩ | exact ⟨by assumption, rfl⟩ | exact ⟨by assumption, by assumption⟩ | exact ⟨by omega, rfl⟩ | exact ⟨by omega, by omega⟩ | exact ⟨by decide, rfl⟩) rfl rfl) rfl rfl hl.1 rfl (lv_room (Nat.le_of_ble_eq_true rfl)) dM_donate_49 ⟨Nat.zero_le _, Nat.zero_le _⟩) hS (fun H locs hH hS => ?_)
      refine lv_aload_n hx hb dM_donate_52 rfl (lv_at hl 1 rfl) ?_
      refine lv_iload_n hx hb dM_donate_53 rfl (lv_at hl 3 rfl) ?_
      refine s_cvE (va_runV (As := [.int _]) (rest := []) ⟨hx, hb, hml, hown, hw⟩ (c_M_look l  (by assumption)) (cwV 1 hw (gd_V (gwd_7 (List.mem_of_getElem? (i := 14) rfl)) (gwd_7 (List.mem_of_getElem? (i := 15) rfl)) (gwd_9 (List.mem_of_getElem? (i := 27) rfl)) (gwd_0 (List.mem_of_getElem? (i := 3) rfl)) (gwd_7 (List.mem_of_getElem? (i := 16) rfl))) rfl rfl rfl (by decide +kernel) ⟨Nat.le_of_ble_eq_true rfl, Nat.le_of_ble_eq_true rfl⟩) (gPre.V (n := (11, 0, 0)) hK hH (by first | exact ⟨rfl, rfl⟩ | exact ⟨by assumption, rfl⟩ | exact ⟨by assumption, by assumption⟩ | exact ⟨by omega, rfl⟩ | exact ⟨by omega, by omega⟩ | exact ⟨by decide, rfl⟩) rfl rfl) rfl rfl hl.1 rfl (lv_room (Nat.le_of_ble_eq_true rfl)) dM_donate_54 ⟨Nat.zero_le _, Nat.zero_le _⟩) hS (fun H locs hH hS => ?_)
      refine lv_iconst (v := 0) hx hb dM_donate_57 (by decide) ?_
      exact r_i hx hb hr hlk hK hH hS dM_donate_58 (by first | (rw [mDonate, if_pos (Int32.not_le.mp h_1)]; exact ⟨rfl, rfl⟩) | (rw [mDonate, if_neg (Int32.not_lt.mpr h_1), hi, hia]; refine ⟨rfl, ?_⟩; first | (rw [if_pos (show mDon1 J (nI ja) j y (mb 9) ja = 0 from h_2)]; rfl) | (rw [if_neg (show ¬ mDon1 J (nI ja) j y (mb 9) ja = 0 from h_2)]; rfl)))
  · skip
    refine lv_iload hx hb dM_donate_14 (lv_at hl 0 rfl) ?_
    exact r_i hx hb hr hlk hK hH hS dM_donate_16 (by first | (rw [mDonate, if_pos (Int32.not_le.mp h_1)]; exact ⟨rfl, rfl⟩) | (rw [mDonate, if_neg (Int32.not_lt.mpr h_1), hi, hia]; refine ⟨rfl, ?_⟩; first | (rw [if_pos (show mDon1 J (nI ja) j y (mb 9) ja = 0 from rfl)]; rfl) | (rw [if_neg (show ¬ mDon1 J (nI ja) j y (mb 9) ja = 0 from rfl)]; rfl)))
set_option maxHeartbeats 4000000 in
set_option maxRecDepth 100000 in
theorem c_M_lend (l : Launch) {D : va_G} {c : Nat → ClassId} {sz : Nat} {ad : gN → Nat} {k : Nat} {I J : gI} {P : gP} {LG : Option Nat} {LP : Option (Nat × Nat)} {a x y : Int32} (hk : k ≤ 6) (hmd : J (11, 0, 0) 7 = nI k) : Met l yM_lend wM_lend { frames := 4, cells := 0, slots := 0, locals := 95 } (gPre D c sz [.ref (ad (11, 0, 0)), .int a, .int x, .int y] (ad, k, I, J, P, LG, LP)) (va_Qi (fun r u => r = (mLend J a x y).1 ∧ u = (ad, k, I, (mLend J a x y).2, P, LG, LP)) (gB D c sz) (gA sz)) 0 0 (gA sz) := by
  refine Met.ofW (cc := cM_lend) (maxL := 5) (ret := (some .int)) (by decide) rfl ?_
  intro p e s m args below meth cd s₁ B hml hv
  obtain ⟨rfl, hK, hH⟩ := hv
  have hx := B.exec
  have hb := B.bytes
  have hr := B.returns
  have hts := atoms_spec (ws := wM_lend) B.pre
  have hw : ∀ w ∈ gWd, w.before _ s = true := fun w h => hts w (List.mem_cons_of_mem _ h)
  have hown : s.vm.findClass RM = some m.cls := findClass_of_methodNamed B.named
  have hlk := B.notSynchronized
  have hS : va_S (gA sz) s.heap s.heap [] := va_S.rf
  have hH : gW D c sz ad k I J P LG LP s.heap := hH
  have hl := lv_entry ([.ref (ad (11, 0, 0)), .int a, .int x, .int y]) (n := 5) (Nat.le_of_ble_eq_true rfl)
  rw [lg_entry_eq]
  generalize (lg_sl ([.ref (ad (11, 0, 0)), .int a, .int x, .int y]) ++ List.replicate (5 - (lg_sl ([.ref (ad (11, 0, 0)), .int a, .int x, .int y])).length) Slot.unset).toArray = ls at hl ⊢
  have hl : lv_has ls 5 [(0, .ref (ad (11, 0, 0))), (1, .int a), (2, .int x), (3, .int y)] := hl
  refine lv_aload_n hx hb dM_lend_0 rfl (lv_at hl 0 rfl) ?_
  refine lv_iload_n hx hb dM_lend_1 rfl (lv_at hl 1 rfl) ?_
  refine lv_iload_n hx hb dM_lend_2 rfl (lv_at hl 2 rfl) ?_
  refine lv_iload_n hx hb dM_lend_3 rfl (lv_at hl 3 rfl) ?_
  refine s_ciE (va_runV (As := [.int _, .int _, .int _]) (rest := []) ⟨hx, hb, hml, hown, hw⟩ (c_M_refusal l  (by assumption) (by assumption)) (cwV 3 hw (gd_V (gwd_7 (List.mem_of_getElem? (i := 37) rfl)) (gwd_7 (List.mem_of_getElem? (i := 38) rfl)) (gwd_9 (List.mem_of_getElem? (i := 32) rfl)) (gwd_0 (List.mem_of_getElem? (i := 3) rfl)) (gwd_7 (List.mem_of_getElem? (i := 39) rfl))) rfl rfl rfl (by decide +kernel) ⟨Nat.le_of_ble_eq_true rfl, Nat.le_of_ble_eq_true rfl⟩) (gPre.V (n := (11, 0, 0)) hK hH (by first | exact ⟨rfl, rfl⟩ | exact ⟨by assumption, rfl⟩ | exact ⟨by assumption, by assumption⟩ | exact ⟨by omega, rfl⟩ | exact ⟨by omega, by omega⟩ | exact ⟨by decide, rfl⟩) rfl rfl) rfl rfl hl.1 rfl (lv_room (Nat.le_of_ble_eq_true rfl)) dM_lend_4 ⟨Nat.zero_le _, Nat.zero_le _⟩) hS (fun H locs hH hS => ?_)
  refine lv_istore hx hb dM_lend_7 hl (by decide) rfl (fun ls hl => ?_)
  have hl : lv_has ls 5 [(4, .int _), (0, .ref _), (1, .int _), (2, .int _), (3, .int _)] := hl
  refine lv_iload hx hb dM_lend_9 (lv_at hl 0 rfl) ?_
  refine lv_if_ne hx hb dM_lend_11 rfl (fun h_1 => ?_) (fun h_1 => ?_)
  · skip
    refine lv_iload hx hb dM_lend_28 (lv_at hl 0 rfl) ?_
    exact r_i hx hb hr hlk hK hH hS dM_lend_30 (by first | (refine ⟨rfl, ?_⟩; simp only [mLend]; rw [if_neg h_1]; done) | (refine ⟨rfl, ?_⟩; simp only [mLend]; rw [if_pos h_1, hi]; done))
  · skip
    obtain ⟨hg1, hf1, hy0, hy1, hh1, hc1, hr0⟩ := mRef_nn (by rw [h_1]; decide)
    obtain ⟨j, hj, rfl⟩ := isP_ix hf1.1
    have hi : ix (nI j) = j := ix_nI (by omega)
    obtain ⟨ja, hja, rfl⟩ := gst_ix hk hg1.1 (by rw [← hmd]; exact hg1.2.1)
    have hia : ix (nI ja) = ja := ix_nI (by omega)
    refine lv_aload_n hx hb dM_lend_14 rfl (lv_at hl 1 rfl) ?_
    refine s_get hx hb hw inM hown hK hH 3 (by decide) (hw _ (gwd_5 (List.mem_of_getElem? (i := 43) rfl))) (by first | exact ⟨rfl, rfl⟩ | exact ⟨by assumption, rfl⟩ | exact ⟨by assumption, by assumption⟩ | exact ⟨by omega, rfl⟩ | exact ⟨by omega, by omega⟩ | exact ⟨by decide, rfl⟩) rfl rfl rfl rfl dM_lend_15 ?_
    refine lv_iload_n hx hb dM_lend_18 rfl (lv_at hl 3 rfl) ?_
    refine lv_iload_n hx hb dM_lend_19 rfl (lv_at hl 2 rfl) ?_
    refine m_iast hx hb hK hH hS (by first | exact ⟨rfl, rfl⟩ | exact ⟨by assumption, rfl⟩ | exact ⟨by assumption, by assumption⟩ | exact ⟨by omega, rfl⟩ | exact ⟨by omega, by omega⟩ | exact ⟨by decide, rfl⟩) rfl _ (by first | rfl | assumption) (show _ < 24 from by first | assumption | decide | omega) (by decide) rfl dM_lend_20 (fun H locs hH hS => ?_)
    refine lv_aload_n hx hb dM_lend_21 rfl (lv_at hl 1 rfl) ?_
    refine s_get hx hb hw inM hown hK hH 4 (by decide) (hw _ (gwd_5 (List.mem_of_getElem? (i := 44) rfl))) (by first | exact ⟨rfl, rfl⟩ | exact ⟨by assumption, rfl⟩ | exact ⟨by assumption, by assumption⟩ | exact ⟨by omega, rfl⟩ | exact ⟨by omega, by omega⟩ | exact ⟨by decide, rfl⟩) rfl rfl rfl rfl dM_lend_22 ?_
    refine lv_iload_n hx hb dM_lend_25 rfl (lv_at hl 3 rfl) ?_
    refine lv_iload_n hx hb dM_lend_26 rfl (lv_at hl 4 rfl) ?_
    refine m_iast hx hb hK hH hS (by first | exact ⟨rfl, rfl⟩ | exact ⟨by assumption, rfl⟩ | exact ⟨by assumption, by assumption⟩ | exact ⟨by omega, rfl⟩ | exact ⟨by omega, by omega⟩ | exact ⟨by decide, rfl⟩) rfl _ (by first | rfl | assumption) (show _ < 24 from by first | assumption | decide | omega) (by decide) rfl dM_lend_27 (fun H locs hH hS => ?_)
    refine lv_iload hx hb dM_lend_28 (lv_at hl 0 rfl) ?_
    exact r_i hx hb hr hlk hK hH hS dM_lend_30 (by first | (refine ⟨rfl, ?_⟩; simp only [mLend]; rw [if_neg h_1]; done) | (refine ⟨rfl, ?_⟩; simp only [mLend]; rw [if_pos h_1, hi]; done))
set_option maxHeartbeats 4000000 in
set_option maxRecDepth 100000 in
theorem c_M_takeBack (l : Launch) {D : va_G} {c : Nat → ClassId} {sz : Nat} {ad : gN → Nat} {k : Nat} {I J : gI} {P : gP} {LG : Option Nat} {LP : Option (Nat × Nat)} {x : Int32}  : Met l yM_takeBack wM_takeBack { frames := 1, cells := 0, slots := 0, locals := 20 } (gPre D c sz [.ref (ad (11, 0, 0)), .int x] (ad, k, I, J, P, LG, LP)) (va_Qi (fun r u => r = (mTake J x).1 ∧ u = (ad, k, I, (mTake J x).2, P, LG, LP)) (gB D c sz) (gA sz)) 0 0 (gA sz) := by
  refine Met.ofW (cc := cM_takeBack) (maxL := 2) (ret := (some .boolean)) (by decide) rfl ?_
  intro p e s m args below meth cd s₁ B hml hv
  obtain ⟨rfl, hK, hH⟩ := hv
  have hx := B.exec
  have hb := B.bytes
  have hr := B.returns
  have hts := atoms_spec (ws := wM_takeBack) B.pre
  have hw : ∀ w ∈ gWd, w.before _ s = true := fun w h => hts w (List.mem_cons_of_mem _ h)
  have hown : s.vm.findClass RM = some m.cls := findClass_of_methodNamed B.named
  have hlk := B.notSynchronized
  have hS : va_S (gA sz) s.heap s.heap [] := va_S.rf
  have hH : gW D c sz ad k I J P LG LP s.heap := hH
  have hl := lv_entry ([.ref (ad (11, 0, 0)), .int x]) (n := 2) (Nat.le_of_ble_eq_true rfl)
  rw [lg_entry_eq]
  generalize (lg_sl ([.ref (ad (11, 0, 0)), .int x]) ++ List.replicate (2 - (lg_sl ([.ref (ad (11, 0, 0)), .int x])).length) Slot.unset).toArray = ls at hl ⊢
  have hl : lv_has ls 2 [(0, .ref (ad (11, 0, 0))), (1, .int x)] := hl
  refine lv_iload_n hx hb dM_takeBack_0 rfl (lv_at hl 1 rfl) ?_
  refine s_ciE (va_runS (As := [.int _]) (rest := []) ⟨hx, hb, hml, hown, hw⟩ (c_M_isPage l  ) (cwS 1 hw (gd_S (gwd_6 (List.mem_of_getElem? (i := 34) rfl)) (gwd_6 (List.mem_of_getElem? (i := 35) rfl)) (gwd_0 (List.mem_of_getElem? (i := 3) rfl)) (gwd_6 (List.mem_of_getElem? (i := 36) rfl))) rfl rfl rfl (by decide +kernel) ⟨Nat.le_of_ble_eq_true rfl, Nat.le_of_ble_eq_true rfl⟩) (gPre.S hK hH) rfl rfl hl.1 rfl (lv_room (Nat.le_of_ble_eq_true rfl)) dM_takeBack_1 ⟨Nat.zero_le _, Nat.zero_le _⟩) hS (fun H locs hH hS => ?_)
  refine s_ifeq hx hb dM_takeBack_4 rfl (fun h_1 => ?_) (fun h_1 => ?_)
  · skip
    refine lv_iconst (v := 0) hx hb dM_takeBack_16 (by decide) ?_
    exact r_z hx hb hr hlk hK hH hS dM_takeBack_17 (by first | exact Or.inl rfl | exact Or.inr rfl | exact bz_01 _ | assumption) (by first | (rw [mTake, if_neg (fun q => h_1 q.1)]; exact ⟨rfl, rfl⟩) | (rw [mTake, if_neg (fun q => q.2 (by rw [hi]; exact rfl))]; exact ⟨rfl, rfl⟩) | (rw [mTake, if_pos ⟨h_1, by rw [hi]; exact rfl⟩, hi]; exact ⟨rfl, rfl⟩))
  · skip
    obtain ⟨j, hj, rfl⟩ := isP_ix h_1
    have hi : ix (nI j) = j := ix_nI (by omega)
    refine lv_aload_n hx hb dM_takeBack_7 rfl (lv_at hl 0 rfl) ?_
    refine s_get hx hb hw inM hown hK hH 3 (by decide) (hw _ (gwd_5 (List.mem_of_getElem? (i := 43) rfl))) (by first | exact ⟨rfl, rfl⟩ | exact ⟨by assumption, rfl⟩ | exact ⟨by assumption, by assumption⟩ | exact ⟨by omega, rfl⟩ | exact ⟨by omega, by omega⟩ | exact ⟨by decide, rfl⟩) rfl rfl rfl rfl dM_takeBack_8 ?_
    refine lv_iload_n hx hb dM_takeBack_11 rfl (lv_at hl 1 rfl) ?_
    refine m_iald hx hb hK hH (by first | exact ⟨rfl, rfl⟩ | exact ⟨by assumption, rfl⟩ | exact ⟨by assumption, by assumption⟩ | exact ⟨by omega, rfl⟩ | exact ⟨by omega, by omega⟩ | exact ⟨by decide, rfl⟩) rfl _ (by first | rfl | assumption) (show _ < 24 from by first | assumption | decide | omega) (by decide) dM_takeBack_12 ?_
    refine lv_if_ne hx hb dM_takeBack_13 rfl (fun h_2 => ?_) (fun h_2 => ?_)
    · skip
      refine lv_aload_n hx hb dM_takeBack_18 rfl (lv_at hl 0 rfl) ?_
      refine s_get hx hb hw inM hown hK hH 3 (by decide) (hw _ (gwd_5 (List.mem_of_getElem? (i := 43) rfl))) (by first | exact ⟨rfl, rfl⟩ | exact ⟨by assumption, rfl⟩ | exact ⟨by assumption, by assumption⟩ | exact ⟨by omega, rfl⟩ | exact ⟨by omega, by omega⟩ | exact ⟨by decide, rfl⟩) rfl rfl rfl rfl dM_takeBack_19 ?_
      refine lv_iload_n hx hb dM_takeBack_22 rfl (lv_at hl 1 rfl) ?_
      refine lv_iconst (v := 0) hx hb dM_takeBack_23 (by decide) ?_
      refine m_iast hx hb hK hH hS (by first | exact ⟨rfl, rfl⟩ | exact ⟨by assumption, rfl⟩ | exact ⟨by assumption, by assumption⟩ | exact ⟨by omega, rfl⟩ | exact ⟨by omega, by omega⟩ | exact ⟨by decide, rfl⟩) rfl _ (by first | rfl | assumption) (show _ < 24 from by first | assumption | decide | omega) (by decide) rfl dM_takeBack_24 (fun H locs hH hS => ?_)
      refine lv_iconst (v := 1) hx hb dM_takeBack_25 (by decide) ?_
      exact r_z hx hb hr hlk hK hH hS dM_takeBack_26 (by first | exact Or.inl rfl | exact Or.inr rfl | exact bz_01 _ | assumption) (by first | (rw [mTake, if_neg (fun q => h_1 q.1)]; exact ⟨rfl, rfl⟩) | (rw [mTake, if_neg (fun q => q.2 (by rw [hi]; exact h_2))]; exact ⟨rfl, rfl⟩) | (rw [mTake, if_pos ⟨h_1, by rw [hi]; exact h_2⟩, hi]; exact ⟨rfl, rfl⟩))
    · skip
      refine lv_iconst (v := 0) hx hb dM_takeBack_16 (by decide) ?_
      exact r_z hx hb hr hlk hK hH hS dM_takeBack_17 (by first | exact Or.inl rfl | exact Or.inr rfl | exact bz_01 _ | assumption) (by first | (rw [mTake, if_neg (fun q => h_1 q.1)]; exact ⟨rfl, rfl⟩) | (rw [mTake, if_neg (fun q => q.2 (by rw [hi]; exact h_2))]; exact ⟨rfl, rfl⟩) | (rw [mTake, if_pos ⟨h_1, by rw [hi]; exact h_2⟩, hi]; exact ⟨rfl, rfl⟩))
set_option maxHeartbeats 4000000 in
set_option maxRecDepth 100000 in
theorem c_M_reclaim (l : Launch) {D : va_G} {c : Nat → ClassId} {sz : Nat} {ad : gN → Nat} {k : Nat} {I J : gI} {P : gP} {LG : Option Nat} {LP : Option (Nat × Nat)} {x : Int32}  : Met l yM_reclaim wM_reclaim { frames := 1, cells := 0, slots := 0, locals := 22 } (gPre D c sz [.ref (ad (11, 0, 0)), .int x] (ad, k, I, J, P, LG, LP)) (va_Qi (fun r u => r = (mReclaim J x).1 ∧ u = (ad, k, I, (mReclaim J x).2, P, LG, LP)) (gB D c sz) (gA sz)) 0 0 (gA sz) := by
  refine Met.ofW (cc := cM_reclaim) (maxL := 2) (ret := (some .boolean)) (by decide) rfl ?_
  intro p e s m args below meth cd s₁ B hml hv
  obtain ⟨rfl, hK, hH⟩ := hv
  have hx := B.exec
  have hb := B.bytes
  have hr := B.returns
  have hts := atoms_spec (ws := wM_reclaim) B.pre
  have hw : ∀ w ∈ gWd, w.before _ s = true := fun w h => hts w (List.mem_cons_of_mem _ h)
  have hown : s.vm.findClass RM = some m.cls := findClass_of_methodNamed B.named
  have hlk := B.notSynchronized
  have hS : va_S (gA sz) s.heap s.heap [] := va_S.rf
  have hH : gW D c sz ad k I J P LG LP s.heap := hH
  have hl := lv_entry ([.ref (ad (11, 0, 0)), .int x]) (n := 2) (Nat.le_of_ble_eq_true rfl)
  rw [lg_entry_eq]
  generalize (lg_sl ([.ref (ad (11, 0, 0)), .int x]) ++ List.replicate (2 - (lg_sl ([.ref (ad (11, 0, 0)), .int x])).length) Slot.unset).toArray = ls at hl ⊢
  have hl : lv_has ls 2 [(0, .ref (ad (11, 0, 0))), (1, .int x)] := hl
  refine lv_iload_n hx hb dM_reclaim_0 rfl (lv_at hl 1 rfl) ?_
  refine s_ciE (va_runS (As := [.int _]) (rest := []) ⟨hx, hb, hml, hown, hw⟩ (c_M_isPage l  ) (cwS 1 hw (gd_S (gwd_6 (List.mem_of_getElem? (i := 34) rfl)) (gwd_6 (List.mem_of_getElem? (i := 35) rfl)) (gwd_0 (List.mem_of_getElem? (i := 3) rfl)) (gwd_6 (List.mem_of_getElem? (i := 36) rfl))) rfl rfl rfl (by decide +kernel) ⟨Nat.le_of_ble_eq_true rfl, Nat.le_of_ble_eq_true rfl⟩) (gPre.S hK hH) rfl rfl hl.1 rfl (lv_room (Nat.le_of_ble_eq_true rfl)) dM_reclaim_1 ⟨Nat.zero_le _, Nat.zero_le _⟩) hS (fun H locs hH hS => ?_)
  refine s_ifeq hx hb dM_reclaim_4 rfl (fun h_1 => ?_) (fun h_1 => ?_)
  · skip
    refine lv_iconst (v := 0) hx hb dM_reclaim_18 (by decide) ?_
    exact r_z hx hb hr hlk hK hH hS dM_reclaim_19 (by first | exact Or.inl rfl | exact Or.inr rfl | exact bz_01 _ | assumption) (by first | (rw [mReclaim, if_neg (fun q => h_1 q.1)]; exact ⟨rfl, rfl⟩) | (rw [mReclaim, if_neg (fun q => rfl (by rw [← hi]; exact q.2))]; exact ⟨rfl, rfl⟩) | (rw [mReclaim, if_pos ⟨h_1, by rw [hi]; exact rfl⟩, hi]; exact ⟨rfl, rfl⟩))
  · skip
    obtain ⟨j, hj, rfl⟩ := isP_ix h_1
    have hi : ix (nI j) = j := ix_nI (by omega)
    refine lv_aload_n hx hb dM_reclaim_7 rfl (lv_at hl 0 rfl) ?_
    refine s_get hx hb hw inM hown hK hH 1 (by decide) (hw _ (gwd_5 (List.mem_of_getElem? (i := 41) rfl))) (by first | exact ⟨rfl, rfl⟩ | exact ⟨by assumption, rfl⟩ | exact ⟨by assumption, by assumption⟩ | exact ⟨by omega, rfl⟩ | exact ⟨by omega, by omega⟩ | exact ⟨by decide, rfl⟩) rfl rfl rfl rfl dM_reclaim_8 ?_
    refine lv_iload_n hx hb dM_reclaim_11 rfl (lv_at hl 1 rfl) ?_
    refine m_iald hx hb hK hH (by first | exact ⟨rfl, rfl⟩ | exact ⟨by assumption, rfl⟩ | exact ⟨by assumption, by assumption⟩ | exact ⟨by omega, rfl⟩ | exact ⟨by omega, by omega⟩ | exact ⟨by decide, rfl⟩) rfl _ (by first | rfl | assumption) (show _ < 24 from by first | assumption | decide | omega) (by decide) dM_reclaim_12 ?_
    refine lv_bipush (v := 8) hx hb dM_reclaim_13 (by decide) ?_
    refine lv_icmp_eq hx hb dM_reclaim_15 rfl (fun h_2 => ?_) (fun h_2 => ?_)
    · skip
      refine lv_aload_n hx hb dM_reclaim_20 rfl (lv_at hl 0 rfl) ?_
      refine s_get hx hb hw inM hown hK hH 1 (by decide) (hw _ (gwd_5 (List.mem_of_getElem? (i := 41) rfl))) (by first | exact ⟨rfl, rfl⟩ | exact ⟨by assumption, rfl⟩ | exact ⟨by assumption, by assumption⟩ | exact ⟨by omega, rfl⟩ | exact ⟨by omega, by omega⟩ | exact ⟨by decide, rfl⟩) rfl rfl rfl rfl dM_reclaim_21 ?_
      refine lv_iload_n hx hb dM_reclaim_24 rfl (lv_at hl 1 rfl) ?_
      refine lv_iconst (v := 0) hx hb dM_reclaim_25 (by decide) ?_
      refine m_iast hx hb hK hH hS (by first | exact ⟨rfl, rfl⟩ | exact ⟨by assumption, rfl⟩ | exact ⟨by assumption, by assumption⟩ | exact ⟨by omega, rfl⟩ | exact ⟨by omega, by omega⟩ | exact ⟨by decide, rfl⟩) rfl _ (by first | rfl | assumption) (show _ < 24 from by first | assumption | decide | omega) (by decide) rfl dM_reclaim_26 (fun H locs hH hS => ?_)
      refine lv_aload_n hx hb dM_reclaim_27 rfl (lv_at hl 0 rfl) ?_
      refine lv_iload_n hx hb dM_reclaim_28 rfl (lv_at hl 1 rfl) ?_
      refine s_cvE (va_runV (As := [.int _]) (rest := []) ⟨hx, hb, hml, hown, hw⟩ (c_M_wipe l  (by assumption)) (cwV 1 hw (gd_V (gwd_7 (List.mem_of_getElem? (i := 11) rfl)) (gwd_7 (List.mem_of_getElem? (i := 12) rfl)) (gwd_9 (List.mem_of_getElem? (i := 26) rfl)) (gwd_0 (List.mem_of_getElem? (i := 3) rfl)) (gwd_7 (List.mem_of_getElem? (i := 13) rfl))) rfl rfl rfl (by decide +kernel) ⟨Nat.le_of_ble_eq_true rfl, Nat.le_of_ble_eq_true rfl⟩) (gPre.V (n := (11, 0, 0)) hK hH (by first | exact ⟨rfl, rfl⟩ | exact ⟨by assumption, rfl⟩ | exact ⟨by assumption, by assumption⟩ | exact ⟨by omega, rfl⟩ | exact ⟨by omega, by omega⟩ | exact ⟨by decide, rfl⟩) rfl rfl) rfl rfl hl.1 rfl (lv_room (Nat.le_of_ble_eq_true rfl)) dM_reclaim_29 ⟨Nat.zero_le _, Nat.zero_le _⟩) hS (fun H locs hH hS => ?_)
      refine lv_iconst (v := 1) hx hb dM_reclaim_32 (by decide) ?_
      exact r_z hx hb hr hlk hK hH hS dM_reclaim_33 (by first | exact Or.inl rfl | exact Or.inr rfl | exact bz_01 _ | assumption) (by first | (rw [mReclaim, if_neg (fun q => h_1 q.1)]; exact ⟨rfl, rfl⟩) | (rw [mReclaim, if_neg (fun q => h_2 (by rw [← hi]; exact q.2))]; exact ⟨rfl, rfl⟩) | (rw [mReclaim, if_pos ⟨h_1, by rw [hi]; exact h_2⟩, hi]; exact ⟨rfl, rfl⟩))
    · skip
      refine lv_iconst (v := 0) hx hb dM_reclaim_18 (by decide) ?_
      exact r_z hx hb hr hlk hK hH hS dM_reclaim_19 (by first | exact Or.inl rfl | exact Or.inr rfl | exact bz_01 _ | assumption) (by first | (rw [mReclaim, if_neg (fun q => h_1 q.1)]; exact ⟨rfl, rfl⟩) | (rw [mReclaim, if_neg (fun q => h_2 (by rw [← hi]; exact q.2))]; exact ⟨rfl, rfl⟩) | (rw [mReclaim, if_pos ⟨h_1, by rw [hi]; exact h_2⟩, hi]; exact ⟨rfl, rfl⟩))
set_option maxHeartbeats 4000000 in
set_option maxRecDepth 100000 in
theorem c_M_destroy (l : Launch) {D : va_G} {c : Nat → ClassId} {sz : Nat} {ad : gN → Nat} {k : Nat} {I J : gI} {P : gP} {LG : Option Nat} {LP : Option (Nat × Nat)} {a : Int32} (hk : k ≤ 6) (hmd : J (11, 0, 0) 7 = nI k) : Met l yM_destroy wM_destroy { frames := 2, cells := 0, slots := 0, locals := 42 } (gPre D c sz [.ref (ad (11, 0, 0)), .int a] (ad, k, I, J, P, LG, LP)) (va_Qi (fun r u => r = (mDestroy J a).1 ∧ u = (ad, k, I, (mDestroy J a).2, P, LG, LP)) (gB D c sz) (gA sz)) 0 0 (gA sz) := by
  refine Met.ofW (cc := cM_destroy) (maxL := 3) (ret := (some .boolean)) (by decide) rfl ?_
  intro p e s m args below meth cd s₁ B hml hv
  obtain ⟨rfl, hK, hH⟩ := hv
  have hx := B.exec
  have hb := B.bytes
  have hr := B.returns
  have hts := atoms_spec (ws := wM_destroy) B.pre
  have hw : ∀ w ∈ gWd, w.before _ s = true := fun w h => hts w (List.mem_cons_of_mem _ h)
  have hown : s.vm.findClass RM = some m.cls := findClass_of_methodNamed B.named
  have hlk := B.notSynchronized
  have hS : va_S (gA sz) s.heap s.heap [] := va_S.rf
  have hH : gW D c sz ad k I J P LG LP s.heap := hH
  have hl := lv_entry ([.ref (ad (11, 0, 0)), .int a]) (n := 3) (Nat.le_of_ble_eq_true rfl)
  rw [lg_entry_eq]
  generalize (lg_sl ([.ref (ad (11, 0, 0)), .int a]) ++ List.replicate (3 - (lg_sl ([.ref (ad (11, 0, 0)), .int a])).length) Slot.unset).toArray = ls at hl ⊢
  have hl : lv_has ls 3 [(0, .ref (ad (11, 0, 0))), (1, .int a)] := hl
  have key : ∀ (J' : gI), (mDestroy J a).1 = 1 → (mDestroy J a).2 = mLoseN J' a 24 → ∀ (n i : Nat), i + n = 24 → ∀ ls : Array Slot, lv_has ls 3 [(2, .int (nI i)), (0, .ref (ad (11, 0, 0))), (1, .int a)] → ∀ (H : Heap) (locs : List Loc), gW D c sz ad k I (mLoseN J' a i) P LG LP H → va_S (gA sz) s.heap H locs → W p l e (headSpec wM_destroy { frames := 2, cells := 0, slots := 0, locals := 42 }).room s m ([.ref (ad (11, 0, 0)), .int a] : List Value).toArray below meth cd H locs 0 0 (MQ below (va_Qi (fun r u => r = (mDestroy J a).1 ∧ u = (ad, k, I, (mDestroy J a).2, P, LG, LP)) (gB D c sz) (gA sz)) ([.ref (ad (11, 0, 0)), .int a] : List Value).toArray s 0 0 (gA sz)) (F0 m 36 ls []) := by
    intro J' hI1 hI2 n
    induction n with
    | zero =>
      intro i hi ls hl H locs hH hS
      refine lv_iload_n hx hb dM_destroy_36 rfl (lv_at hl 0 rfl) ?_
      refine lv_bipush (v := 24) hx hb dM_destroy_37 (by decide) ?_
      refine lv_icmp_ge hx hb dM_destroy_39 rfl (fun h_1 => ?_) (fun h_1 => ?_)
      · skip
        refine lv_iconst (v := 1) hx hb dM_destroy_125 (by decide) ?_
        exact r_z hx hb hr hlk hK hH hS dM_destroy_126 (by first | exact Or.inl rfl | exact Or.inr rfl | exact bz_01 _ | assumption) (⟨hI1.symm, by rw [hI2, show i = 24 by omega]⟩)
      · exact absurd (show (24 : Int32) ≤ nI i from nI_le (a := 24) (by omega) (by omega)) h_1
    | succ n ih =>
      intro i hi ls hl H locs hH hS
      generalize hJ2 : mLoseN J' a i = J2 at hH
      refine lv_iload_n hx hb dM_destroy_36 rfl (lv_at hl 0 rfl) ?_
      refine lv_bipush (v := 24) hx hb dM_destroy_37 (by decide) ?_
      refine lv_icmp_ge hx hb dM_destroy_39 rfl (fun h_2 => ?_) (fun h_2 => ?_)
      · exact absurd h_2 (nI_ge (b := 24) (show i < 24 by omega) (by decide))
      · skip
        refine lv_aload_n hx hb dM_destroy_42 rfl (lv_at hl 1 rfl) ?_
        refine s_get hx hb hw inM hown hK hH 1 (by decide) (hw _ (gwd_5 (List.mem_of_getElem? (i := 41) rfl))) (by first | exact ⟨rfl, rfl⟩ | exact ⟨by assumption, rfl⟩ | exact ⟨by assumption, by assumption⟩ | exact ⟨by omega, rfl⟩ | exact ⟨by omega, by omega⟩ | exact ⟨by decide, rfl⟩) rfl rfl rfl rfl dM_destroy_43 ?_
        refine lv_iload_n hx hb dM_destroy_46 rfl (lv_at hl 0 rfl) ?_
        refine m_iald hx hb hK hH (by first | exact ⟨rfl, rfl⟩ | exact ⟨by assumption, rfl⟩ | exact ⟨by assumption, by assumption⟩ | exact ⟨by omega, rfl⟩ | exact ⟨by omega, by omega⟩ | exact ⟨by decide, rfl⟩) rfl _ (by first | rfl | assumption) (show _ < 24 from by omega) (by decide) dM_destroy_47 ?_
        refine lv_iload_n hx hb dM_destroy_48 rfl (lv_at hl 2 rfl) ?_
        refine lv_icmp_eq hx hb dM_destroy_49 rfl (fun h_3 => ?_) (fun h_3 => ?_)
        · skip
          refine lv_aload_n hx hb dM_destroy_73 rfl (lv_at hl 1 rfl) ?_
          refine s_get hx hb hw inM hown hK hH 1 (by decide) (hw _ (gwd_5 (List.mem_of_getElem? (i := 41) rfl))) (by first | exact ⟨rfl, rfl⟩ | exact ⟨by assumption, rfl⟩ | exact ⟨by assumption, by assumption⟩ | exact ⟨by omega, rfl⟩ | exact ⟨by omega, by omega⟩ | exact ⟨by decide, rfl⟩) rfl rfl rfl rfl dM_destroy_74 ?_
          refine lv_iload_n hx hb dM_destroy_77 rfl (lv_at hl 0 rfl) ?_
          refine lv_bipush (v := 8) hx hb dM_destroy_78 (by decide) ?_
          refine m_iast hx hb hK hH hS (by first | exact ⟨rfl, rfl⟩ | exact ⟨by assumption, rfl⟩ | exact ⟨by assumption, by assumption⟩ | exact ⟨by omega, rfl⟩ | exact ⟨by omega, by omega⟩ | exact ⟨by decide, rfl⟩) rfl _ (by first | rfl | assumption) (show _ < 24 from by omega) (by decide) rfl dM_destroy_80 (fun H locs hH hS => ?_)
          refine lv_aload_n hx hb dM_destroy_81 rfl (lv_at hl 1 rfl) ?_
          refine s_get hx hb hw inM hown hK hH 5 (by decide) (hw _ (gwd_5 (List.mem_of_getElem? (i := 45) rfl))) (by first | exact ⟨rfl, rfl⟩ | exact ⟨by assumption, rfl⟩ | exact ⟨by assumption, by assumption⟩ | exact ⟨by omega, rfl⟩ | exact ⟨by omega, by omega⟩ | exact ⟨by decide, rfl⟩) rfl rfl rfl rfl dM_destroy_82 ?_
          refine lv_iload_n hx hb dM_destroy_85 rfl (lv_at hl 0 rfl) ?_
          refine lv_iconst (v := 0) hx hb dM_destroy_86 (by decide) ?_
          refine m_zast hx hb hK hH hS (by first | exact ⟨rfl, rfl⟩ | exact ⟨by assumption, rfl⟩ | exact ⟨by assumption, by assumption⟩ | exact ⟨by omega, rfl⟩ | exact ⟨by omega, by omega⟩ | exact ⟨by decide, rfl⟩) rfl _ (by first | rfl | assumption) (show _ < 24 from by omega) (by decide) (by first | exact Or.inl rfl | exact Or.inr rfl | exact bz_01 _ | assumption) rfl dM_destroy_87 (fun H locs hH hS => ?_)
          refine lv_aload_n hx hb dM_destroy_88 rfl (lv_at hl 1 rfl) ?_
          refine lv_iload_n hx hb dM_destroy_89 rfl (lv_at hl 0 rfl) ?_
          refine s_cvE (va_runV (As := [.int _]) (rest := []) ⟨hx, hb, hml, hown, hw⟩ (c_M_look l  (by omega)) (cwV 1 hw (gd_V (gwd_7 (List.mem_of_getElem? (i := 14) rfl)) (gwd_7 (List.mem_of_getElem? (i := 15) rfl)) (gwd_9 (List.mem_of_getElem? (i := 27) rfl)) (gwd_0 (List.mem_of_getElem? (i := 3) rfl)) (gwd_7 (List.mem_of_getElem? (i := 16) rfl))) rfl rfl rfl (by decide +kernel) ⟨Nat.le_of_ble_eq_true rfl, Nat.le_of_ble_eq_true rfl⟩) (gPre.V (n := (11, 0, 0)) hK hH (by first | exact ⟨rfl, rfl⟩ | exact ⟨by assumption, rfl⟩ | exact ⟨by assumption, by assumption⟩ | exact ⟨by omega, rfl⟩ | exact ⟨by omega, by omega⟩ | exact ⟨by decide, rfl⟩) rfl rfl) rfl rfl hl.1 rfl (lv_room (Nat.le_of_ble_eq_true rfl)) dM_destroy_90 ⟨Nat.zero_le _, Nat.zero_le _⟩) hS (fun H locs hH hS => ?_)
          refine lv_aload_n hx hb dM_destroy_93 rfl (lv_at hl 1 rfl) ?_
          refine s_get hx hb hw inM hown hK hH 3 (by decide) (hw _ (gwd_5 (List.mem_of_getElem? (i := 43) rfl))) (by first | exact ⟨rfl, rfl⟩ | exact ⟨by assumption, rfl⟩ | exact ⟨by assumption, by assumption⟩ | exact ⟨by omega, rfl⟩ | exact ⟨by omega, by omega⟩ | exact ⟨by decide, rfl⟩) rfl rfl rfl rfl dM_destroy_94 ?_
          refine lv_iload_n hx hb dM_destroy_97 rfl (lv_at hl 0 rfl) ?_
          refine lv_aload_n hx hb dM_destroy_98 rfl (lv_at hl 1 rfl) ?_
          refine s_get hx hb hw inM hown hK hH 3 (by decide) (hw _ (gwd_5 (List.mem_of_getElem? (i := 43) rfl))) (by first | exact ⟨rfl, rfl⟩ | exact ⟨by assumption, rfl⟩ | exact ⟨by assumption, by assumption⟩ | exact ⟨by omega, rfl⟩ | exact ⟨by omega, by omega⟩ | exact ⟨by decide, rfl⟩) rfl rfl rfl rfl dM_destroy_99 ?_
          refine lv_iload_n hx hb dM_destroy_102 rfl (lv_at hl 0 rfl) ?_
          refine m_iald hx hb hK hH (by first | exact ⟨rfl, rfl⟩ | exact ⟨by assumption, rfl⟩ | exact ⟨by assumption, by assumption⟩ | exact ⟨by omega, rfl⟩ | exact ⟨by omega, by omega⟩ | exact ⟨by decide, rfl⟩) rfl _ (by first | rfl | assumption) (show _ < 24 from by omega) (by decide) dM_destroy_103 ?_
          refine lv_iload_n hx hb dM_destroy_104 rfl (lv_at hl 2 rfl) ?_
          refine lv_icmp_ne hx hb dM_destroy_105 rfl (fun h_4 => ?_) (fun h_4 => ?_)
          · skip
            refine lv_aload_n hx hb dM_destroy_112 rfl (lv_at hl 1 rfl) ?_
            refine s_get hx hb hw inM hown hK hH 3 (by decide) (hw _ (gwd_5 (List.mem_of_getElem? (i := 43) rfl))) (by first | exact ⟨rfl, rfl⟩ | exact ⟨by assumption, rfl⟩ | exact ⟨by assumption, by assumption⟩ | exact ⟨by omega, rfl⟩ | exact ⟨by omega, by omega⟩ | exact ⟨by decide, rfl⟩) rfl rfl rfl rfl dM_destroy_113 ?_
            refine lv_iload_n hx hb dM_destroy_116 rfl (lv_at hl 0 rfl) ?_
            refine m_iald hx hb hK hH (by first | exact ⟨rfl, rfl⟩ | exact ⟨by assumption, rfl⟩ | exact ⟨by assumption, by assumption⟩ | exact ⟨by omega, rfl⟩ | exact ⟨by omega, by omega⟩ | exact ⟨by decide, rfl⟩) rfl _ (by first | rfl | assumption) (show _ < 24 from by omega) (by decide) dM_destroy_117 ?_
            refine m_iast hx hb hK hH hS (by first | exact ⟨rfl, rfl⟩ | exact ⟨by assumption, rfl⟩ | exact ⟨by assumption, by assumption⟩ | exact ⟨by omega, rfl⟩ | exact ⟨by omega, by omega⟩ | exact ⟨by decide, rfl⟩) rfl _ (by first | rfl | assumption) (show _ < 24 from by omega) (by decide) rfl dM_destroy_118 (fun H locs hH hS => ?_)
            refine lv_iinc (k := 0) (v := nI (i + 1)) hx hb dM_destroy_119 hl rfl (by rw [nI_succ]; rfl) (by decide) rfl (fun ls hl => ?_)
            have hl : lv_has ls 3 [(2, .int _), (0, .ref _), (1, .int _)] := hl
            refine lv_goto hx hb dM_destroy_122 rfl ?_
            exact ih (i + 1) (by omega) ls (lv_sub hl [0, 1, 2] rfl) H locs (by rw [show mLoseN J' a (i + 1) = mLose (mLoseN J' a i) a i from rfl, hJ2, mLose]; rw [mLose1]; first | (rw [if_pos (Or.inl h_3), if_pos h_4]; exact hH) | (rw [if_pos (Or.inl h_3), if_neg h_4]; exact hH)) hS
          · skip
            refine lv_iconst (v := 0) hx hb dM_destroy_108 (by decide) ?_
            refine lv_goto hx hb dM_destroy_109 rfl ?_
            refine m_iast hx hb hK hH hS (by first | exact ⟨rfl, rfl⟩ | exact ⟨by assumption, rfl⟩ | exact ⟨by assumption, by assumption⟩ | exact ⟨by omega, rfl⟩ | exact ⟨by omega, by omega⟩ | exact ⟨by decide, rfl⟩) rfl _ (by first | rfl | assumption) (show _ < 24 from by omega) (by decide) rfl dM_destroy_118 (fun H locs hH hS => ?_)
            refine lv_iinc (k := 0) (v := nI (i + 1)) hx hb dM_destroy_119 hl rfl (by rw [nI_succ]; rfl) (by decide) rfl (fun ls hl => ?_)
            have hl : lv_has ls 3 [(2, .int _), (0, .ref _), (1, .int _)] := hl
            refine lv_goto hx hb dM_destroy_122 rfl ?_
            exact ih (i + 1) (by omega) ls (lv_sub hl [0, 1, 2] rfl) H locs (by rw [show mLoseN J' a (i + 1) = mLose (mLoseN J' a i) a i from rfl, hJ2, mLose]; rw [mLose1]; first | (rw [if_pos (Or.inl h_3), if_pos h_4]; exact hH) | (rw [if_pos (Or.inl h_3), if_neg h_4]; exact hH)) hS
        · skip
          refine lv_aload_n hx hb dM_destroy_52 rfl (lv_at hl 1 rfl) ?_
          refine s_get hx hb hw inM hown hK hH 1 (by decide) (hw _ (gwd_5 (List.mem_of_getElem? (i := 41) rfl))) (by first | exact ⟨rfl, rfl⟩ | exact ⟨by assumption, rfl⟩ | exact ⟨by assumption, by assumption⟩ | exact ⟨by omega, rfl⟩ | exact ⟨by omega, by omega⟩ | exact ⟨by decide, rfl⟩) rfl rfl rfl rfl dM_destroy_53 ?_
          refine lv_iload_n hx hb dM_destroy_56 rfl (lv_at hl 0 rfl) ?_
          refine m_iald hx hb hK hH (by first | exact ⟨rfl, rfl⟩ | exact ⟨by assumption, rfl⟩ | exact ⟨by assumption, by assumption⟩ | exact ⟨by omega, rfl⟩ | exact ⟨by omega, by omega⟩ | exact ⟨by decide, rfl⟩) rfl _ (by first | rfl | assumption) (show _ < 24 from by omega) (by decide) dM_destroy_57 ?_
          refine lv_bipush (v := 7) hx hb dM_destroy_58 (by decide) ?_
          refine lv_icmp_ne hx hb dM_destroy_60 rfl (fun h_5 => ?_) (fun h_5 => ?_)
          · skip
            refine lv_aload_n hx hb dM_destroy_93 rfl (lv_at hl 1 rfl) ?_
            refine s_get hx hb hw inM hown hK hH 3 (by decide) (hw _ (gwd_5 (List.mem_of_getElem? (i := 43) rfl))) (by first | exact ⟨rfl, rfl⟩ | exact ⟨by assumption, rfl⟩ | exact ⟨by assumption, by assumption⟩ | exact ⟨by omega, rfl⟩ | exact ⟨by omega, by omega⟩ | exact ⟨by decide, rfl⟩) rfl rfl rfl rfl dM_destroy_94 ?_
            refine lv_iload_n hx hb dM_destroy_97 rfl (lv_at hl 0 rfl) ?_
            refine lv_aload_n hx hb dM_destroy_98 rfl (lv_at hl 1 rfl) ?_
            refine s_get hx hb hw inM hown hK hH 3 (by decide) (hw _ (gwd_5 (List.mem_of_getElem? (i := 43) rfl))) (by first | exact ⟨rfl, rfl⟩ | exact ⟨by assumption, rfl⟩ | exact ⟨by assumption, by assumption⟩ | exact ⟨by omega, rfl⟩ | exact ⟨by omega, by omega⟩ | exact ⟨by decide, rfl⟩) rfl rfl rfl rfl dM_destroy_99 ?_
            refine lv_iload_n hx hb dM_destroy_102 rfl (lv_at hl 0 rfl) ?_
            refine m_iald hx hb hK hH (by first | exact ⟨rfl, rfl⟩ | exact ⟨by assumption, rfl⟩ | exact ⟨by assumption, by assumption⟩ | exact ⟨by omega, rfl⟩ | exact ⟨by omega, by omega⟩ | exact ⟨by decide, rfl⟩) rfl _ (by first | rfl | assumption) (show _ < 24 from by omega) (by decide) dM_destroy_103 ?_
            refine lv_iload_n hx hb dM_destroy_104 rfl (lv_at hl 2 rfl) ?_
            refine lv_icmp_ne hx hb dM_destroy_105 rfl (fun h_6 => ?_) (fun h_6 => ?_)
            · skip
              refine lv_aload_n hx hb dM_destroy_112 rfl (lv_at hl 1 rfl) ?_
              refine s_get hx hb hw inM hown hK hH 3 (by decide) (hw _ (gwd_5 (List.mem_of_getElem? (i := 43) rfl))) (by first | exact ⟨rfl, rfl⟩ | exact ⟨by assumption, rfl⟩ | exact ⟨by assumption, by assumption⟩ | exact ⟨by omega, rfl⟩ | exact ⟨by omega, by omega⟩ | exact ⟨by decide, rfl⟩) rfl rfl rfl rfl dM_destroy_113 ?_
              refine lv_iload_n hx hb dM_destroy_116 rfl (lv_at hl 0 rfl) ?_
              refine m_iald hx hb hK hH (by first | exact ⟨rfl, rfl⟩ | exact ⟨by assumption, rfl⟩ | exact ⟨by assumption, by assumption⟩ | exact ⟨by omega, rfl⟩ | exact ⟨by omega, by omega⟩ | exact ⟨by decide, rfl⟩) rfl _ (by first | rfl | assumption) (show _ < 24 from by omega) (by decide) dM_destroy_117 ?_
              refine m_iast hx hb hK hH hS (by first | exact ⟨rfl, rfl⟩ | exact ⟨by assumption, rfl⟩ | exact ⟨by assumption, by assumption⟩ | exact ⟨by omega, rfl⟩ | exact ⟨by omega, by omega⟩ | exact ⟨by decide, rfl⟩) rfl _ (by first | rfl | assumption) (show _ < 24 from by omega) (by decide) rfl dM_destroy_118 (fun H locs hH hS => ?_)
              refine lv_iinc (k := 0) (v := nI (i + 1)) hx hb dM_destroy_119 hl rfl (by rw [nI_succ]; rfl) (by decide) rfl (fun ls hl => ?_)
              have hl : lv_has ls 3 [(2, .int _), (0, .ref _), (1, .int _)] := hl
              refine lv_goto hx hb dM_destroy_122 rfl ?_
              exact ih (i + 1) (by omega) ls (lv_sub hl [0, 1, 2] rfl) H locs (by rw [show mLoseN J' a (i + 1) = mLose (mLoseN J' a i) a i from rfl, hJ2, mLose]; rw [mLose1]; first | (rw [if_neg (fun q => q.elim h_3 (fun q => h_5 q.1)), if_pos h_6]; exact hH) | (rw [if_neg (fun q => q.elim h_3 (fun q => h_5 q.1)), if_neg h_6]; exact hH)) hS
            · skip
              refine lv_iconst (v := 0) hx hb dM_destroy_108 (by decide) ?_
              refine lv_goto hx hb dM_destroy_109 rfl ?_
              refine m_iast hx hb hK hH hS (by first | exact ⟨rfl, rfl⟩ | exact ⟨by assumption, rfl⟩ | exact ⟨by assumption, by assumption⟩ | exact ⟨by omega, rfl⟩ | exact ⟨by omega, by omega⟩ | exact ⟨by decide, rfl⟩) rfl _ (by first | rfl | assumption) (show _ < 24 from by omega) (by decide) rfl dM_destroy_118 (fun H locs hH hS => ?_)
              refine lv_iinc (k := 0) (v := nI (i + 1)) hx hb dM_destroy_119 hl rfl (by rw [nI_succ]; rfl) (by decide) rfl (fun ls hl => ?_)
              have hl : lv_has ls 3 [(2, .int _), (0, .ref _), (1, .int _)] := hl
              refine lv_goto hx hb dM_destroy_122 rfl ?_
              exact ih (i + 1) (by omega) ls (lv_sub hl [0, 1, 2] rfl) H locs (by rw [show mLoseN J' a (i + 1) = mLose (mLoseN J' a i) a i from rfl, hJ2, mLose]; rw [mLose1]; first | (rw [if_neg (fun q => q.elim h_3 (fun q => h_5 q.1)), if_pos h_6]; exact hH) | (rw [if_neg (fun q => q.elim h_3 (fun q => h_5 q.1)), if_neg h_6]; exact hH)) hS
          · skip
            refine lv_aload_n hx hb dM_destroy_63 rfl (lv_at hl 1 rfl) ?_
            refine s_get hx hb hw inM hown hK hH 2 (by decide) (hw _ (gwd_5 (List.mem_of_getElem? (i := 42) rfl))) (by first | exact ⟨rfl, rfl⟩ | exact ⟨by assumption, rfl⟩ | exact ⟨by assumption, by assumption⟩ | exact ⟨by omega, rfl⟩ | exact ⟨by omega, by omega⟩ | exact ⟨by decide, rfl⟩) rfl rfl rfl rfl dM_destroy_64 ?_
            refine lv_iload_n hx hb dM_destroy_67 rfl (lv_at hl 0 rfl) ?_
            refine m_iald hx hb hK hH (by first | exact ⟨rfl, rfl⟩ | exact ⟨by assumption, rfl⟩ | exact ⟨by assumption, by assumption⟩ | exact ⟨by omega, rfl⟩ | exact ⟨by omega, by omega⟩ | exact ⟨by decide, rfl⟩) rfl _ (by first | rfl | assumption) (show _ < 24 from by omega) (by decide) dM_destroy_68 ?_
            refine lv_iload_n hx hb dM_destroy_69 rfl (lv_at hl 2 rfl) ?_
            refine lv_icmp_ne hx hb dM_destroy_70 rfl (fun h_7 => ?_) (fun h_7 => ?_)
            · skip
              refine lv_aload_n hx hb dM_destroy_93 rfl (lv_at hl 1 rfl) ?_
              refine s_get hx hb hw inM hown hK hH 3 (by decide) (hw _ (gwd_5 (List.mem_of_getElem? (i := 43) rfl))) (by first | exact ⟨rfl, rfl⟩ | exact ⟨by assumption, rfl⟩ | exact ⟨by assumption, by assumption⟩ | exact ⟨by omega, rfl⟩ | exact ⟨by omega, by omega⟩ | exact ⟨by decide, rfl⟩) rfl rfl rfl rfl dM_destroy_94 ?_
              refine lv_iload_n hx hb dM_destroy_97 rfl (lv_at hl 0 rfl) ?_
              refine lv_aload_n hx hb dM_destroy_98 rfl (lv_at hl 1 rfl) ?_
              refine s_get hx hb hw inM hown hK hH 3 (by decide) (hw _ (gwd_5 (List.mem_of_getElem? (i := 43) rfl))) (by first | exact ⟨rfl, rfl⟩ | exact ⟨by assumption, rfl⟩ | exact ⟨by assumption, by assumption⟩ | exact ⟨by omega, rfl⟩ | exact ⟨by omega, by omega⟩ | exact ⟨by decide, rfl⟩) rfl rfl rfl rfl dM_destroy_99 ?_
              refine lv_iload_n hx hb dM_destroy_102 rfl (lv_at hl 0 rfl) ?_
              refine m_iald hx hb hK hH (by first | exact ⟨rfl, rfl⟩ | exact ⟨by assumption, rfl⟩ | exact ⟨by assumption, by assumption⟩ | exact ⟨by omega, rfl⟩ | exact ⟨by omega, by omega⟩ | exact ⟨by decide, rfl⟩) rfl _ (by first | rfl | assumption) (show _ < 24 from by omega) (by decide) dM_destroy_103 ?_
              refine lv_iload_n hx hb dM_destroy_104 rfl (lv_at hl 2 rfl) ?_
              refine lv_icmp_ne hx hb dM_destroy_105 rfl (fun h_8 => ?_) (fun h_8 => ?_)
              · skip
                refine lv_aload_n hx hb dM_destroy_112 rfl (lv_at hl 1 rfl) ?_
                refine s_get hx hb hw inM hown hK hH 3 (by decide) (hw _ (gwd_5 (List.mem_of_getElem? (i := 43) rfl))) (by first | exact ⟨rfl, rfl⟩ | exact ⟨by assumption, rfl⟩ | exact ⟨by assumption, by assumption⟩ | exact ⟨by omega, rfl⟩ | exact ⟨by omega, by omega⟩ | exact ⟨by decide, rfl⟩) rfl rfl rfl rfl dM_destroy_113 ?_
                refine lv_iload_n hx hb dM_destroy_116 rfl (lv_at hl 0 rfl) ?_
                refine m_iald hx hb hK hH (by first | exact ⟨rfl, rfl⟩ | exact ⟨by assumption, rfl⟩ | exact ⟨by assumption, by assumption⟩ | exact ⟨by omega, rfl⟩ | exact ⟨by omega, by omega⟩ | exact ⟨by decide, rfl⟩) rfl _ (by first | rfl | assumption) (show _ < 24 from by omega) (by decide) dM_destroy_117 ?_
                refine m_iast hx hb hK hH hS (by first | exact ⟨rfl, rfl⟩ | exact ⟨by assumption, rfl⟩ | exact ⟨by assumption, by assumption⟩ | exact ⟨by omega, rfl⟩ | exact ⟨by omega, by omega⟩ | exact ⟨by decide, rfl⟩) rfl _ (by first | rfl | assumption) (show _ < 24 from by omega) (by decide) rfl dM_destroy_118 (fun H locs hH hS => ?_)
                refine lv_iinc (k := 0) (v := nI (i + 1)) hx hb dM_destroy_119 hl rfl (by rw [nI_succ]; rfl) (by decide) rfl (fun ls hl => ?_)
                have hl : lv_has ls 3 [(2, .int _), (0, .ref _), (1, .int _)] := hl
                refine lv_goto hx hb dM_destroy_122 rfl ?_
                exact ih (i + 1) (by omega) ls (lv_sub hl [0, 1, 2] rfl) H locs (by rw [show mLoseN J' a (i + 1) = mLose (mLoseN J' a i) a i from rfl, hJ2, mLose]; rw [mLose1]; first | (rw [if_pos (Or.inr ⟨h_5, h_7⟩), if_pos h_8]; exact hH) | (rw [if_pos (Or.inr ⟨h_5, h_7⟩), if_neg h_8]; exact hH) | (rw [if_neg (fun q => q.elim h_3 (fun q => h_7 q.2)), if_pos h_8]; exact hH) | (rw [if_neg (fun q => q.elim h_3 (fun q => h_7 q.2)), if_neg h_8]; exact hH)) hS
              · skip
                refine lv_iconst (v := 0) hx hb dM_destroy_108 (by decide) ?_
                refine lv_goto hx hb dM_destroy_109 rfl ?_
                refine m_iast hx hb hK hH hS (by first | exact ⟨rfl, rfl⟩ | exact ⟨by assumption, rfl⟩ | exact ⟨by assumption, by assumption⟩ | exact ⟨by omega, rfl⟩ | exact ⟨by omega, by omega⟩ | exact ⟨by decide, rfl⟩) rfl _ (by first | rfl | assumption) (show _ < 24 from by omega) (by decide) rfl dM_destroy_118 (fun H locs hH hS => ?_)
                refine lv_iinc (k := 0) (v := nI (i + 1)) hx hb dM_destroy_119 hl rfl (by rw [nI_succ]; rfl) (by decide) rfl (fun ls hl => ?_)
                have hl : lv_has ls 3 [(2, .int _), (0, .ref _), (1, .int _)] := hl
                refine lv_goto hx hb dM_destroy_122 rfl ?_
                exact ih (i + 1) (by omega) ls (lv_sub hl [0, 1, 2] rfl) H locs (by rw [show mLoseN J' a (i + 1) = mLose (mLoseN J' a i) a i from rfl, hJ2, mLose]; rw [mLose1]; first | (rw [if_pos (Or.inr ⟨h_5, h_7⟩), if_pos h_8]; exact hH) | (rw [if_pos (Or.inr ⟨h_5, h_7⟩), if_neg h_8]; exact hH) | (rw [if_neg (fun q => q.elim h_3 (fun q => h_7 q.2)), if_pos h_8]; exact hH) | (rw [if_neg (fun q => q.elim h_3 (fun q => h_7 q.2)), if_neg h_8]; exact hH)) hS
            · skip
              refine lv_aload_n hx hb dM_destroy_73 rfl (lv_at hl 1 rfl) ?_
              refine s_get hx hb hw inM hown hK hH 1 (by decide) (hw _ (gwd_5 (List.mem_of_getElem? (i := 41) rfl))) (by first | exact ⟨rfl, rfl⟩ | exact ⟨by assumption, rfl⟩ | exact ⟨by assumption, by assumption⟩ | exact ⟨by omega, rfl⟩ | exact ⟨by omega, by omega⟩ | exact ⟨by decide, rfl⟩) rfl rfl rfl rfl dM_destroy_74 ?_
              refine lv_iload_n hx hb dM_destroy_77 rfl (lv_at hl 0 rfl) ?_
              refine lv_bipush (v := 8) hx hb dM_destroy_78 (by decide) ?_
              refine m_iast hx hb hK hH hS (by first | exact ⟨rfl, rfl⟩ | exact ⟨by assumption, rfl⟩ | exact ⟨by assumption, by assumption⟩ | exact ⟨by omega, rfl⟩ | exact ⟨by omega, by omega⟩ | exact ⟨by decide, rfl⟩) rfl _ (by first | rfl | assumption) (show _ < 24 from by omega) (by decide) rfl dM_destroy_80 (fun H locs hH hS => ?_)
              refine lv_aload_n hx hb dM_destroy_81 rfl (lv_at hl 1 rfl) ?_
              refine s_get hx hb hw inM hown hK hH 5 (by decide) (hw _ (gwd_5 (List.mem_of_getElem? (i := 45) rfl))) (by first | exact ⟨rfl, rfl⟩ | exact ⟨by assumption, rfl⟩ | exact ⟨by assumption, by assumption⟩ | exact ⟨by omega, rfl⟩ | exact ⟨by omega, by omega⟩ | exact ⟨by decide, rfl⟩) rfl rfl rfl rfl dM_destroy_82 ?_
              refine lv_iload_n hx hb dM_destroy_85 rfl (lv_at hl 0 rfl) ?_
              refine lv_iconst (v := 0) hx hb dM_destroy_86 (by decide) ?_
              refine m_zast hx hb hK hH hS (by first | exact ⟨rfl, rfl⟩ | exact ⟨by assumption, rfl⟩ | exact ⟨by assumption, by assumption⟩ | exact ⟨by omega, rfl⟩ | exact ⟨by omega, by omega⟩ | exact ⟨by decide, rfl⟩) rfl _ (by first | rfl | assumption) (show _ < 24 from by omega) (by decide) (by first | exact Or.inl rfl | exact Or.inr rfl | exact bz_01 _ | assumption) rfl dM_destroy_87 (fun H locs hH hS => ?_)
              refine lv_aload_n hx hb dM_destroy_88 rfl (lv_at hl 1 rfl) ?_
              refine lv_iload_n hx hb dM_destroy_89 rfl (lv_at hl 0 rfl) ?_
              refine s_cvE (va_runV (As := [.int _]) (rest := []) ⟨hx, hb, hml, hown, hw⟩ (c_M_look l  (by omega)) (cwV 1 hw (gd_V (gwd_7 (List.mem_of_getElem? (i := 14) rfl)) (gwd_7 (List.mem_of_getElem? (i := 15) rfl)) (gwd_9 (List.mem_of_getElem? (i := 27) rfl)) (gwd_0 (List.mem_of_getElem? (i := 3) rfl)) (gwd_7 (List.mem_of_getElem? (i := 16) rfl))) rfl rfl rfl (by decide +kernel) ⟨Nat.le_of_ble_eq_true rfl, Nat.le_of_ble_eq_true rfl⟩) (gPre.V (n := (11, 0, 0)) hK hH (by first | exact ⟨rfl, rfl⟩ | exact ⟨by assumption, rfl⟩ | exact ⟨by assumption, by assumption⟩ | exact ⟨by omega, rfl⟩ | exact ⟨by omega, by omega⟩ | exact ⟨by decide, rfl⟩) rfl rfl) rfl rfl hl.1 rfl (lv_room (Nat.le_of_ble_eq_true rfl)) dM_destroy_90 ⟨Nat.zero_le _, Nat.zero_le _⟩) hS (fun H locs hH hS => ?_)
              refine lv_aload_n hx hb dM_destroy_93 rfl (lv_at hl 1 rfl) ?_
              refine s_get hx hb hw inM hown hK hH 3 (by decide) (hw _ (gwd_5 (List.mem_of_getElem? (i := 43) rfl))) (by first | exact ⟨rfl, rfl⟩ | exact ⟨by assumption, rfl⟩ | exact ⟨by assumption, by assumption⟩ | exact ⟨by omega, rfl⟩ | exact ⟨by omega, by omega⟩ | exact ⟨by decide, rfl⟩) rfl rfl rfl rfl dM_destroy_94 ?_
              refine lv_iload_n hx hb dM_destroy_97 rfl (lv_at hl 0 rfl) ?_
              refine lv_aload_n hx hb dM_destroy_98 rfl (lv_at hl 1 rfl) ?_
              refine s_get hx hb hw inM hown hK hH 3 (by decide) (hw _ (gwd_5 (List.mem_of_getElem? (i := 43) rfl))) (by first | exact ⟨rfl, rfl⟩ | exact ⟨by assumption, rfl⟩ | exact ⟨by assumption, by assumption⟩ | exact ⟨by omega, rfl⟩ | exact ⟨by omega, by omega⟩ | exact ⟨by decide, rfl⟩) rfl rfl rfl rfl dM_destroy_99 ?_
              refine lv_iload_n hx hb dM_destroy_102 rfl (lv_at hl 0 rfl) ?_
              refine m_iald hx hb hK hH (by first | exact ⟨rfl, rfl⟩ | exact ⟨by assumption, rfl⟩ | exact ⟨by assumption, by assumption⟩ | exact ⟨by omega, rfl⟩ | exact ⟨by omega, by omega⟩ | exact ⟨by decide, rfl⟩) rfl _ (by first | rfl | assumption) (show _ < 24 from by omega) (by decide) dM_destroy_103 ?_
              refine lv_iload_n hx hb dM_destroy_104 rfl (lv_at hl 2 rfl) ?_
              refine lv_icmp_ne hx hb dM_destroy_105 rfl (fun h_9 => ?_) (fun h_9 => ?_)
              · skip
                refine lv_aload_n hx hb dM_destroy_112 rfl (lv_at hl 1 rfl) ?_
                refine s_get hx hb hw inM hown hK hH 3 (by decide) (hw _ (gwd_5 (List.mem_of_getElem? (i := 43) rfl))) (by first | exact ⟨rfl, rfl⟩ | exact ⟨by assumption, rfl⟩ | exact ⟨by assumption, by assumption⟩ | exact ⟨by omega, rfl⟩ | exact ⟨by omega, by omega⟩ | exact ⟨by decide, rfl⟩) rfl rfl rfl rfl dM_destroy_113 ?_
                refine lv_iload_n hx hb dM_destroy_116 rfl (lv_at hl 0 rfl) ?_
                refine m_iald hx hb hK hH (by first | exact ⟨rfl, rfl⟩ | exact ⟨by assumption, rfl⟩ | exact ⟨by assumption, by assumption⟩ | exact ⟨by omega, rfl⟩ | exact ⟨by omega, by omega⟩ | exact ⟨by decide, rfl⟩) rfl _ (by first | rfl | assumption) (show _ < 24 from by omega) (by decide) dM_destroy_117 ?_
                refine m_iast hx hb hK hH hS (by first | exact ⟨rfl, rfl⟩ | exact ⟨by assumption, rfl⟩ | exact ⟨by assumption, by assumption⟩ | exact ⟨by omega, rfl⟩ | exact ⟨by omega, by omega⟩ | exact ⟨by decide, rfl⟩) rfl _ (by first | rfl | assumption) (show _ < 24 from by omega) (by decide) rfl dM_destroy_118 (fun H locs hH hS => ?_)
                refine lv_iinc (k := 0) (v := nI (i + 1)) hx hb dM_destroy_119 hl rfl (by rw [nI_succ]; rfl) (by decide) rfl (fun ls hl => ?_)
                have hl : lv_has ls 3 [(2, .int _), (0, .ref _), (1, .int _)] := hl
                refine lv_goto hx hb dM_destroy_122 rfl ?_
                exact ih (i + 1) (by omega) ls (lv_sub hl [0, 1, 2] rfl) H locs (by rw [show mLoseN J' a (i + 1) = mLose (mLoseN J' a i) a i from rfl, hJ2, mLose]; rw [mLose1]; first | (rw [if_pos (Or.inr ⟨h_5, h_7⟩), if_pos h_9]; exact hH) | (rw [if_pos (Or.inr ⟨h_5, h_7⟩), if_neg h_9]; exact hH) | (rw [if_neg (fun q => q.elim h_3 (fun q => h_7 q.2)), if_pos h_9]; exact hH) | (rw [if_neg (fun q => q.elim h_3 (fun q => h_7 q.2)), if_neg h_9]; exact hH)) hS
              · skip
                refine lv_iconst (v := 0) hx hb dM_destroy_108 (by decide) ?_
                refine lv_goto hx hb dM_destroy_109 rfl ?_
                refine m_iast hx hb hK hH hS (by first | exact ⟨rfl, rfl⟩ | exact ⟨by assumption, rfl⟩ | exact ⟨by assumption, by assumption⟩ | exact ⟨by omega, rfl⟩ | exact ⟨by omega, by omega⟩ | exact ⟨by decide, rfl⟩) rfl _ (by first | rfl | assumption) (show _ < 24 from by omega) (by decide) rfl dM_destroy_118 (fun H locs hH hS => ?_)
                refine lv_iinc (k := 0) (v := nI (i + 1)) hx hb dM_destroy_119 hl rfl (by rw [nI_succ]; rfl) (by decide) rfl (fun ls hl => ?_)
                have hl : lv_has ls 3 [(2, .int _), (0, .ref _), (1, .int _)] := hl
                refine lv_goto hx hb dM_destroy_122 rfl ?_
                exact ih (i + 1) (by omega) ls (lv_sub hl [0, 1, 2] rfl) H locs (by rw [show mLoseN J' a (i + 1) = mLose (mLoseN J' a i) a i from rfl, hJ2, mLose]; rw [mLose1]; first | (rw [if_pos (Or.inr ⟨h_5, h_7⟩), if_pos h_9]; exact hH) | (rw [if_pos (Or.inr ⟨h_5, h_7⟩), if_neg h_9]; exact hH) | (rw [if_neg (fun q => q.elim h_3 (fun q => h_7 q.2)), if_pos h_9]; exact hH) | (rw [if_neg (fun q => q.elim h_3 (fun q => h_7 q.2)), if_neg h_9]; exact hH)) hS
  refine lv_aload_n hx hb dM_destroy_0 rfl (lv_at hl 0 rfl) ?_
  refine lv_iload_n hx hb dM_destroy_1 rfl (lv_at hl 1 rfl) ?_
  refine s_ciE (va_runV (As := [.int _]) (rest := []) ⟨hx, hb, hml, hown, hw⟩ (c_M_isGuest l  (by assumption) (by assumption)) (cwV 1 hw (gd_V (gwd_7 (List.mem_of_getElem? (i := 21) rfl)) (gwd_7 (List.mem_of_getElem? (i := 22) rfl)) (gwd_9 (List.mem_of_getElem? (i := 28) rfl)) (gwd_0 (List.mem_of_getElem? (i := 3) rfl)) (gwd_7 (List.mem_of_getElem? (i := 23) rfl))) rfl rfl rfl (by decide +kernel) ⟨Nat.le_of_ble_eq_true rfl, Nat.le_of_ble_eq_true rfl⟩) (gPre.V (n := (11, 0, 0)) hK hH (by first | exact ⟨rfl, rfl⟩ | exact ⟨by assumption, rfl⟩ | exact ⟨by assumption, by assumption⟩ | exact ⟨by omega, rfl⟩ | exact ⟨by omega, by omega⟩ | exact ⟨by decide, rfl⟩) rfl rfl) rfl rfl hl.1 rfl (lv_room (Nat.le_of_ble_eq_true rfl)) dM_destroy_2 ⟨Nat.zero_le _, Nat.zero_le _⟩) hS (fun H locs hH hS => ?_)
  refine s_ifeq hx hb dM_destroy_5 rfl (fun h_10 => ?_) (fun h_10 => ?_)
  · skip
    refine lv_iconst (v := 0) hx hb dM_destroy_25 (by decide) ?_
    exact r_z hx hb hr hlk hK hH hS dM_destroy_26 (by first | exact Or.inl rfl | exact Or.inr rfl | exact bz_01 _ | assumption) (by first | (rw [mDestroy, if_pos (Or.inl h_10)]; exact ⟨rfl, rfl⟩) | (rw [mDestroy, if_pos (Or.inr ⟨rfl, rfl⟩)]; exact ⟨rfl, rfl⟩))
  · skip
    obtain ⟨ja, hja, rfl⟩ := gst_ix hk (h_10).1 (by rw [← hmd]; exact (h_10).2.1)
    have hia : ix (nI ja) = ja := ix_nI (by omega)
    refine lv_aload_n hx hb dM_destroy_8 rfl (lv_at hl 0 rfl) ?_
    refine s_get hx hb hw inM hown hK hH 13 (by decide) (hw _ (gwd_6 (List.mem_of_getElem? (i := 5) rfl))) (by first | exact ⟨rfl, rfl⟩ | exact ⟨by assumption, rfl⟩ | exact ⟨by assumption, by assumption⟩ | exact ⟨by omega, rfl⟩ | exact ⟨by omega, by omega⟩ | exact ⟨by decide, rfl⟩) rfl rfl rfl rfl dM_destroy_9 ?_
    refine lv_if_lt hx hb dM_destroy_12 rfl (fun h_11 => ?_) (fun h_11 => ?_)
    · skip
      refine lv_aload_n hx hb dM_destroy_27 rfl (lv_at hl 0 rfl) ?_
      refine s_get hx hb hw inM hown hK hH 8 (by decide) (hw _ (gwd_6 (List.mem_of_getElem? (i := 0) rfl))) (by first | exact ⟨rfl, rfl⟩ | exact ⟨by assumption, rfl⟩ | exact ⟨by assumption, by assumption⟩ | exact ⟨by omega, rfl⟩ | exact ⟨by omega, by omega⟩ | exact ⟨by decide, rfl⟩) rfl rfl rfl rfl dM_destroy_28 ?_
      refine lv_iload_n hx hb dM_destroy_31 rfl (lv_at hl 1 rfl) ?_
      refine lv_iconst (v := 0) hx hb dM_destroy_32 (by decide) ?_
      refine m_zast hx hb hK hH hS (by first | exact ⟨rfl, rfl⟩ | exact ⟨by assumption, rfl⟩ | exact ⟨by assumption, by assumption⟩ | exact ⟨by omega, rfl⟩ | exact ⟨by omega, by omega⟩ | exact ⟨by decide, rfl⟩) rfl _ (by first | rfl | assumption) (show _ < 7 from by first | assumption | decide | omega) (by decide) (by first | exact Or.inl rfl | exact Or.inr rfl | exact bz_01 _ | assumption) rfl dM_destroy_33 (fun H locs hH hS => ?_)
      refine lv_iconst (v := 0) hx hb dM_destroy_34 (by decide) ?_
      refine lv_istore_n hx hb dM_destroy_35 rfl hl (by decide) rfl (fun ls hl => ?_)
      have hl : lv_has ls 3 [(2, .int _), (0, .ref _), (1, .int _)] := hl
      exact key (iu J (13, 8, 0) ja 0) (by rw [mDestroy, if_neg (fun q => q.elim (fun q => q h_10) (fun q => q.1 h_11))]) (by rw [mDestroy, if_neg (fun q => q.elim (fun q => q h_10) (fun q => q.1 h_11)), hia]) 24 0 (by omega) ls (lv_sub hl [0, 1, 2] rfl) H locs hH hS
    · skip
      refine lv_aload_n hx hb dM_destroy_15 rfl (lv_at hl 0 rfl) ?_
      refine s_get hx hb hw inM hown hK hH 13 (by decide) (hw _ (gwd_6 (List.mem_of_getElem? (i := 5) rfl))) (by first | exact ⟨rfl, rfl⟩ | exact ⟨by assumption, rfl⟩ | exact ⟨by assumption, by assumption⟩ | exact ⟨by omega, rfl⟩ | exact ⟨by omega, by omega⟩ | exact ⟨by decide, rfl⟩) rfl rfl rfl rfl dM_destroy_16 ?_
      refine lv_iconst (v := 2) hx hb dM_destroy_19 (by decide) ?_
      refine lv_idiv hx hb dM_destroy_20 (by decide) ?_
      refine lv_iload_n hx hb dM_destroy_21 rfl (lv_at hl 1 rfl) ?_
      refine lv_icmp_ne hx hb dM_destroy_22 rfl (fun h_12 => ?_) (fun h_12 => ?_)
      · skip
        refine lv_aload_n hx hb dM_destroy_27 rfl (lv_at hl 0 rfl) ?_
        refine s_get hx hb hw inM hown hK hH 8 (by decide) (hw _ (gwd_6 (List.mem_of_getElem? (i := 0) rfl))) (by first | exact ⟨rfl, rfl⟩ | exact ⟨by assumption, rfl⟩ | exact ⟨by assumption, by assumption⟩ | exact ⟨by omega, rfl⟩ | exact ⟨by omega, by omega⟩ | exact ⟨by decide, rfl⟩) rfl rfl rfl rfl dM_destroy_28 ?_
        refine lv_iload_n hx hb dM_destroy_31 rfl (lv_at hl 1 rfl) ?_
        refine lv_iconst (v := 0) hx hb dM_destroy_32 (by decide) ?_
        refine m_zast hx hb hK hH hS (by first | exact ⟨rfl, rfl⟩ | exact ⟨by assumption, rfl⟩ | exact ⟨by assumption, by assumption⟩ | exact ⟨by omega, rfl⟩ | exact ⟨by omega, by omega⟩ | exact ⟨by decide, rfl⟩) rfl _ (by first | rfl | assumption) (show _ < 7 from by first | assumption | decide | omega) (by decide) (by first | exact Or.inl rfl | exact Or.inr rfl | exact bz_01 _ | assumption) rfl dM_destroy_33 (fun H locs hH hS => ?_)
        refine lv_iconst (v := 0) hx hb dM_destroy_34 (by decide) ?_
        refine lv_istore_n hx hb dM_destroy_35 rfl hl (by decide) rfl (fun ls hl => ?_)
        have hl : lv_has ls 3 [(2, .int _), (0, .ref _), (1, .int _)] := hl
        exact key (iu J (13, 8, 0) ja 0) (by rw [mDestroy, if_neg (fun q => q.elim (fun q => q h_10) (fun q => h_12 q.2))]) (by rw [mDestroy, if_neg (fun q => q.elim (fun q => q h_10) (fun q => h_12 q.2)), hia]) 24 0 (by omega) ls (lv_sub hl [0, 1, 2] rfl) H locs hH hS
      · skip
        refine lv_iconst (v := 0) hx hb dM_destroy_25 (by decide) ?_
        exact r_z hx hb hr hlk hK hH hS dM_destroy_26 (by first | exact Or.inl rfl | exact Or.inr rfl | exact bz_01 _ | assumption) (by first | (rw [mDestroy, if_pos (Or.inl h_10)]; exact ⟨rfl, rfl⟩) | (rw [mDestroy, if_pos (Or.inr ⟨h_11, h_12⟩)]; exact ⟨rfl, rfl⟩))
set_option maxHeartbeats 4000000 in
set_option maxRecDepth 100000 in
theorem c_M_load (l : Launch) {D : va_G} {c : Nat → ClassId} {sz : Nat} {ad : gN → Nat} {k : Nat} {I J : gI} {P : gP} {LG : Option Nat} {LP : Option (Nat × Nat)} {a v : Int32} (hk : k ≤ 6) (hmd : J (11, 0, 0) 7 = nI k) : Met l yM_load wM_load { frames := 1, cells := 0, slots := 0, locals := 21 } (gPre D c sz [.ref (ad (11, 0, 0)), .int a, .int v] (ad, k, I, J, P, LG, LP)) (va_Qi (fun r u => r = (mLoad J a v).1 ∧ u = (ad, k, I, (mLoad J a v).2, P, LG, LP)) (gB D c sz) (gA sz)) 0 0 (gA sz) := by
  refine Met.ofW (cc := cM_load) (maxL := 3) (ret := (some .boolean)) (by decide) rfl ?_
  intro p e s m args below meth cd s₁ B hml hv
  obtain ⟨rfl, hK, hH⟩ := hv
  have hx := B.exec
  have hb := B.bytes
  have hr := B.returns
  have hts := atoms_spec (ws := wM_load) B.pre
  have hw : ∀ w ∈ gWd, w.before _ s = true := fun w h => hts w (List.mem_cons_of_mem _ h)
  have hown : s.vm.findClass RM = some m.cls := findClass_of_methodNamed B.named
  have hlk := B.notSynchronized
  have hS : va_S (gA sz) s.heap s.heap [] := va_S.rf
  have hH : gW D c sz ad k I J P LG LP s.heap := hH
  have hl := lv_entry ([.ref (ad (11, 0, 0)), .int a, .int v]) (n := 3) (Nat.le_of_ble_eq_true rfl)
  rw [lg_entry_eq]
  generalize (lg_sl ([.ref (ad (11, 0, 0)), .int a, .int v]) ++ List.replicate (3 - (lg_sl ([.ref (ad (11, 0, 0)), .int a, .int v])).length) Slot.unset).toArray = ls at hl ⊢
  have hl : lv_has ls 3 [(0, .ref (ad (11, 0, 0))), (1, .int a), (2, .int v)] := hl
  refine lv_aload_n hx hb dM_load_0 rfl (lv_at hl 0 rfl) ?_
  refine s_get hx hb hw inM hown hK hH 13 (by decide) (hw _ (gwd_6 (List.mem_of_getElem? (i := 5) rfl))) (by first | exact ⟨rfl, rfl⟩ | exact ⟨by assumption, rfl⟩ | exact ⟨by assumption, by assumption⟩ | exact ⟨by omega, rfl⟩ | exact ⟨by omega, by omega⟩ | exact ⟨by decide, rfl⟩) rfl rfl rfl rfl dM_load_1 ?_
  refine lv_if_ge hx hb dM_load_4 rfl (fun h_1 => ?_) (fun h_1 => ?_)
  · skip
    refine lv_iconst (v := 0) hx hb dM_load_24 (by decide) ?_
    exact r_z hx hb hr hlk hK hH hS dM_load_25 (by first | exact Or.inl rfl | exact Or.inr rfl | exact bz_01 _ | assumption) (by first | (rw [mLoad, if_pos (Or.inl h_1)]; exact ⟨rfl, rfl⟩) | (rw [mLoad, if_pos (Or.inr (Or.inl rfl))]; exact ⟨rfl, rfl⟩) | (rw [mLoad, if_pos (Or.inr (Or.inr (Or.inl rfl)))]; exact ⟨rfl, rfl⟩) | (rw [mLoad, if_pos (Or.inr (Or.inr (Or.inr rfl)))]; exact ⟨rfl, rfl⟩) | (rw [mLoad, if_neg (fun q => q.elim h_1 (fun q => q.elim (fun q => q rfl) (fun q => q.elim rfl (fun q => q rfl)))), hia]; exact ⟨rfl, rfl⟩))
  · skip
    refine lv_aload_n hx hb dM_load_7 rfl (lv_at hl 0 rfl) ?_
    refine lv_iload_n hx hb dM_load_8 rfl (lv_at hl 1 rfl) ?_
    refine s_ciE (va_runV (As := [.int _]) (rest := []) ⟨hx, hb, hml, hown, hw⟩ (c_M_isGuest l  (by assumption) (by assumption)) (cwV 1 hw (gd_V (gwd_7 (List.mem_of_getElem? (i := 21) rfl)) (gwd_7 (List.mem_of_getElem? (i := 22) rfl)) (gwd_9 (List.mem_of_getElem? (i := 28) rfl)) (gwd_0 (List.mem_of_getElem? (i := 3) rfl)) (gwd_7 (List.mem_of_getElem? (i := 23) rfl))) rfl rfl rfl (by decide +kernel) ⟨Nat.le_of_ble_eq_true rfl, Nat.le_of_ble_eq_true rfl⟩) (gPre.V (n := (11, 0, 0)) hK hH (by first | exact ⟨rfl, rfl⟩ | exact ⟨by assumption, rfl⟩ | exact ⟨by assumption, by assumption⟩ | exact ⟨by omega, rfl⟩ | exact ⟨by omega, by omega⟩ | exact ⟨by decide, rfl⟩) rfl rfl) rfl rfl hl.1 rfl (lv_room (Nat.le_of_ble_eq_true rfl)) dM_load_9 ⟨Nat.zero_le _, Nat.zero_le _⟩) hS (fun H locs hH hS => ?_)
    refine s_ifeq hx hb dM_load_12 rfl (fun h_2 => ?_) (fun h_2 => ?_)
    · skip
      refine lv_iconst (v := 0) hx hb dM_load_24 (by decide) ?_
      exact r_z hx hb hr hlk hK hH hS dM_load_25 (by first | exact Or.inl rfl | exact Or.inr rfl | exact bz_01 _ | assumption) (by first | (rw [mLoad, if_pos (Or.inl h_1)]; exact ⟨rfl, rfl⟩) | (rw [mLoad, if_pos (Or.inr (Or.inl h_2))]; exact ⟨rfl, rfl⟩) | (rw [mLoad, if_pos (Or.inr (Or.inr (Or.inl rfl)))]; exact ⟨rfl, rfl⟩) | (rw [mLoad, if_pos (Or.inr (Or.inr (Or.inr rfl)))]; exact ⟨rfl, rfl⟩) | (rw [mLoad, if_neg (fun q => q.elim h_1 (fun q => q.elim (fun q => q h_2) (fun q => q.elim rfl (fun q => q rfl)))), hia]; exact ⟨rfl, rfl⟩))
    · skip
      refine lv_iload_n hx hb dM_load_15 rfl (lv_at hl 2 rfl) ?_
      refine lv_if_lt hx hb dM_load_16 rfl (fun h_3 => ?_) (fun h_3 => ?_)
      · skip
        refine lv_iconst (v := 0) hx hb dM_load_24 (by decide) ?_
        exact r_z hx hb hr hlk hK hH hS dM_load_25 (by first | exact Or.inl rfl | exact Or.inr rfl | exact bz_01 _ | assumption) (by first | (rw [mLoad, if_pos (Or.inl h_1)]; exact ⟨rfl, rfl⟩) | (rw [mLoad, if_pos (Or.inr (Or.inl h_2))]; exact ⟨rfl, rfl⟩) | (rw [mLoad, if_pos (Or.inr (Or.inr (Or.inl h_3)))]; exact ⟨rfl, rfl⟩) | (rw [mLoad, if_pos (Or.inr (Or.inr (Or.inr rfl)))]; exact ⟨rfl, rfl⟩) | (rw [mLoad, if_neg (fun q => q.elim h_1 (fun q => q.elim (fun q => q h_2) (fun q => q.elim h_3 (fun q => q rfl)))), hia]; exact ⟨rfl, rfl⟩))
      · skip
        refine lv_iload_n hx hb dM_load_19 rfl (lv_at hl 2 rfl) ?_
        refine lv_iconst (v := 1) hx hb dM_load_20 (by decide) ?_
        refine lv_icmp_le hx hb dM_load_21 rfl (fun h_4 => ?_) (fun h_4 => ?_)
        · skip
          obtain ⟨ja, hja, rfl⟩ := gst_ix hk (h_2).1 (by rw [← hmd]; exact (h_2).2.1)
          have hia : ix (nI ja) = ja := ix_nI (by omega)
          refine lv_aload_n hx hb dM_load_26 rfl (lv_at hl 0 rfl) ?_
          refine lv_iconst (v := 2) hx hb dM_load_27 (by decide) ?_
          refine lv_iload_n hx hb dM_load_28 rfl (lv_at hl 1 rfl) ?_
          refine lv_imul hx hb dM_load_29 ?_
          refine lv_iload_n hx hb dM_load_30 rfl (lv_at hl 2 rfl) ?_
          refine lv_iadd hx hb dM_load_31 ?_
          refine m_put hx hb hw inM tyM_ok nM hown hK hH hS 13 (by decide) (hw _ (gwd_6 (List.mem_of_getElem? (i := 5) rfl))) (by first | exact ⟨rfl, rfl⟩ | exact ⟨by assumption, rfl⟩ | exact ⟨by assumption, by assumption⟩ | exact ⟨by omega, rfl⟩ | exact ⟨by omega, by omega⟩ | exact ⟨by decide, rfl⟩) rfl rfl rfl rfl rfl rfl rfl (Nat.le_of_ble_eq_true rfl) rfl dM_load_32 (fun H locs hH hS => ?_)
          refine lv_aload_n hx hb dM_load_35 rfl (lv_at hl 0 rfl) ?_
          refine s_get hx hb hw inM hown hK hH 9 (by decide) (hw _ (gwd_6 (List.mem_of_getElem? (i := 1) rfl))) (by first | exact ⟨rfl, rfl⟩ | exact ⟨by assumption, rfl⟩ | exact ⟨by assumption, by assumption⟩ | exact ⟨by omega, rfl⟩ | exact ⟨by omega, by omega⟩ | exact ⟨by decide, rfl⟩) rfl rfl rfl rfl dM_load_36 ?_
          refine lv_iload_n hx hb dM_load_39 rfl (lv_at hl 1 rfl) ?_
          refine lv_iconst (v := 1) hx hb dM_load_40 (by decide) ?_
          refine m_zast hx hb hK hH hS (by first | exact ⟨rfl, rfl⟩ | exact ⟨by assumption, rfl⟩ | exact ⟨by assumption, by assumption⟩ | exact ⟨by omega, rfl⟩ | exact ⟨by omega, by omega⟩ | exact ⟨by decide, rfl⟩) rfl _ (by first | rfl | assumption) (show _ < 7 from by first | assumption | decide | omega) (by decide) (by first | exact Or.inl rfl | exact Or.inr rfl | exact bz_01 _ | assumption) rfl dM_load_41 (fun H locs hH hS => ?_)
          refine lv_iconst (v := 1) hx hb dM_load_42 (by decide) ?_
          exact r_z hx hb hr hlk hK hH hS dM_load_43 (by first | exact Or.inl rfl | exact Or.inr rfl | exact bz_01 _ | assumption) (by first | (rw [mLoad, if_pos (Or.inl h_1)]; exact ⟨rfl, rfl⟩) | (rw [mLoad, if_pos (Or.inr (Or.inl h_2))]; exact ⟨rfl, rfl⟩) | (rw [mLoad, if_pos (Or.inr (Or.inr (Or.inl h_3)))]; exact ⟨rfl, rfl⟩) | (rw [mLoad, if_pos (Or.inr (Or.inr (Or.inr h_4)))]; exact ⟨rfl, rfl⟩) | (rw [mLoad, if_neg (fun q => q.elim h_1 (fun q => q.elim (fun q => q h_2) (fun q => q.elim h_3 (fun q => q h_4)))), hia]; exact ⟨rfl, rfl⟩))
        · skip
          refine lv_iconst (v := 0) hx hb dM_load_24 (by decide) ?_
          exact r_z hx hb hr hlk hK hH hS dM_load_25 (by first | exact Or.inl rfl | exact Or.inr rfl | exact bz_01 _ | assumption) (by first | (rw [mLoad, if_pos (Or.inl h_1)]; exact ⟨rfl, rfl⟩) | (rw [mLoad, if_pos (Or.inr (Or.inl h_2))]; exact ⟨rfl, rfl⟩) | (rw [mLoad, if_pos (Or.inr (Or.inr (Or.inl h_3)))]; exact ⟨rfl, rfl⟩) | (rw [mLoad, if_pos (Or.inr (Or.inr (Or.inr h_4)))]; exact ⟨rfl, rfl⟩) | (rw [mLoad, if_neg (fun q => q.elim h_1 (fun q => q.elim (fun q => q h_2) (fun q => q.elim h_3 (fun q => q h_4)))), hia]; exact ⟨rfl, rfl⟩))
set_option maxHeartbeats 4000000 in
set_option maxRecDepth 100000 in
theorem c_M_put (l : Launch) {D : va_G} {c : Nat → ClassId} {sz : Nat} {ad : gN → Nat} {k : Nat} {I J : gI} {P : gP} {LG : Option Nat} {LP : Option (Nat × Nat)}   : Met l yM_put wM_put { frames := 0, cells := 0, slots := 0, locals := 0 } (gPre D c sz [.ref (ad (11, 0, 0))] (ad, k, I, J, P, LG, LP)) (va_Qi (fun r u => r = (mPut J).1 ∧ u = (ad, k, I, (mPut J).2, P, LG, LP)) (gB D c sz) (gA sz)) 0 0 (gA sz) := by
  refine Met.ofW (cc := cM_put) (maxL := 2) (ret := (some .boolean)) (by decide) rfl ?_
  intro p e s m args below meth cd s₁ B hml hv
  obtain ⟨rfl, hK, hH⟩ := hv
  have hx := B.exec
  have hb := B.bytes
  have hr := B.returns
  have hts := atoms_spec (ws := wM_put) B.pre
  have hw : ∀ w ∈ gWd, w.before _ s = true := fun w h => hts w (List.mem_cons_of_mem _ h)
  have hown : s.vm.findClass RM = some m.cls := findClass_of_methodNamed B.named
  have hlk := B.notSynchronized
  have hS : va_S (gA sz) s.heap s.heap [] := va_S.rf
  have hH : gW D c sz ad k I J P LG LP s.heap := hH
  have hl := lv_entry ([.ref (ad (11, 0, 0))]) (n := 2) (Nat.le_of_ble_eq_true rfl)
  rw [lg_entry_eq]
  generalize (lg_sl ([.ref (ad (11, 0, 0))]) ++ List.replicate (2 - (lg_sl ([.ref (ad (11, 0, 0))])).length) Slot.unset).toArray = ls at hl ⊢
  have hl : lv_has ls 2 [(0, .ref (ad (11, 0, 0)))] := hl
  refine lv_aload_n hx hb dM_put_0 rfl (lv_at hl 0 rfl) ?_
  refine s_get hx hb hw inM hown hK hH 13 (by decide) (hw _ (gwd_6 (List.mem_of_getElem? (i := 5) rfl))) (by first | exact ⟨rfl, rfl⟩ | exact ⟨by assumption, rfl⟩ | exact ⟨by assumption, by assumption⟩ | exact ⟨by omega, rfl⟩ | exact ⟨by omega, by omega⟩ | exact ⟨by decide, rfl⟩) rfl rfl rfl rfl dM_put_1 ?_
  refine lv_if_lt hx hb dM_put_4 rfl (fun h_1 => ?_) (fun h_1 => ?_)
  · skip
    refine lv_iconst (v := 0) hx hb dM_put_11 (by decide) ?_
    refine lv_istore_n hx hb dM_put_12 rfl hl (by decide) rfl (fun ls hl => ?_)
    have hl : lv_has ls 2 [(1, .int _), (0, .ref _)] := hl
    refine lv_aload_n hx hb dM_put_13 rfl (lv_at hl 1 rfl) ?_
    refine lv_iconst (v := -1) hx hb dM_put_14 (by decide) ?_
    refine m_put hx hb hw inM tyM_ok nM hown hK hH hS 13 (by decide) (hw _ (gwd_6 (List.mem_of_getElem? (i := 5) rfl))) (by first | exact ⟨rfl, rfl⟩ | exact ⟨by assumption, rfl⟩ | exact ⟨by assumption, by assumption⟩ | exact ⟨by omega, rfl⟩ | exact ⟨by omega, by omega⟩ | exact ⟨by decide, rfl⟩) rfl rfl rfl rfl rfl rfl rfl (Nat.le_of_ble_eq_true rfl) rfl dM_put_15 (fun H locs hH hS => ?_)
    refine lv_iload_n hx hb dM_put_18 rfl (lv_at hl 0 rfl) ?_
    exact r_z hx hb hr hlk hK hH hS dM_put_19 (by first | exact Or.inl rfl | exact Or.inr rfl | exact bz_01 _ | assumption) (by simp [mPut, h_1])
  · skip
    refine lv_iconst (v := 1) hx hb dM_put_7 (by decide) ?_
    refine lv_goto hx hb dM_put_8 rfl ?_
    refine lv_istore_n hx hb dM_put_12 rfl hl (by decide) rfl (fun ls hl => ?_)
    have hl : lv_has ls 2 [(1, .int _), (0, .ref _)] := hl
    refine lv_aload_n hx hb dM_put_13 rfl (lv_at hl 1 rfl) ?_
    refine lv_iconst (v := -1) hx hb dM_put_14 (by decide) ?_
    refine m_put hx hb hw inM tyM_ok nM hown hK hH hS 13 (by decide) (hw _ (gwd_6 (List.mem_of_getElem? (i := 5) rfl))) (by first | exact ⟨rfl, rfl⟩ | exact ⟨by assumption, rfl⟩ | exact ⟨by assumption, by assumption⟩ | exact ⟨by omega, rfl⟩ | exact ⟨by omega, by omega⟩ | exact ⟨by decide, rfl⟩) rfl rfl rfl rfl rfl rfl rfl (Nat.le_of_ble_eq_true rfl) rfl dM_put_15 (fun H locs hH hS => ?_)
    refine lv_iload_n hx hb dM_put_18 rfl (lv_at hl 0 rfl) ?_
    exact r_z hx hb hr hlk hK hH hS dM_put_19 (by first | exact Or.inl rfl | exact Or.inr rfl | exact bz_01 _ | assumption) (by simp [mPut, h_1])
set_option maxHeartbeats 4000000 in
set_option maxRecDepth 100000 in
theorem c_M_set (l : Launch) {D : va_G} {c : Nat → ClassId} {sz : Nat} {ad : gN → Nat} {k : Nat} {I J : gI} {P : gP} {LG : Option Nat} {LP : Option (Nat × Nat)} {x y : Int32}  : Met l yM_set wM_set { frames := 0, cells := 0, slots := 0, locals := 0 } (gPre D c sz [.ref (ad (11, 0, 0)), .int x, .int y] (ad, k, I, J, P, LG, LP)) (va_Qi (fun r u => r = (mSet J x y).1 ∧ u = (ad, k, I, (mSet J x y).2, P, LG, LP)) (gB D c sz) (gA sz)) 0 0 (gA sz) := by
  refine Met.ofW (cc := cM_set) (maxL := 3) (ret := (some .boolean)) (by decide) rfl ?_
  intro p e s m args below meth cd s₁ B hml hv
  obtain ⟨rfl, hK, hH⟩ := hv
  have hx := B.exec
  have hb := B.bytes
  have hr := B.returns
  have hts := atoms_spec (ws := wM_set) B.pre
  have hw : ∀ w ∈ gWd, w.before _ s = true := fun w h => hts w (List.mem_cons_of_mem _ h)
  have hown : s.vm.findClass RM = some m.cls := findClass_of_methodNamed B.named
  have hlk := B.notSynchronized
  have hS : va_S (gA sz) s.heap s.heap [] := va_S.rf
  have hH : gW D c sz ad k I J P LG LP s.heap := hH
  have hl := lv_entry ([.ref (ad (11, 0, 0)), .int x, .int y]) (n := 3) (Nat.le_of_ble_eq_true rfl)
  rw [lg_entry_eq]
  generalize (lg_sl ([.ref (ad (11, 0, 0)), .int x, .int y]) ++ List.replicate (3 - (lg_sl ([.ref (ad (11, 0, 0)), .int x, .int y])).length) Slot.unset).toArray = ls at hl ⊢
  have hl : lv_has ls 3 [(0, .ref (ad (11, 0, 0))), (1, .int x), (2, .int y)] := hl
  refine lv_iload_n hx hb dM_set_0 rfl (lv_at hl 1 rfl) ?_
  refine lv_if_lt hx hb dM_set_1 rfl (fun h_1 => ?_) (fun h_1 => ?_)
  · skip
    refine lv_iconst (v := 0) hx hb dM_set_16 (by decide) ?_
    exact r_z hx hb hr hlk hK hH hS dM_set_17 (by first | exact Or.inl rfl | exact Or.inr rfl | exact bz_01 _ | assumption) (by first | (rw [mSet, if_pos (Or.inl h_1)]; exact ⟨rfl, rfl⟩) | (rw [mSet, if_pos (Or.inr (Or.inl rfl))]; exact ⟨rfl, rfl⟩) | (rw [mSet, if_pos (Or.inr (Or.inr rfl))]; exact ⟨rfl, rfl⟩) | (rw [mSet, if_neg (fun q => q.elim h_1 (fun q => q.elim rfl (fun q => q rfl))), hi2]; exact ⟨rfl, rfl⟩))
  · skip
    refine lv_iload_n hx hb dM_set_4 rfl (lv_at hl 1 rfl) ?_
    refine lv_iconst (v := 3) hx hb dM_set_5 (by decide) ?_
    refine lv_icmp_gt hx hb dM_set_6 rfl (fun h_2 => ?_) (fun h_2 => ?_)
    · skip
      refine lv_iconst (v := 0) hx hb dM_set_16 (by decide) ?_
      exact r_z hx hb hr hlk hK hH hS dM_set_17 (by first | exact Or.inl rfl | exact Or.inr rfl | exact bz_01 _ | assumption) (by first | (rw [mSet, if_pos (Or.inl h_1)]; exact ⟨rfl, rfl⟩) | (rw [mSet, if_pos (Or.inr (Or.inl h_2))]; exact ⟨rfl, rfl⟩) | (rw [mSet, if_pos (Or.inr (Or.inr rfl))]; exact ⟨rfl, rfl⟩) | (rw [mSet, if_neg (fun q => q.elim h_1 (fun q => q.elim h_2 (fun q => q rfl))), hi2]; exact ⟨rfl, rfl⟩))
    · skip
      obtain ⟨i4, hi4, rfl⟩ := ix_le 3 3 rfl (by decide) h_1 (Int32.not_lt.mp h_2)
      have hi2 : ix (nI i4) = i4 := ix_nI (by omega)
      refine lv_aload_n hx hb dM_set_9 rfl (lv_at hl 0 rfl) ?_
      refine s_get hx hb hw inM hown hK hH 13 (by decide) (hw _ (gwd_6 (List.mem_of_getElem? (i := 5) rfl))) (by first | exact ⟨rfl, rfl⟩ | exact ⟨by assumption, rfl⟩ | exact ⟨by assumption, by assumption⟩ | exact ⟨by omega, rfl⟩ | exact ⟨by omega, by omega⟩ | exact ⟨by decide, rfl⟩) rfl rfl rfl rfl dM_set_10 ?_
      refine lv_if_lt hx hb dM_set_13 rfl (fun h_3 => ?_) (fun h_3 => ?_)
      · skip
        refine lv_aload_n hx hb dM_set_18 rfl (lv_at hl 0 rfl) ?_
        refine s_get hx hb hw inM hown hK hH 15 (by decide) (hw _ (gwd_6 (List.mem_of_getElem? (i := 7) rfl))) (by first | exact ⟨rfl, rfl⟩ | exact ⟨by assumption, rfl⟩ | exact ⟨by assumption, by assumption⟩ | exact ⟨by omega, rfl⟩ | exact ⟨by omega, by omega⟩ | exact ⟨by decide, rfl⟩) rfl rfl rfl rfl dM_set_19 ?_
        refine lv_iload_n hx hb dM_set_22 rfl (lv_at hl 1 rfl) ?_
        refine lv_iload_n hx hb dM_set_23 rfl (lv_at hl 2 rfl) ?_
        refine m_iast hx hb hK hH hS (by first | exact ⟨rfl, rfl⟩ | exact ⟨by assumption, rfl⟩ | exact ⟨by assumption, by assumption⟩ | exact ⟨by omega, rfl⟩ | exact ⟨by omega, by omega⟩ | exact ⟨by decide, rfl⟩) rfl _ (by first | rfl | assumption) (show _ < 4 from by first | assumption | decide | omega) (by decide) rfl dM_set_24 (fun H locs hH hS => ?_)
        refine lv_iconst (v := 1) hx hb dM_set_25 (by decide) ?_
        exact r_z hx hb hr hlk hK hH hS dM_set_26 (by first | exact Or.inl rfl | exact Or.inr rfl | exact bz_01 _ | assumption) (by first | (rw [mSet, if_pos (Or.inl h_1)]; exact ⟨rfl, rfl⟩) | (rw [mSet, if_pos (Or.inr (Or.inl h_2))]; exact ⟨rfl, rfl⟩) | (rw [mSet, if_pos (Or.inr (Or.inr h_3))]; exact ⟨rfl, rfl⟩) | (rw [mSet, if_neg (fun q => q.elim h_1 (fun q => q.elim h_2 (fun q => q h_3))), hi2]; exact ⟨rfl, rfl⟩))
      · skip
        refine lv_iconst (v := 0) hx hb dM_set_16 (by decide) ?_
        exact r_z hx hb hr hlk hK hH hS dM_set_17 (by first | exact Or.inl rfl | exact Or.inr rfl | exact bz_01 _ | assumption) (by first | (rw [mSet, if_pos (Or.inl h_1)]; exact ⟨rfl, rfl⟩) | (rw [mSet, if_pos (Or.inr (Or.inl h_2))]; exact ⟨rfl, rfl⟩) | (rw [mSet, if_pos (Or.inr (Or.inr h_3))]; exact ⟨rfl, rfl⟩) | (rw [mSet, if_neg (fun q => q.elim h_1 (fun q => q.elim h_2 (fun q => q h_3))), hi2]; exact ⟨rfl, rfl⟩))
set_option maxHeartbeats 4000000 in
set_option maxRecDepth 100000 in
theorem c_M_register (l : Launch) {D : va_G} {c : Nat → ClassId} {sz : Nat} {ad : gN → Nat} {k : Nat} {I J : gI} {P : gP} {LG : Option Nat} {LP : Option (Nat × Nat)} {x : Int32}  : Met l yM_register wM_register { frames := 0, cells := 0, slots := 0, locals := 0 } (gPre D c sz [.ref (ad (11, 0, 0)), .int x] (ad, k, I, J, P, LG, LP)) (va_Qi (fun r u => r = mReg J x ∧ u = (ad, k, I, J, P, LG, LP)) (gB D c sz) (gA sz)) 0 0 (gA sz) := by
  refine Met.ofW (cc := cM_register) (maxL := 2) (ret := (some .int)) (by decide) rfl ?_
  intro p e s m args below meth cd s₁ B hml hv
  obtain ⟨rfl, hK, hH⟩ := hv
  have hx := B.exec
  have hb := B.bytes
  have hr := B.returns
  have hts := atoms_spec (ws := wM_register) B.pre
  have hw : ∀ w ∈ gWd, w.before _ s = true := fun w h => hts w (List.mem_cons_of_mem _ h)
  have hown : s.vm.findClass RM = some m.cls := findClass_of_methodNamed B.named
  have hlk := B.notSynchronized
  have hS : va_S (gA sz) s.heap s.heap [] := va_S.rf
  have hH : gW D c sz ad k I J P LG LP s.heap := hH
  have hl := lv_entry ([.ref (ad (11, 0, 0)), .int x]) (n := 2) (Nat.le_of_ble_eq_true rfl)
  rw [lg_entry_eq]
  generalize (lg_sl ([.ref (ad (11, 0, 0)), .int x]) ++ List.replicate (2 - (lg_sl ([.ref (ad (11, 0, 0)), .int x])).length) Slot.unset).toArray = ls at hl ⊢
  have hl : lv_has ls 2 [(0, .ref (ad (11, 0, 0))), (1, .int x)] := hl
  refine lv_iload_n hx hb dM_register_0 rfl (lv_at hl 1 rfl) ?_
  refine lv_if_lt hx hb dM_register_1 rfl (fun h_1 => ?_) (fun h_1 => ?_)
  · skip
    refine lv_iconst (v := 0) hx hb dM_register_16 (by decide) ?_
    refine lv_goto hx hb dM_register_17 rfl ?_
    exact r_i hx hb hr hlk hK hH hS dM_register_26 (by first | (rw [mReg, if_pos (Or.inl h_1)]; exact ⟨rfl, rfl⟩) | (rw [mReg, if_pos (Or.inr (Or.inl rfl))]; exact ⟨rfl, rfl⟩) | (rw [mReg, if_pos (Or.inr (Or.inr rfl))]; exact ⟨rfl, rfl⟩) | (rw [mReg, if_neg (fun q => q.elim h_1 (fun q => q.elim rfl (fun q => q rfl))), hi2]; exact ⟨rfl, rfl⟩))
  · skip
    refine lv_iload_n hx hb dM_register_4 rfl (lv_at hl 1 rfl) ?_
    refine lv_iconst (v := 3) hx hb dM_register_5 (by decide) ?_
    refine lv_icmp_gt hx hb dM_register_6 rfl (fun h_2 => ?_) (fun h_2 => ?_)
    · skip
      refine lv_iconst (v := 0) hx hb dM_register_16 (by decide) ?_
      refine lv_goto hx hb dM_register_17 rfl ?_
      exact r_i hx hb hr hlk hK hH hS dM_register_26 (by first | (rw [mReg, if_pos (Or.inl h_1)]; exact ⟨rfl, rfl⟩) | (rw [mReg, if_pos (Or.inr (Or.inl h_2))]; exact ⟨rfl, rfl⟩) | (rw [mReg, if_pos (Or.inr (Or.inr rfl))]; exact ⟨rfl, rfl⟩) | (rw [mReg, if_neg (fun q => q.elim h_1 (fun q => q.elim h_2 (fun q => q rfl))), hi2]; exact ⟨rfl, rfl⟩))
    · skip
      obtain ⟨i4, hi4, rfl⟩ := ix_le 3 3 rfl (by decide) h_1 (Int32.not_lt.mp h_2)
      have hi2 : ix (nI i4) = i4 := ix_nI (by omega)
      refine lv_aload_n hx hb dM_register_9 rfl (lv_at hl 0 rfl) ?_
      refine s_get hx hb hw inM hown hK hH 13 (by decide) (hw _ (gwd_6 (List.mem_of_getElem? (i := 5) rfl))) (by first | exact ⟨rfl, rfl⟩ | exact ⟨by assumption, rfl⟩ | exact ⟨by assumption, by assumption⟩ | exact ⟨by omega, rfl⟩ | exact ⟨by omega, by omega⟩ | exact ⟨by decide, rfl⟩) rfl rfl rfl rfl dM_register_10 ?_
      refine lv_if_lt hx hb dM_register_13 rfl (fun h_3 => ?_) (fun h_3 => ?_)
      · skip
        refine lv_aload_n hx hb dM_register_20 rfl (lv_at hl 0 rfl) ?_
        refine s_get hx hb hw inM hown hK hH 15 (by decide) (hw _ (gwd_6 (List.mem_of_getElem? (i := 7) rfl))) (by first | exact ⟨rfl, rfl⟩ | exact ⟨by assumption, rfl⟩ | exact ⟨by assumption, by assumption⟩ | exact ⟨by omega, rfl⟩ | exact ⟨by omega, by omega⟩ | exact ⟨by decide, rfl⟩) rfl rfl rfl rfl dM_register_21 ?_
        refine lv_iload_n hx hb dM_register_24 rfl (lv_at hl 1 rfl) ?_
        refine m_iald hx hb hK hH (by first | exact ⟨rfl, rfl⟩ | exact ⟨by assumption, rfl⟩ | exact ⟨by assumption, by assumption⟩ | exact ⟨by omega, rfl⟩ | exact ⟨by omega, by omega⟩ | exact ⟨by decide, rfl⟩) rfl _ (by first | rfl | assumption) (show _ < 4 from by first | assumption | decide | omega) (by decide) dM_register_25 ?_
        exact r_i hx hb hr hlk hK hH hS dM_register_26 (by first | (rw [mReg, if_pos (Or.inl h_1)]; exact ⟨rfl, rfl⟩) | (rw [mReg, if_pos (Or.inr (Or.inl h_2))]; exact ⟨rfl, rfl⟩) | (rw [mReg, if_pos (Or.inr (Or.inr h_3))]; exact ⟨rfl, rfl⟩) | (rw [mReg, if_neg (fun q => q.elim h_1 (fun q => q.elim h_2 (fun q => q h_3))), hi2]; exact ⟨rfl, rfl⟩))
      · skip
        refine lv_iconst (v := 0) hx hb dM_register_16 (by decide) ?_
        refine lv_goto hx hb dM_register_17 rfl ?_
        exact r_i hx hb hr hlk hK hH hS dM_register_26 (by first | (rw [mReg, if_pos (Or.inl h_1)]; exact ⟨rfl, rfl⟩) | (rw [mReg, if_pos (Or.inr (Or.inl h_2))]; exact ⟨rfl, rfl⟩) | (rw [mReg, if_pos (Or.inr (Or.inr h_3))]; exact ⟨rfl, rfl⟩) | (rw [mReg, if_neg (fun q => q.elim h_1 (fun q => q.elim h_2 (fun q => q h_3))), hi2]; exact ⟨rfl, rfl⟩))
set_option maxHeartbeats 4000000 in
set_option maxRecDepth 100000 in
theorem c_M_owner (l : Launch) {D : va_G} {c : Nat → ClassId} {sz : Nat} {ad : gN → Nat} {k : Nat} {I J : gI} {P : gP} {LG : Option Nat} {LP : Option (Nat × Nat)} {x : Int32}  : Met l yM_owner wM_owner { frames := 1, cells := 0, slots := 0, locals := 20 } (gPre D c sz [.ref (ad (11, 0, 0)), .int x] (ad, k, I, J, P, LG, LP)) (va_Qi (fun r u => r = mOwner J x ∧ u = (ad, k, I, J, P, LG, LP)) (gB D c sz) (gA sz)) 0 0 (gA sz) := by
  refine Met.ofW (cc := cM_owner) (maxL := 2) (ret := (some .int)) (by decide) rfl ?_
  intro p e s m args below meth cd s₁ B hml hv
  obtain ⟨rfl, hK, hH⟩ := hv
  have hx := B.exec
  have hb := B.bytes
  have hr := B.returns
  have hts := atoms_spec (ws := wM_owner) B.pre
  have hw : ∀ w ∈ gWd, w.before _ s = true := fun w h => hts w (List.mem_cons_of_mem _ h)
  have hown : s.vm.findClass RM = some m.cls := findClass_of_methodNamed B.named
  have hlk := B.notSynchronized
  have hS : va_S (gA sz) s.heap s.heap [] := va_S.rf
  have hH : gW D c sz ad k I J P LG LP s.heap := hH
  have hl := lv_entry ([.ref (ad (11, 0, 0)), .int x]) (n := 2) (Nat.le_of_ble_eq_true rfl)
  rw [lg_entry_eq]
  generalize (lg_sl ([.ref (ad (11, 0, 0)), .int x]) ++ List.replicate (2 - (lg_sl ([.ref (ad (11, 0, 0)), .int x])).length) Slot.unset).toArray = ls at hl ⊢
  have hl : lv_has ls 2 [(0, .ref (ad (11, 0, 0))), (1, .int x)] := hl
  refine lv_iload_n hx hb dM_owner_0 rfl (lv_at hl 1 rfl) ?_
  refine s_ciE (va_runS (As := [.int _]) (rest := []) ⟨hx, hb, hml, hown, hw⟩ (c_M_isPage l  ) (cwS 1 hw (gd_S (gwd_6 (List.mem_of_getElem? (i := 34) rfl)) (gwd_6 (List.mem_of_getElem? (i := 35) rfl)) (gwd_0 (List.mem_of_getElem? (i := 3) rfl)) (gwd_6 (List.mem_of_getElem? (i := 36) rfl))) rfl rfl rfl (by decide +kernel) ⟨Nat.le_of_ble_eq_true rfl, Nat.le_of_ble_eq_true rfl⟩) (gPre.S hK hH) rfl rfl hl.1 rfl (lv_room (Nat.le_of_ble_eq_true rfl)) dM_owner_1 ⟨Nat.zero_le _, Nat.zero_le _⟩) hS (fun H locs hH hS => ?_)
  refine s_ifeq hx hb dM_owner_4 rfl (fun h_1 => ?_) (fun h_1 => ?_)
  · skip
    refine lv_iconst (v := -1) hx hb dM_owner_16 (by decide) ?_
    exact r_i hx hb hr hlk hK hH hS dM_owner_17 (⟨by first | rw [mOwner, if_neg h_1] | rw [mOwner, if_pos h_1, hi], rfl⟩)
  · skip
    obtain ⟨j, hj, rfl⟩ := isP_ix h_1
    have hi : ix (nI j) = j := ix_nI (by omega)
    refine lv_aload_n hx hb dM_owner_7 rfl (lv_at hl 0 rfl) ?_
    refine s_get hx hb hw inM hown hK hH 1 (by decide) (hw _ (gwd_5 (List.mem_of_getElem? (i := 41) rfl))) (by first | exact ⟨rfl, rfl⟩ | exact ⟨by assumption, rfl⟩ | exact ⟨by assumption, by assumption⟩ | exact ⟨by omega, rfl⟩ | exact ⟨by omega, by omega⟩ | exact ⟨by decide, rfl⟩) rfl rfl rfl rfl dM_owner_8 ?_
    refine lv_iload_n hx hb dM_owner_11 rfl (lv_at hl 1 rfl) ?_
    refine m_iald hx hb hK hH (by first | exact ⟨rfl, rfl⟩ | exact ⟨by assumption, rfl⟩ | exact ⟨by assumption, by assumption⟩ | exact ⟨by omega, rfl⟩ | exact ⟨by omega, by omega⟩ | exact ⟨by decide, rfl⟩) rfl _ (by first | rfl | assumption) (show _ < 24 from by first | assumption | decide | omega) (by decide) dM_owner_12 ?_
    refine lv_goto hx hb dM_owner_13 rfl ?_
    exact r_i hx hb hr hlk hK hH hS dM_owner_17 (⟨by first | rw [mOwner, if_neg h_1] | rw [mOwner, if_pos h_1, hi], rfl⟩)
set_option maxHeartbeats 4000000 in
set_option maxRecDepth 100000 in
theorem c_M_state (l : Launch) {D : va_G} {c : Nat → ClassId} {sz : Nat} {ad : gN → Nat} {k : Nat} {I J : gI} {P : gP} {LG : Option Nat} {LP : Option (Nat × Nat)} {x : Int32}  : Met l yM_state wM_state { frames := 1, cells := 0, slots := 0, locals := 20 } (gPre D c sz [.ref (ad (11, 0, 0)), .int x] (ad, k, I, J, P, LG, LP)) (va_Qi (fun r u => r = mState J x ∧ u = (ad, k, I, J, P, LG, LP)) (gB D c sz) (gA sz)) 0 0 (gA sz) := by
  refine Met.ofW (cc := cM_state) (maxL := 2) (ret := (some .int)) (by decide) rfl ?_
  intro p e s m args below meth cd s₁ B hml hv
  obtain ⟨rfl, hK, hH⟩ := hv
  have hx := B.exec
  have hb := B.bytes
  have hr := B.returns
  have hts := atoms_spec (ws := wM_state) B.pre
  have hw : ∀ w ∈ gWd, w.before _ s = true := fun w h => hts w (List.mem_cons_of_mem _ h)
  have hown : s.vm.findClass RM = some m.cls := findClass_of_methodNamed B.named
  have hlk := B.notSynchronized
  have hS : va_S (gA sz) s.heap s.heap [] := va_S.rf
  have hH : gW D c sz ad k I J P LG LP s.heap := hH
  have hl := lv_entry ([.ref (ad (11, 0, 0)), .int x]) (n := 2) (Nat.le_of_ble_eq_true rfl)
  rw [lg_entry_eq]
  generalize (lg_sl ([.ref (ad (11, 0, 0)), .int x]) ++ List.replicate (2 - (lg_sl ([.ref (ad (11, 0, 0)), .int x])).length) Slot.unset).toArray = ls at hl ⊢
  have hl : lv_has ls 2 [(0, .ref (ad (11, 0, 0))), (1, .int x)] := hl
  refine lv_iload_n hx hb dM_state_0 rfl (lv_at hl 1 rfl) ?_
  refine s_ciE (va_runS (As := [.int _]) (rest := []) ⟨hx, hb, hml, hown, hw⟩ (c_M_isPage l  ) (cwS 1 hw (gd_S (gwd_6 (List.mem_of_getElem? (i := 34) rfl)) (gwd_6 (List.mem_of_getElem? (i := 35) rfl)) (gwd_0 (List.mem_of_getElem? (i := 3) rfl)) (gwd_6 (List.mem_of_getElem? (i := 36) rfl))) rfl rfl rfl (by decide +kernel) ⟨Nat.le_of_ble_eq_true rfl, Nat.le_of_ble_eq_true rfl⟩) (gPre.S hK hH) rfl rfl hl.1 rfl (lv_room (Nat.le_of_ble_eq_true rfl)) dM_state_1 ⟨Nat.zero_le _, Nat.zero_le _⟩) hS (fun H locs hH hS => ?_)
  refine s_ifne hx hb dM_state_4 rfl (fun h_1 => ?_) (fun h_1 => ?_)
  · skip
    obtain ⟨j, hj, rfl⟩ := isP_ix h_1
    have hi : ix (nI j) = j := ix_nI (by omega)
    refine lv_aload_n hx hb dM_state_9 rfl (lv_at hl 0 rfl) ?_
    refine s_get hx hb hw inM hown hK hH 3 (by decide) (hw _ (gwd_5 (List.mem_of_getElem? (i := 43) rfl))) (by first | exact ⟨rfl, rfl⟩ | exact ⟨by assumption, rfl⟩ | exact ⟨by assumption, by assumption⟩ | exact ⟨by omega, rfl⟩ | exact ⟨by omega, by omega⟩ | exact ⟨by decide, rfl⟩) rfl rfl rfl rfl dM_state_10 ?_
    refine lv_iload_n hx hb dM_state_13 rfl (lv_at hl 1 rfl) ?_
    refine m_iald hx hb hK hH (by first | exact ⟨rfl, rfl⟩ | exact ⟨by assumption, rfl⟩ | exact ⟨by assumption, by assumption⟩ | exact ⟨by omega, rfl⟩ | exact ⟨by omega, by omega⟩ | exact ⟨by decide, rfl⟩) rfl _ (by first | rfl | assumption) (show _ < 24 from by first | assumption | decide | omega) (by decide) dM_state_14 ?_
    refine lv_if_gt hx hb dM_state_15 rfl (fun h_2 => ?_) (fun h_2 => ?_)
    · skip
      refine lv_iconst (v := 1) hx hb dM_state_27 (by decide) ?_
      refine lv_goto hx hb dM_state_28 rfl ?_
      refine lv_aload_n hx hb dM_state_32 rfl (lv_at hl 0 rfl) ?_
      refine s_get hx hb hw inM hown hK hH 6 (by decide) (hw _ (gwd_5 (List.mem_of_getElem? (i := 46) rfl))) (by first | exact ⟨rfl, rfl⟩ | exact ⟨by assumption, rfl⟩ | exact ⟨by assumption, by assumption⟩ | exact ⟨by omega, rfl⟩ | exact ⟨by omega, by omega⟩ | exact ⟨by decide, rfl⟩) rfl rfl rfl rfl dM_state_33 ?_
      refine lv_iload_n hx hb dM_state_36 rfl (lv_at hl 1 rfl) ?_
      refine m_zald hx hb hK hH (by first | exact ⟨rfl, rfl⟩ | exact ⟨by assumption, rfl⟩ | exact ⟨by assumption, by assumption⟩ | exact ⟨by omega, rfl⟩ | exact ⟨by omega, by omega⟩ | exact ⟨by decide, rfl⟩) rfl _ (by first | rfl | assumption) (show _ < 24 from by first | assumption | decide | omega) (by decide) dM_state_37 ?_
      refine lv_if_eq hx hb dM_state_38 rfl (fun h_3 => ?_) (fun h_3 => ?_)
      · skip
        refine lv_iconst (v := 0) hx hb dM_state_45 (by decide) ?_
        refine lv_iadd hx hb dM_state_46 ?_
        exact r_i hx hb hr hlk hK hH hS dM_state_47 (⟨by first | (rw [mState, if_neg h_1]; done) | (rw [mState, if_pos h_1, hi]; simp [h_2, h_3]), rfl⟩)
      · skip
        refine lv_iconst (v := 2) hx hb dM_state_41 (by decide) ?_
        refine lv_goto hx hb dM_state_42 rfl ?_
        refine lv_iadd hx hb dM_state_46 ?_
        exact r_i hx hb hr hlk hK hH hS dM_state_47 (⟨by first | (rw [mState, if_neg h_1]; done) | (rw [mState, if_pos h_1, hi]; simp [h_2, h_3]), rfl⟩)
    · skip
      refine lv_aload_n hx hb dM_state_18 rfl (lv_at hl 0 rfl) ?_
      refine s_get hx hb hw inM hown hK hH 5 (by decide) (hw _ (gwd_5 (List.mem_of_getElem? (i := 45) rfl))) (by first | exact ⟨rfl, rfl⟩ | exact ⟨by assumption, rfl⟩ | exact ⟨by assumption, by assumption⟩ | exact ⟨by omega, rfl⟩ | exact ⟨by omega, by omega⟩ | exact ⟨by decide, rfl⟩) rfl rfl rfl rfl dM_state_19 ?_
      refine lv_iload_n hx hb dM_state_22 rfl (lv_at hl 1 rfl) ?_
      refine m_zald hx hb hK hH (by first | exact ⟨rfl, rfl⟩ | exact ⟨by assumption, rfl⟩ | exact ⟨by assumption, by assumption⟩ | exact ⟨by omega, rfl⟩ | exact ⟨by omega, by omega⟩ | exact ⟨by decide, rfl⟩) rfl _ (by first | rfl | assumption) (show _ < 24 from by first | assumption | decide | omega) (by decide) dM_state_23 ?_
      refine lv_if_eq hx hb dM_state_24 rfl (fun h_4 => ?_) (fun h_4 => ?_)
      · skip
        refine lv_iconst (v := 0) hx hb dM_state_31 (by decide) ?_
        refine lv_aload_n hx hb dM_state_32 rfl (lv_at hl 0 rfl) ?_
        refine s_get hx hb hw inM hown hK hH 6 (by decide) (hw _ (gwd_5 (List.mem_of_getElem? (i := 46) rfl))) (by first | exact ⟨rfl, rfl⟩ | exact ⟨by assumption, rfl⟩ | exact ⟨by assumption, by assumption⟩ | exact ⟨by omega, rfl⟩ | exact ⟨by omega, by omega⟩ | exact ⟨by decide, rfl⟩) rfl rfl rfl rfl dM_state_33 ?_
        refine lv_iload_n hx hb dM_state_36 rfl (lv_at hl 1 rfl) ?_
        refine m_zald hx hb hK hH (by first | exact ⟨rfl, rfl⟩ | exact ⟨by assumption, rfl⟩ | exact ⟨by assumption, by assumption⟩ | exact ⟨by omega, rfl⟩ | exact ⟨by omega, by omega⟩ | exact ⟨by decide, rfl⟩) rfl _ (by first | rfl | assumption) (show _ < 24 from by first | assumption | decide | omega) (by decide) dM_state_37 ?_
        refine lv_if_eq hx hb dM_state_38 rfl (fun h_5 => ?_) (fun h_5 => ?_)
        · skip
          refine lv_iconst (v := 0) hx hb dM_state_45 (by decide) ?_
          refine lv_iadd hx hb dM_state_46 ?_
          exact r_i hx hb hr hlk hK hH hS dM_state_47 (⟨by first | (rw [mState, if_neg h_1]; done) | (rw [mState, if_pos h_1, hi]; simp [h_2, h_4, h_5]), rfl⟩)
        · skip
          refine lv_iconst (v := 2) hx hb dM_state_41 (by decide) ?_
          refine lv_goto hx hb dM_state_42 rfl ?_
          refine lv_iadd hx hb dM_state_46 ?_
          exact r_i hx hb hr hlk hK hH hS dM_state_47 (⟨by first | (rw [mState, if_neg h_1]; done) | (rw [mState, if_pos h_1, hi]; simp [h_2, h_4, h_5]), rfl⟩)
      · skip
        refine lv_iconst (v := 1) hx hb dM_state_27 (by decide) ?_
        refine lv_goto hx hb dM_state_28 rfl ?_
        refine lv_aload_n hx hb dM_state_32 rfl (lv_at hl 0 rfl) ?_
        refine s_get hx hb hw inM hown hK hH 6 (by decide) (hw _ (gwd_5 (List.mem_of_getElem? (i := 46) rfl))) (by first | exact ⟨rfl, rfl⟩ | exact ⟨by assumption, rfl⟩ | exact ⟨by assumption, by assumption⟩ | exact ⟨by omega, rfl⟩ | exact ⟨by omega, by omega⟩ | exact ⟨by decide, rfl⟩) rfl rfl rfl rfl dM_state_33 ?_
        refine lv_iload_n hx hb dM_state_36 rfl (lv_at hl 1 rfl) ?_
        refine m_zald hx hb hK hH (by first | exact ⟨rfl, rfl⟩ | exact ⟨by assumption, rfl⟩ | exact ⟨by assumption, by assumption⟩ | exact ⟨by omega, rfl⟩ | exact ⟨by omega, by omega⟩ | exact ⟨by decide, rfl⟩) rfl _ (by first | rfl | assumption) (show _ < 24 from by first | assumption | decide | omega) (by decide) dM_state_37 ?_
        refine lv_if_eq hx hb dM_state_38 rfl (fun h_6 => ?_) (fun h_6 => ?_)
        · skip
          refine lv_iconst (v := 0) hx hb dM_state_45 (by decide) ?_
          refine lv_iadd hx hb dM_state_46 ?_
          exact r_i hx hb hr hlk hK hH hS dM_state_47 (⟨by first | (rw [mState, if_neg h_1]; done) | (rw [mState, if_pos h_1, hi]; simp [h_2, h_4, h_6]), rfl⟩)
        · skip
          refine lv_iconst (v := 2) hx hb dM_state_41 (by decide) ?_
          refine lv_goto hx hb dM_state_42 rfl ?_
          refine lv_iadd hx hb dM_state_46 ?_
          exact r_i hx hb hr hlk hK hH hS dM_state_47 (⟨by first | (rw [mState, if_neg h_1]; done) | (rw [mState, if_pos h_1, hi]; simp [h_2, h_4, h_6]), rfl⟩)
  · skip
    refine lv_iconst (v := -1) hx hb dM_state_7 (by decide) ?_
    exact r_i hx hb hr hlk hK hH hS dM_state_8 (⟨by first | (rw [mState, if_neg h_1]; done) | (rw [mState, if_pos h_1, hi]; simp []), rfl⟩)
set_option maxHeartbeats 4000000 in
set_option maxRecDepth 100000 in
theorem c_M_pool (l : Launch) {D : va_G} {c : Nat → ClassId} {sz : Nat} {ad : gN → Nat} {k : Nat} {I J : gI} {P : gP} {LG : Option Nat} {LP : Option (Nat × Nat)} {a : Int32} (hk : k ≤ 6) (hmd : J (11, 0, 0) 7 = nI k) : Met l yM_pool wM_pool { frames := 3, cells := 0, slots := 0, locals := 71 } (gPre D c sz [.ref (ad (11, 0, 0)), .int a] (ad, k, I, J, P, LG, LP)) (va_Qi (fun r u => r = mPool J a ∧ u = (ad, k, I, J, P, LG, LP)) (gB D c sz) (gA sz)) 0 0 (gA sz) := by
  refine Met.ofW (cc := cM_pool) (maxL := 2) (ret := (some .int)) (by decide) rfl ?_
  intro p e s m args below meth cd s₁ B hml hv
  obtain ⟨rfl, hK, hH⟩ := hv
  have hx := B.exec
  have hb := B.bytes
  have hr := B.returns
  have hts := atoms_spec (ws := wM_pool) B.pre
  have hw : ∀ w ∈ gWd, w.before _ s = true := fun w h => hts w (List.mem_cons_of_mem _ h)
  have hown : s.vm.findClass RM = some m.cls := findClass_of_methodNamed B.named
  have hlk := B.notSynchronized
  have hS : va_S (gA sz) s.heap s.heap [] := va_S.rf
  have hH : gW D c sz ad k I J P LG LP s.heap := hH
  have hl := lv_entry ([.ref (ad (11, 0, 0)), .int a]) (n := 2) (Nat.le_of_ble_eq_true rfl)
  rw [lg_entry_eq]
  generalize (lg_sl ([.ref (ad (11, 0, 0)), .int a]) ++ List.replicate (2 - (lg_sl ([.ref (ad (11, 0, 0)), .int a])).length) Slot.unset).toArray = ls at hl ⊢
  have hl : lv_has ls 2 [(0, .ref (ad (11, 0, 0))), (1, .int a)] := hl
  refine lv_aload_n hx hb dM_pool_0 rfl (lv_at hl 0 rfl) ?_
  refine lv_iload_n hx hb dM_pool_1 rfl (lv_at hl 1 rfl) ?_
  refine s_ciE (va_runV (As := [.int _]) (rest := []) ⟨hx, hb, hml, hown, hw⟩ (c_M_isGuest l  (by assumption) (by assumption)) (cwV 1 hw (gd_V (gwd_7 (List.mem_of_getElem? (i := 21) rfl)) (gwd_7 (List.mem_of_getElem? (i := 22) rfl)) (gwd_9 (List.mem_of_getElem? (i := 28) rfl)) (gwd_0 (List.mem_of_getElem? (i := 3) rfl)) (gwd_7 (List.mem_of_getElem? (i := 23) rfl))) rfl rfl rfl (by decide +kernel) ⟨Nat.le_of_ble_eq_true rfl, Nat.le_of_ble_eq_true rfl⟩) (gPre.V (n := (11, 0, 0)) hK hH (by first | exact ⟨rfl, rfl⟩ | exact ⟨by assumption, rfl⟩ | exact ⟨by assumption, by assumption⟩ | exact ⟨by omega, rfl⟩ | exact ⟨by omega, by omega⟩ | exact ⟨by decide, rfl⟩) rfl rfl) rfl rfl hl.1 rfl (lv_room (Nat.le_of_ble_eq_true rfl)) dM_pool_2 ⟨Nat.zero_le _, Nat.zero_le _⟩) hS (fun H locs hH hS => ?_)
  refine s_ifeq hx hb dM_pool_5 rfl (fun h_1 => ?_) (fun h_1 => ?_)
  · skip
    refine lv_iconst (v := -1) hx hb dM_pool_16 (by decide) ?_
    exact r_i hx hb hr hlk hK hH hS dM_pool_17 (⟨by first | rw [mPool, if_pos h_1] | rw [mPool, if_neg h_1], rfl⟩)
  · skip
    refine lv_aload_n hx hb dM_pool_8 rfl (lv_at hl 0 rfl) ?_
    refine lv_iload_n hx hb dM_pool_9 rfl (lv_at hl 1 rfl) ?_
    refine s_ciE (va_runV (As := [.int _]) (rest := []) ⟨hx, hb, hml, hown, hw⟩ (c_M_rest l  ) (cwV 1 hw (gd_V (gwd_7 (List.mem_of_getElem? (i := 24) rfl)) (gwd_7 (List.mem_of_getElem? (i := 25) rfl)) (gwd_9 (List.mem_of_getElem? (i := 29) rfl)) (gwd_0 (List.mem_of_getElem? (i := 3) rfl)) (gwd_7 (List.mem_of_getElem? (i := 26) rfl))) rfl rfl rfl (by decide +kernel) ⟨Nat.le_of_ble_eq_true rfl, Nat.le_of_ble_eq_true rfl⟩) (gPre.V (n := (11, 0, 0)) hK hH (by first | exact ⟨rfl, rfl⟩ | exact ⟨by assumption, rfl⟩ | exact ⟨by assumption, by assumption⟩ | exact ⟨by omega, rfl⟩ | exact ⟨by omega, by omega⟩ | exact ⟨by decide, rfl⟩) rfl rfl) rfl rfl hl.1 rfl (lv_room (Nat.le_of_ble_eq_true rfl)) dM_pool_10 ⟨Nat.zero_le _, Nat.zero_le _⟩) hS (fun H locs hH hS => ?_)
    refine lv_goto hx hb dM_pool_13 rfl ?_
    exact r_i hx hb hr hlk hK hH hS dM_pool_17 (⟨by first | rw [mPool, if_pos h_1] | rw [mPool, if_neg h_1], rfl⟩)
set_option maxHeartbeats 4000000 in
set_option maxRecDepth 100000 in
theorem c_M_tables (l : Launch) {D : va_G} {c : Nat → ClassId} {sz : Nat} {ad : gN → Nat} {k : Nat} {I J : gI} {P : gP} {LG : Option Nat} {LP : Option (Nat × Nat)} {a : Int32} (hk : k ≤ 6) (hmd : J (11, 0, 0) 7 = nI k) : Met l yM_tables wM_tables { frames := 2, cells := 0, slots := 0, locals := 48 } (gPre D c sz [.ref (ad (11, 0, 0)), .int a] (ad, k, I, J, P, LG, LP)) (va_Qi (fun r u => r = mTab J a ∧ u = (ad, k, I, J, P, LG, LP)) (gB D c sz) (gA sz)) 0 0 (gA sz) := by
  refine Met.ofW (cc := cM_tables) (maxL := 2) (ret := (some .int)) (by decide) rfl ?_
  intro p e s m args below meth cd s₁ B hml hv
  obtain ⟨rfl, hK, hH⟩ := hv
  have hx := B.exec
  have hb := B.bytes
  have hr := B.returns
  have hts := atoms_spec (ws := wM_tables) B.pre
  have hw : ∀ w ∈ gWd, w.before _ s = true := fun w h => hts w (List.mem_cons_of_mem _ h)
  have hown : s.vm.findClass RM = some m.cls := findClass_of_methodNamed B.named
  have hlk := B.notSynchronized
  have hS : va_S (gA sz) s.heap s.heap [] := va_S.rf
  have hH : gW D c sz ad k I J P LG LP s.heap := hH
  have hl := lv_entry ([.ref (ad (11, 0, 0)), .int a]) (n := 2) (Nat.le_of_ble_eq_true rfl)
  rw [lg_entry_eq]
  generalize (lg_sl ([.ref (ad (11, 0, 0)), .int a]) ++ List.replicate (2 - (lg_sl ([.ref (ad (11, 0, 0)), .int a])).length) Slot.unset).toArray = ls at hl ⊢
  have hl : lv_has ls 2 [(0, .ref (ad (11, 0, 0))), (1, .int a)] := hl
  refine lv_aload_n hx hb dM_tables_0 rfl (lv_at hl 0 rfl) ?_
  refine lv_iload_n hx hb dM_tables_1 rfl (lv_at hl 1 rfl) ?_
  refine s_ciE (va_runV (As := [.int _]) (rest := []) ⟨hx, hb, hml, hown, hw⟩ (c_M_isGuest l  (by assumption) (by assumption)) (cwV 1 hw (gd_V (gwd_7 (List.mem_of_getElem? (i := 21) rfl)) (gwd_7 (List.mem_of_getElem? (i := 22) rfl)) (gwd_9 (List.mem_of_getElem? (i := 28) rfl)) (gwd_0 (List.mem_of_getElem? (i := 3) rfl)) (gwd_7 (List.mem_of_getElem? (i := 23) rfl))) rfl rfl rfl (by decide +kernel) ⟨Nat.le_of_ble_eq_true rfl, Nat.le_of_ble_eq_true rfl⟩) (gPre.V (n := (11, 0, 0)) hK hH (by first | exact ⟨rfl, rfl⟩ | exact ⟨by assumption, rfl⟩ | exact ⟨by assumption, by assumption⟩ | exact ⟨by omega, rfl⟩ | exact ⟨by omega, by omega⟩ | exact ⟨by decide, rfl⟩) rfl rfl) rfl rfl hl.1 rfl (lv_room (Nat.le_of_ble_eq_true rfl)) dM_tables_2 ⟨Nat.zero_le _, Nat.zero_le _⟩) hS (fun H locs hH hS => ?_)
  refine s_ifeq hx hb dM_tables_5 rfl (fun h_1 => ?_) (fun h_1 => ?_)
  · skip
    refine lv_iconst (v := -1) hx hb dM_tables_17 (by decide) ?_
    exact r_i hx hb hr hlk hK hH hS dM_tables_18 (⟨by first | rw [mTab, if_pos h_1] | rw [mTab, if_neg h_1], rfl⟩)
  · skip
    refine lv_aload_n hx hb dM_tables_8 rfl (lv_at hl 0 rfl) ?_
    refine lv_iload_n hx hb dM_tables_9 rfl (lv_at hl 1 rfl) ?_
    refine lv_iconst (v := -1) hx hb dM_tables_10 (by decide) ?_
    refine s_ciE (va_runV (As := [.int _, .int _]) (rest := []) ⟨hx, hb, hml, hown, hw⟩ (c_M_count l  ) (cwV 2 hw (gd_V (gwd_7 (List.mem_of_getElem? (i := 27) rfl)) (gwd_7 (List.mem_of_getElem? (i := 28) rfl)) (gwd_9 (List.mem_of_getElem? (i := 30) rfl)) (gwd_0 (List.mem_of_getElem? (i := 3) rfl)) (gwd_7 (List.mem_of_getElem? (i := 29) rfl))) rfl rfl rfl (by decide +kernel) ⟨Nat.le_of_ble_eq_true rfl, Nat.le_of_ble_eq_true rfl⟩) (gPre.V (n := (11, 0, 0)) hK hH (by first | exact ⟨rfl, rfl⟩ | exact ⟨by assumption, rfl⟩ | exact ⟨by assumption, by assumption⟩ | exact ⟨by omega, rfl⟩ | exact ⟨by omega, by omega⟩ | exact ⟨by decide, rfl⟩) rfl rfl) rfl rfl hl.1 rfl (lv_room (Nat.le_of_ble_eq_true rfl)) dM_tables_11 ⟨Nat.zero_le _, Nat.zero_le _⟩) hS (fun H locs hH hS => ?_)
    refine lv_goto hx hb dM_tables_14 rfl ?_
    exact r_i hx hb hr hlk hK hH hS dM_tables_18 (⟨by first | rw [mTab, if_pos h_1] | rw [mTab, if_neg h_1], rfl⟩)
end
