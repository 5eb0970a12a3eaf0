-- ===== PART A: goes FIRST, ahead of the names: the tables' words, and 'selects' of the private methods out of them =====
/-- a private method of a class that the tables say can be made, by its rows of tables_1 -/
def lw_okq (q : MethodName × Nat) : Prop := (q.1.cls ≠ "java/lang/invoke/MethodHandle" ∧ q.1.cls ≠ "java/lang/invoke/VarHandle") ∧ Cond.instantiable q.1.cls q.2 ∈ tables_1 ∧ Cond.privateMethod q.1 ∈ tables_1 ∧ Cond.instanceMethod q.1 ∈ tables_1
theorem lw_p0 : lw_okq (⟨"SilkTariff$Clerk", "chiefFibre", "(I)I"⟩, 3) := ⟨⟨by decide +kernel, by decide +kernel⟩, List.mem_of_getElem? (i := 33) (by decide +kernel), List.mem_of_getElem? (i := 312) (by decide +kernel), List.mem_of_getElem? (i := 313) (by decide +kernel)⟩
theorem lw_p1 : lw_okq (⟨"SilkTariff$House", "rankOf", "(I)I"⟩, 11) := ⟨⟨by decide +kernel, by decide +kernel⟩, List.mem_of_getElem? (i := 39) (by decide +kernel), List.mem_of_getElem? (i := 355) (by decide +kernel), List.mem_of_getElem? (i := 356) (by decide +kernel)⟩
theorem lw_p2 : lw_okq (⟨"SilkTariff$Ranking", "countAheadOf", "(II)I"⟩, 1) := ⟨⟨by decide +kernel, by decide +kernel⟩, List.mem_of_getElem? (i := 165) (by decide +kernel), List.mem_of_getElem? (i := 372) (by decide +kernel), List.mem_of_getElem? (i := 373) (by decide +kernel)⟩
theorem lw_p3 : lw_okq (⟨"SilkTariff$Ranking", "isAhead", "(II)Z"⟩, 1) := ⟨⟨by decide +kernel, by decide +kernel⟩, List.mem_of_getElem? (i := 165) (by decide +kernel), List.mem_of_getElem? (i := 376) (by decide +kernel), List.mem_of_getElem? (i := 377) (by decide +kernel)⟩
theorem lw_p4 : lw_okq (⟨"SilkTariff$Text", "readOrder", "(I)V"⟩, 5) := ⟨⟨by decide +kernel, by decide +kernel⟩, List.mem_of_getElem? (i := 177) (by decide +kernel), List.mem_of_getElem? (i := 388) (by decide +kernel), List.mem_of_getElem? (i := 389) (by decide +kernel)⟩
theorem lw_p5 : lw_okq (⟨"SilkTariff$Text", "readWord", "()I"⟩, 5) := ⟨⟨by decide +kernel, by decide +kernel⟩, List.mem_of_getElem? (i := 177) (by decide +kernel), List.mem_of_getElem? (i := 392) (by decide +kernel), List.mem_of_getElem? (i := 393) (by decide +kernel)⟩
theorem lw_p6 : lw_okq (⟨"SilkTariff$Text", "countAlike", "(Ljava/lang/String;)I"⟩, 5) := ⟨⟨by decide +kernel, by decide +kernel⟩, List.mem_of_getElem? (i := 177) (by decide +kernel), List.mem_of_getElem? (i := 408) (by decide +kernel), List.mem_of_getElem? (i := 409) (by decide +kernel)⟩
theorem lw_p7 : lw_okq (⟨"SilkTariff$Text", "signAt", "(I)C"⟩, 5) := ⟨⟨by decide +kernel, by decide +kernel⟩, List.mem_of_getElem? (i := 177) (by decide +kernel), List.mem_of_getElem? (i := 460) (by decide +kernel), List.mem_of_getElem? (i := 461) (by decide +kernel)⟩
theorem lw_p8 : lw_okq (⟨"SilkTariff$Text", "readSign", "(C)V"⟩, 5) := ⟨⟨by decide +kernel, by decide +kernel⟩, List.mem_of_getElem? (i := 177) (by decide +kernel), List.mem_of_getElem? (i := 475) (by decide +kernel), List.mem_of_getElem? (i := 476) (by decide +kernel)⟩
theorem lw_p9 : lw_okq (⟨"SilkTariff$Text", "readNumber", "(C)I"⟩, 5) := ⟨⟨by decide +kernel, by decide +kernel⟩, List.mem_of_getElem? (i := 177) (by decide +kernel), List.mem_of_getElem? (i := 479) (by decide +kernel), List.mem_of_getElem? (i := 480) (by decide +kernel)⟩
theorem lw_p10 : lw_okq (⟨"SilkTariff$Text", "readLetter", "(Ljava/lang/String;)I"⟩, 5) := ⟨⟨by decide +kernel, by decide +kernel⟩, List.mem_of_getElem? (i := 177) (by decide +kernel), List.mem_of_getElem? (i := 484) (by decide +kernel), List.mem_of_getElem? (i := 485) (by decide +kernel)⟩
theorem lw_p11 : lw_okq (⟨"SilkTariff$Text", "readDigits", "(I)I"⟩, 5) := ⟨⟨by decide +kernel, by decide +kernel⟩, List.mem_of_getElem? (i := 177) (by decide +kernel), List.mem_of_getElem? (i := 545) (by decide +kernel), List.mem_of_getElem? (i := 546) (by decide +kernel)⟩
theorem lw_p12 : lw_okq (⟨"SilkTariff$House", "isAhead", "(II)Z"⟩, 11) := ⟨⟨by decide +kernel, by decide +kernel⟩, List.mem_of_getElem? (i := 39) (by decide +kernel), List.mem_of_getElem? (i := 624) (by decide +kernel), List.mem_of_getElem? (i := 625) (by decide +kernel)⟩
def lw_privs_1 : List (MethodName × Nat) := [(⟨"SilkTariff$Clerk", "chiefFibre", "(I)I"⟩, 3), (⟨"SilkTariff$House", "rankOf", "(I)I"⟩, 11), (⟨"SilkTariff$Ranking", "countAheadOf", "(II)I"⟩, 1), (⟨"SilkTariff$Ranking", "isAhead", "(II)Z"⟩, 1), (⟨"SilkTariff$Text", "readOrder", "(I)V"⟩, 5), (⟨"SilkTariff$Text", "readWord", "()I"⟩, 5), (⟨"SilkTariff$Text", "countAlike", "(Ljava/lang/String;)I"⟩, 5), (⟨"SilkTariff$Text", "signAt", "(I)C"⟩, 5), (⟨"SilkTariff$Text", "readSign", "(C)V"⟩, 5), (⟨"SilkTariff$Text", "readNumber", "(C)I"⟩, 5), (⟨"SilkTariff$Text", "readLetter", "(Ljava/lang/String;)I"⟩, 5), (⟨"SilkTariff$Text", "readDigits", "(I)I"⟩, 5), (⟨"SilkTariff$House", "isAhead", "(II)Z"⟩, 11)]
theorem lw_r1 : ∀ q ∈ lw_privs_1, lw_okq q := List.forall_mem_cons.mpr ⟨lw_p0, List.forall_mem_cons.mpr ⟨lw_p1, List.forall_mem_cons.mpr ⟨lw_p2, List.forall_mem_cons.mpr ⟨lw_p3, List.forall_mem_cons.mpr ⟨lw_p4, List.forall_mem_cons.mpr ⟨lw_p5, List.forall_mem_cons.mpr ⟨lw_p6, List.forall_mem_cons.mpr ⟨lw_p7, List.forall_mem_cons.mpr ⟨lw_p8, List.forall_mem_cons.mpr ⟨lw_p9, List.forall_mem_cons.mpr ⟨lw_p10, List.forall_mem_cons.mpr ⟨lw_p11, List.forall_mem_cons.mpr ⟨lw_p12, fun _ h => absurd h List.not_mem_nil⟩⟩⟩⟩⟩⟩⟩⟩⟩⟩⟩⟩⟩
def lw_privs : List (MethodName × Nat) := lw_privs_1
def lw_tbl : List Cond := k2_sels lw_privs ++ tables_1
theorem lw_privs_ok : ∀ q ∈ lw_privs, lw_okq q := lw_r1
/-- the streams that the claim lets the run draw from -/
abbrev lw_cs : List Choice := [Jvm.Choice.named "NaN.bits"]
theorem lw_bits : nanBits ∈ lw_cs := by first | decide | exact List.mem_cons_self | simp [lw_cs, nanBits]

-- the fields of the classes, by the task's own listing
def RX0 : String := "SilkTariff$Clerk"
def TX0 : u_T := fun k => match k with
  | 0 => ("SilkTariff$Clerk", "house", "LSilkTariff$House;", true)
  | 1 => ("SilkTariff$Clerk", "reason", "I", false)
  | _ => ("SilkTariff$Clerk", "detail", "I", false)
def tyX0 : Nat → FieldType := fun k => match k with
  | 0 => .object "SilkTariff$House"
  | 1 => .int
  | _ => .int
abbrev wsX00 : List Cond := u_ws RX0 TX0 3
theorem nmX0 : ∀ a, a < 3 → ∀ b, b < 3 → a ≠ b → (TX0 a).2.1 ≠ (TX0 b).2.1 := by decide +kernel
theorem tyX0_ok : ∀ k, k < 3 → parseFieldDescriptor (TX0 k).2.2.1 = some (tyX0 k) := by decide +kernel

def RX1 : String := "SilkTariff$History"
def TX1 : u_T := fun k => match k with
  | 0 => ("SilkTariff$History", "kept", "[LSilkTariff$House;", true)
  | 1 => ("SilkTariff$History", "saved", "LSilkTariff$House;", true)
  | 2 => ("SilkTariff$History", "isSaved", "Z", false)
  | 3 => ("SilkTariff$History", "free", "I", false)
  | _ => ("SilkTariff$History", "undoable", "I", false)
def tyX1 : Nat → FieldType := fun k => match k with
  | 0 => .array (.object "SilkTariff$House")
  | 1 => .object "SilkTariff$House"
  | 2 => .boolean
  | 3 => .int
  | _ => .int
abbrev wsX10 : List Cond := u_ws RX1 TX1 5
theorem nmX1 : ∀ a, a < 5 → ∀ b, b < 5 → a ≠ b → (TX1 a).2.1 ≠ (TX1 b).2.1 := by decide +kernel
theorem tyX1_ok : ∀ k, k < 5 → parseFieldDescriptor (TX1 k).2.2.1 = some (tyX1 k) := by decide +kernel

def RX2 : String := "SilkTariff$House"
def TX2 : u_T := fun k => match k with
  | 0 => ("SilkTariff$House", "headings", "LSilkTariff$Table;", true)
  | 1 => ("SilkTariff$House", "goods", "LSilkTariff$Table;", true)
  | 2 => ("SilkTariff$House", "favours", "LSilkTariff$Table;", true)
  | 3 => ("SilkTariff$House", "headingCount", "I", false)
  | 4 => ("SilkTariff$House", "goodCount", "I", false)
  | 5 => ("SilkTariff$House", "day", "I", false)
  | 6 => ("SilkTariff$House", "purse", "I", false)
  | 7 => ("SilkTariff$House", "given", "I", false)
  | 8 => ("SilkTariff$House", "paid", "I", false)
  | 9 => ("SilkTariff$House", "drawnBack", "I", false)
  | _ => ("SilkTariff$House", "workings", "I", false)
def tyX2 : Nat → FieldType := fun k => match k with
  | 0 => .object "SilkTariff$Table"
  | 1 => .object "SilkTariff$Table"
  | 2 => .object "SilkTariff$Table"
  | 3 => .int
  | 4 => .int
  | 5 => .int
  | 6 => .int
  | 7 => .int
  | 8 => .int
  | 9 => .int
  | _ => .int
abbrev wsX20 : List Cond := u_ws RX2 TX2 11
theorem nmX2 : ∀ a, a < 11 → ∀ b, b < 11 → a ≠ b → (TX2 a).2.1 ≠ (TX2 b).2.1 := by decide +kernel
theorem tyX2_ok : ∀ k, k < 11 → parseFieldDescriptor (TX2 k).2.2.1 = some (tyX2 k) := by decide +kernel

def RX3 : String := "SilkTariff$Line"
def TX3 : u_T := fun k => match k with
  | 0 => ("SilkTariff$Line", "signs", "[C", true)
  | _ => ("SilkTariff$Line", "length", "I", false)
def tyX3 : Nat → FieldType := fun k => match k with
  | 0 => .array .char
  | _ => .int
abbrev wsX30 : List Cond := u_ws RX3 TX3 2
theorem nmX3 : ∀ a, a < 2 → ∀ b, b < 2 → a ≠ b → (TX3 a).2.1 ≠ (TX3 b).2.1 := by decide +kernel
theorem tyX3_ok : ∀ k, k < 2 → parseFieldDescriptor (TX3 k).2.2.1 = some (tyX3 k) := by decide +kernel

def RX4 : String := "SilkTariff$Ranking"
def TX4 : u_T := fun k => match k with
  | _ => ("SilkTariff$Ranking", "sums", "LSilkTariff$Table;", true)
def tyX4 : Nat → FieldType := fun k => match k with
  | _ => .object "SilkTariff$Table"
abbrev wsX40 : List Cond := u_ws RX4 TX4 1
theorem nmX4 : ∀ a, a < 1 → ∀ b, b < 1 → a ≠ b → (TX4 a).2.1 ≠ (TX4 b).2.1 := by decide +kernel
theorem tyX4_ok : ∀ k, k < 1 → parseFieldDescriptor (TX4 k).2.2.1 = some (tyX4 k) := by decide +kernel

def RX5 : String := "SilkTariff$Table"
def TX5 : u_T := fun k => match k with
  | 0 => ("SilkTariff$Table", "rows", "I", true)
  | 1 => ("SilkTariff$Table", "width", "I", true)
  | _ => ("SilkTariff$Table", "cells", "[I", true)
def tyX5 : Nat → FieldType := fun k => match k with
  | 0 => .int
  | 1 => .int
  | _ => .array .int
abbrev wsX50 : List Cond := u_ws RX5 TX5 3
theorem nmX5 : ∀ a, a < 3 → ∀ b, b < 3 → a ≠ b → (TX5 a).2.1 ≠ (TX5 b).2.1 := by decide +kernel
theorem tyX5_ok : ∀ k, k < 3 → parseFieldDescriptor (TX5 k).2.2.1 = some (tyX5 k) := by decide +kernel

def RX6 : String := "SilkTariff$Text"
def TX6 : u_T := fun k => match k with
  | 0 => ("SilkTariff$Text", "orders", "LSilkTariff$Table;", true)
  | 1 => ("SilkTariff$Text", "length", "I", false)
  | 2 => ("SilkTariff$Text", "signs", "[C", true)
  | 3 => ("SilkTariff$Text", "at", "I", false)
  | _ => ("SilkTariff$Text", "isWrong", "Z", false)
def tyX6 : Nat → FieldType := fun k => match k with
  | 0 => .object "SilkTariff$Table"
  | 1 => .int
  | 2 => .array .char
  | 3 => .int
  | _ => .boolean
abbrev wsX60 : List Cond := u_ws RX6 TX6 5
theorem nmX6 : ∀ a, a < 5 → ∀ b, b < 5 → a ≠ b → (TX6 a).2.1 ≠ (TX6 b).2.1 := by decide +kernel
theorem tyX6_ok : ∀ k, k < 5 → parseFieldDescriptor (TX6 k).2.2.1 = some (tyX6 k) := by decide +kernel

def RX7 : String := "SilkTariff"
def TX7 : u_T := fun k => match k with
  | 0 => ("SilkTariff", "clerk", "LSilkTariff$Clerk;", true)
  | 1 => ("SilkTariff", "house", "LSilkTariff$House;", true)
  | 2 => ("SilkTariff", "history", "LSilkTariff$History;", true)
  | 3 => ("SilkTariff", "ranking", "LSilkTariff$Ranking;", true)
  | 4 => ("SilkTariff", "text", "LSilkTariff$Text;", true)
  | _ => ("SilkTariff", "line", "LSilkTariff$Line;", true)
def tyX7 : Nat → FieldType := fun k => match k with
  | 0 => .object "SilkTariff$Clerk"
  | 1 => .object "SilkTariff$House"
  | 2 => .object "SilkTariff$History"
  | 3 => .object "SilkTariff$Ranking"
  | 4 => .object "SilkTariff$Text"
  | _ => .object "SilkTariff$Line"
abbrev wsX70 : List Cond := u_ws RX7 TX7 6
theorem nmX7 : ∀ a, a < 6 → ∀ b, b < 6 → a ≠ b → (TX7 a).2.1 ≠ (TX7 b).2.1 := by decide +kernel
theorem tyX7_ok : ∀ k, k < 6 → parseFieldDescriptor (TX7 k).2.2.1 = some (tyX7 k) := by decide +kernel

def RX8 : String := "SilkTariffLaw$Bits"
def TX8 : u_T := fun k => match k with
  | _ => ("SilkTariffLaw$Bits", "bits", "I", false)
def tyX8 : Nat → FieldType := fun k => match k with
  | _ => .int
abbrev wsX80 : List Cond := u_ws RX8 TX8 1
theorem nmX8 : ∀ a, a < 1 → ∀ b, b < 1 → a ≠ b → (TX8 a).2.1 ≠ (TX8 b).2.1 := by decide +kernel
theorem tyX8_ok : ∀ k, k < 1 → parseFieldDescriptor (TX8 k).2.2.1 = some (tyX8 k) := by decide +kernel

abbrev zcl : List vw_C := [(RX0, TX0, 3), (RX1, TX1, 5), (RX2, TX2, 11), (RX3, TX3, 2), (RX4, TX4, 1), (RX5, TX5, 3), (RX6, TX6, 5), (RX7, TX7, 6), (RX8, TX8, 1)]
