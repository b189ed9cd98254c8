-- ===== PART A: goes FIRST, ahead of the names: the tables' words, and 'selects' of the private methods out of them =====
/-- a private method of a class that the tables say can be made, by its rows of tables_1 -/
def lw_okq (q : MethodName × Nat) : Prop := (q.1.cls ≠ "java/lang/invoke/MethodHandle" ∧ q.1.cls ≠ "java/lang/invoke/VarHandle") ∧ Cond.instantiable q.1.cls q.2 ∈ tables_1 ∧ Cond.privateMethod q.1 ∈ tables_1 ∧ Cond.instanceMethod q.1 ∈ tables_1
theorem lw_p0 : lw_okq (⟨"CarouselRows$Planner", "shelfOfStop", "(I)I"⟩, 9) := ⟨⟨by decide +kernel, by decide +kernel⟩, List.mem_of_getElem? (i := 29) (by decide +kernel), List.mem_of_getElem? (i := 110) (by decide +kernel), List.mem_of_getElem? (i := 111) (by decide +kernel)⟩
theorem lw_p1 : lw_okq (⟨"CarouselRows$Planner", "forget", "()V"⟩, 9) := ⟨⟨by decide +kernel, by decide +kernel⟩, List.mem_of_getElem? (i := 29) (by decide +kernel), List.mem_of_getElem? (i := 122) (by decide +kernel), List.mem_of_getElem? (i := 123) (by decide +kernel)⟩
theorem lw_p2 : lw_okq (⟨"CarouselRows", "countsOn", "(I)I"⟩, 13) := ⟨⟨by decide +kernel, by decide +kernel⟩, List.mem_of_getElem? (i := 15) (by decide +kernel), List.mem_of_getElem? (i := 130) (by decide +kernel), List.mem_of_getElem? (i := 131) (by decide +kernel)⟩
theorem lw_p3 : lw_okq (⟨"CarouselRows", "unitsOnShelves", "()I"⟩, 13) := ⟨⟨by decide +kernel, by decide +kernel⟩, List.mem_of_getElem? (i := 15) (by decide +kernel), List.mem_of_getElem? (i := 138) (by decide +kernel), List.mem_of_getElem? (i := 139) (by decide +kernel)⟩
theorem lw_p4 : lw_okq (⟨"CarouselRows", "unitsOn", "(I)I"⟩, 13) := ⟨⟨by decide +kernel, by decide +kernel⟩, List.mem_of_getElem? (i := 15) (by decide +kernel), List.mem_of_getElem? (i := 142) (by decide +kernel), List.mem_of_getElem? (i := 143) (by decide +kernel)⟩
theorem lw_p5 : lw_okq (⟨"CarouselRows", "needShelf", "(I)V"⟩, 13) := ⟨⟨by decide +kernel, by decide +kernel⟩, List.mem_of_getElem? (i := 15) (by decide +kernel), List.mem_of_getElem? (i := 160) (by decide +kernel), List.mem_of_getElem? (i := 161) (by decide +kernel)⟩
theorem lw_p6 : lw_okq (⟨"CarouselRows", "isShelf", "(I)Z"⟩, 13) := ⟨⟨by decide +kernel, by decide +kernel⟩, List.mem_of_getElem? (i := 15) (by decide +kernel), List.mem_of_getElem? (i := 164) (by decide +kernel), List.mem_of_getElem? (i := 165) (by decide +kernel)⟩
theorem lw_p7 : lw_okq (⟨"java/lang/Throwable", "fillInStackTrace", "(I)Ljava/lang/Throwable;"⟩, 6) := ⟨⟨by decide +kernel, by decide +kernel⟩, List.mem_of_getElem? (i := 208) (by decide +kernel), List.mem_of_getElem? (i := 206) (by decide +kernel), List.mem_of_getElem? (i := 207) (by decide +kernel)⟩
theorem lw_p8 : lw_okq (⟨"CarouselRows", "needPlaces", "()V"⟩, 13) := ⟨⟨by decide +kernel, by decide +kernel⟩, List.mem_of_getElem? (i := 15) (by decide +kernel), List.mem_of_getElem? (i := 297) (by decide +kernel), List.mem_of_getElem? (i := 298) (by decide +kernel)⟩
theorem lw_p9 : lw_okq (⟨"CarouselRows", "needClosedDoors", "()V"⟩, 13) := ⟨⟨by decide +kernel, by decide +kernel⟩, List.mem_of_getElem? (i := 15) (by decide +kernel), List.mem_of_getElem? (i := 318) (by decide +kernel), List.mem_of_getElem? (i := 319) (by decide +kernel)⟩
theorem lw_p10 : lw_okq (⟨"CarouselRows", "canBeFetched", "(I)Z"⟩, 13) := ⟨⟨by decide +kernel, by decide +kernel⟩, List.mem_of_getElem? (i := 15) (by decide +kernel), List.mem_of_getElem? (i := 336) (by decide +kernel), List.mem_of_getElem? (i := 337) (by decide +kernel)⟩
theorem lw_p11 : lw_okq (⟨"CarouselRows", "isListed", "(I)Z"⟩, 13) := ⟨⟨by decide +kernel, by decide +kernel⟩, List.mem_of_getElem? (i := 15) (by decide +kernel), List.mem_of_getElem? (i := 341) (by decide +kernel), List.mem_of_getElem? (i := 342) (by decide +kernel)⟩
theorem lw_p12 : lw_okq (⟨"CarouselRows", "holdsListed", "(I)Z"⟩, 13) := ⟨⟨by decide +kernel, by decide +kernel⟩, List.mem_of_getElem? (i := 15) (by decide +kernel), List.mem_of_getElem? (i := 356) (by decide +kernel), List.mem_of_getElem? (i := 357) (by decide +kernel)⟩
theorem lw_p13 : lw_okq (⟨"CarouselRows$Planner", "addStop", "(II)V"⟩, 9) := ⟨⟨by decide +kernel, by decide +kernel⟩, List.mem_of_getElem? (i := 29) (by decide +kernel), List.mem_of_getElem? (i := 360) (by decide +kernel), List.mem_of_getElem? (i := 361) (by decide +kernel)⟩
theorem lw_p14 : lw_okq (⟨"CarouselRows$Planner", "order", "(II)I"⟩, 9) := ⟨⟨by decide +kernel, by decide +kernel⟩, List.mem_of_getElem? (i := 29) (by decide +kernel), List.mem_of_getElem? (i := 364) (by decide +kernel), List.mem_of_getElem? (i := 365) (by decide +kernel)⟩
theorem lw_p15 : lw_okq (⟨"CarouselRows$Planner", "tryAll", "(III)V"⟩, 9) := ⟨⟨by decide +kernel, by decide +kernel⟩, List.mem_of_getElem? (i := 29) (by decide +kernel), List.mem_of_getElem? (i := 368) (by decide +kernel), List.mem_of_getElem? (i := 369) (by decide +kernel)⟩
def lw_privs_1 : List (MethodName × Nat) := [(⟨"CarouselRows$Planner", "shelfOfStop", "(I)I"⟩, 9), (⟨"CarouselRows$Planner", "forget", "()V"⟩, 9), (⟨"CarouselRows", "countsOn", "(I)I"⟩, 13), (⟨"CarouselRows", "unitsOnShelves", "()I"⟩, 13), (⟨"CarouselRows", "unitsOn", "(I)I"⟩, 13), (⟨"CarouselRows", "needShelf", "(I)V"⟩, 13), (⟨"CarouselRows", "isShelf", "(I)Z"⟩, 13), (⟨"java/lang/Throwable", "fillInStackTrace", "(I)Ljava/lang/Throwable;"⟩, 6), (⟨"CarouselRows", "needPlaces", "()V"⟩, 13), (⟨"CarouselRows", "needClosedDoors", "()V"⟩, 13), (⟨"CarouselRows", "canBeFetched", "(I)Z"⟩, 13), (⟨"CarouselRows", "isListed", "(I)Z"⟩, 13), (⟨"CarouselRows", "holdsListed", "(I)Z"⟩, 13), (⟨"CarouselRows$Planner", "addStop", "(II)V"⟩, 9), (⟨"CarouselRows$Planner", "order", "(II)I"⟩, 9), (⟨"CarouselRows$Planner", "tryAll", "(III)V"⟩, 9)]
theorem lw_r1 : ∀ q ∈ lw_privs_1, lw_okq q := List.forall_mem_cons.mpr ⟨lw_p0, List.forall_mem_cons.mpr ⟨lw_p1, List.forall_mem_cons.mpr ⟨lw_p2, List.forall_mem_cons.mpr ⟨lw_p3, List.forall_mem_cons.mpr ⟨lw_p4, List.forall_mem_cons.mpr ⟨lw_p5, List.forall_mem_cons.mpr ⟨lw_p6, List.forall_mem_cons.mpr ⟨lw_p7, List.forall_mem_cons.mpr ⟨lw_p8, List.forall_mem_cons.mpr ⟨lw_p9, List.forall_mem_cons.mpr ⟨lw_p10, List.forall_mem_cons.mpr ⟨lw_p11, List.forall_mem_cons.mpr ⟨lw_p12, List.forall_mem_cons.mpr ⟨lw_p13, List.forall_mem_cons.mpr ⟨lw_p14, List.forall_mem_cons.mpr ⟨lw_p15, fun _ h => absurd h List.not_mem_nil⟩⟩⟩⟩⟩⟩⟩⟩⟩⟩⟩⟩⟩⟩⟩⟩
theorem lw_p16 : lw_okq (⟨"CarouselRows$Planner", "followRule", "(I)V"⟩, 9) := ⟨⟨by decide +kernel, by decide +kernel⟩, List.mem_of_getElem? (i := 29) (by decide +kernel), List.mem_of_getElem? (i := 376) (by decide +kernel), List.mem_of_getElem? (i := 377) (by decide +kernel)⟩
theorem lw_p17 : lw_okq (⟨"CarouselRows$Planner", "nearest", "(I)I"⟩, 9) := ⟨⟨by decide +kernel, by decide +kernel⟩, List.mem_of_getElem? (i := 29) (by decide +kernel), List.mem_of_getElem? (i := 380) (by decide +kernel), List.mem_of_getElem? (i := 381) (by decide +kernel)⟩
theorem lw_p18 : lw_okq (⟨"CarouselRows", "setPlace", "(II)V"⟩, 13) := ⟨⟨by decide +kernel, by decide +kernel⟩, List.mem_of_getElem? (i := 15) (by decide +kernel), List.mem_of_getElem? (i := 412) (by decide +kernel), List.mem_of_getElem? (i := 413) (by decide +kernel)⟩
theorem lw_p19 : lw_okq (⟨"CarouselRowsModel", "lying", "(I)I"⟩, 18) := ⟨⟨by decide +kernel, by decide +kernel⟩, List.mem_of_getElem? (i := 453) (by decide +kernel), List.mem_of_getElem? (i := 525) (by decide +kernel), List.mem_of_getElem? (i := 526) (by decide +kernel)⟩
theorem lw_p20 : lw_okq (⟨"CarouselRowsModel", "anyDoor", "()Z"⟩, 18) := ⟨⟨by decide +kernel, by decide +kernel⟩, List.mem_of_getElem? (i := 453) (by decide +kernel), List.mem_of_getElem? (i := 533) (by decide +kernel), List.mem_of_getElem? (i := 534) (by decide +kernel)⟩
theorem lw_p21 : lw_okq (⟨"CarouselRowsModel", "distance", "(II)I"⟩, 18) := ⟨⟨by decide +kernel, by decide +kernel⟩, List.mem_of_getElem? (i := 453) (by decide +kernel), List.mem_of_getElem? (i := 537) (by decide +kernel), List.mem_of_getElem? (i := 538) (by decide +kernel)⟩
theorem lw_p22 : lw_okq (⟨"CarouselRowsModel", "isListed", "(I)Z"⟩, 18) := ⟨⟨by decide +kernel, by decide +kernel⟩, List.mem_of_getElem? (i := 453) (by decide +kernel), List.mem_of_getElem? (i := 545) (by decide +kernel), List.mem_of_getElem? (i := 546) (by decide +kernel)⟩
theorem lw_p23 : lw_okq (⟨"CarouselRowsModel", "findShelves", "()Z"⟩, 18) := ⟨⟨by decide +kernel, by decide +kernel⟩, List.mem_of_getElem? (i := 453) (by decide +kernel), List.mem_of_getElem? (i := 553) (by decide +kernel), List.mem_of_getElem? (i := 554) (by decide +kernel)⟩
theorem lw_p24 : lw_okq (⟨"CarouselRowsModel", "byRule", "()V"⟩, 18) := ⟨⟨by decide +kernel, by decide +kernel⟩, List.mem_of_getElem? (i := 453) (by decide +kernel), List.mem_of_getElem? (i := 557) (by decide +kernel), List.mem_of_getElem? (i := 558) (by decide +kernel)⟩
theorem lw_p25 : lw_okq (⟨"CarouselRowsModel", "theOrder", "(I)V"⟩, 18) := ⟨⟨by decide +kernel, by decide +kernel⟩, List.mem_of_getElem? (i := 453) (by decide +kernel), List.mem_of_getElem? (i := 562) (by decide +kernel), List.mem_of_getElem? (i := 563) (by decide +kernel)⟩
theorem lw_p26 : lw_okq (⟨"CarouselRowsModel", "turnsOf", "()I"⟩, 18) := ⟨⟨by decide +kernel, by decide +kernel⟩, List.mem_of_getElem? (i := 453) (by decide +kernel), List.mem_of_getElem? (i := 566) (by decide +kernel), List.mem_of_getElem? (i := 567) (by decide +kernel)⟩
theorem lw_p27 : lw_okq (⟨"CarouselRowsModel", "shelfAt", "(I)I"⟩, 18) := ⟨⟨by decide +kernel, by decide +kernel⟩, List.mem_of_getElem? (i := 453) (by decide +kernel), List.mem_of_getElem? (i := 586) (by decide +kernel), List.mem_of_getElem? (i := 587) (by decide +kernel)⟩
theorem lw_p28 : lw_okq (⟨"CarouselRowsModel", "sum", "(I)I"⟩, 18) := ⟨⟨by decide +kernel, by decide +kernel⟩, List.mem_of_getElem? (i := 453) (by decide +kernel), List.mem_of_getElem? (i := 614) (by decide +kernel), List.mem_of_getElem? (i := 615) (by decide +kernel)⟩
def lw_privs_2 : List (MethodName × Nat) := [(⟨"CarouselRows$Planner", "followRule", "(I)V"⟩, 9), (⟨"CarouselRows$Planner", "nearest", "(I)I"⟩, 9), (⟨"CarouselRows", "setPlace", "(II)V"⟩, 13), (⟨"CarouselRowsModel", "lying", "(I)I"⟩, 18), (⟨"CarouselRowsModel", "anyDoor", "()Z"⟩, 18), (⟨"CarouselRowsModel", "distance", "(II)I"⟩, 18), (⟨"CarouselRowsModel", "isListed", "(I)Z"⟩, 18), (⟨"CarouselRowsModel", "findShelves", "()Z"⟩, 18), (⟨"CarouselRowsModel", "byRule", "()V"⟩, 18), (⟨"CarouselRowsModel", "theOrder", "(I)V"⟩, 18), (⟨"CarouselRowsModel", "turnsOf", "()I"⟩, 18), (⟨"CarouselRowsModel", "shelfAt", "(I)I"⟩, 18), (⟨"CarouselRowsModel", "sum", "(I)I"⟩, 18)]
theorem lw_r2 : ∀ q ∈ lw_privs_2, lw_okq q := List.forall_mem_cons.mpr ⟨lw_p16, List.forall_mem_cons.mpr ⟨lw_p17, List.forall_mem_cons.mpr ⟨lw_p18, List.forall_mem_cons.mpr ⟨lw_p19, List.forall_mem_cons.mpr ⟨lw_p20, List.forall_mem_cons.mpr ⟨lw_p21, List.forall_mem_cons.mpr ⟨lw_p22, List.forall_mem_cons.mpr ⟨lw_p23, List.forall_mem_cons.mpr ⟨lw_p24, List.forall_mem_cons.mpr ⟨lw_p25, List.forall_mem_cons.mpr ⟨lw_p26, List.forall_mem_cons.mpr ⟨lw_p27, List.forall_mem_cons.mpr ⟨lw_p28, fun _ h => absurd h List.not_mem_nil⟩⟩⟩⟩⟩⟩⟩⟩⟩⟩⟩⟩⟩
def lw_privs : List (MethodName × Nat) := lw_privs_1 ++ (lw_privs_2)
def lw_tbl : List Cond := k2_sels lw_privs ++ tables_1
theorem lw_privs_ok : ∀ q ∈ lw_privs, lw_okq q := by
  show ∀ q ∈ lw_privs_1 ++ (lw_privs_2), lw_okq q
  exact List.forall_mem_append.mpr ⟨lw_r1, lw_r2⟩

def R_C : String := "CarouselRows"
def R_P : String := "CarouselRows$Planner"
def R_M : String := "CarouselRowsModel"
def R_L : String := "CarouselRowsLaw"
def F_C : u_T := fun k => match k with
  | 0 => ("CarouselRows", "places", "I", true)
  | 1 => ("CarouselRows", "placeOf", "[I", true)
  | 2 => ("CarouselRows", "shelfAt", "[I", true)
  | 3 => ("CarouselRows", "isBlocked", "[Z", true)
  | 4 => ("CarouselRows", "shelfOf", "[I", true)
  | 5 => ("CarouselRows", "counts", "[I", true)
  | 6 => ("CarouselRows", "isOpen", "[Z", true)
  | 7 => ("CarouselRows", "list", "[I", true)
  | 8 => ("CarouselRows", "planner", "LCarouselRows$Planner;", true)
  | 9 => ("CarouselRows", "listed", "I", false)
  | 10 => ("CarouselRows", "front", "I", false)
  | 11 => ("CarouselRows", "turns", "I", false)
  | _ => ("CarouselRows", "fetched", "I", false)
def t_C : Nat → FieldType := fun k => match k with
  | 0 => .int
  | 1 => .array .int
  | 2 => .array .int
  | 3 => .array .boolean
  | 4 => .array .int
  | 5 => .array .int
  | 6 => .array .boolean
  | 7 => .array .int
  | 8 => .object "CarouselRows$Planner"
  | 9 => .int
  | 10 => .int
  | 11 => .int
  | _ => .int
theorem n_C : ∀ a, a < 13 → ∀ b, b < 13 → a ≠ b → (F_C a).2.1 ≠ (F_C b).2.1 := by decide +kernel
theorem t_C_ok : ∀ k, k < 13 → parseFieldDescriptor (F_C k).2.2.1 = some (t_C k) := by decide +kernel
def F_P : u_T := fun k => match k with
  | 0 => ("CarouselRows$Planner", "ring", "I", true)
  | 1 => ("CarouselRows$Planner", "shelves", "[I", true)
  | 2 => ("CarouselRows$Planner", "stopPlaces", "[I", true)
  | 3 => ("CarouselRows$Planner", "taken", "[Z", true)
  | 4 => ("CarouselRows$Planner", "trial", "[I", true)
  | 5 => ("CarouselRows$Planner", "best", "[I", true)
  | 6 => ("CarouselRows$Planner", "stops", "I", false)
  | 7 => ("CarouselRows$Planner", "fewest", "I", false)
  | _ => ("CarouselRows$Planner", "isExact", "Z", false)
def t_P : Nat → FieldType := fun k => match k with
  | 0 => .int
  | 1 => .array .int
  | 2 => .array .int
  | 3 => .array .boolean
  | 4 => .array .int
  | 5 => .array .int
  | 6 => .int
  | 7 => .int
  | _ => .boolean
theorem n_P : ∀ a, a < 9 → ∀ b, b < 9 → a ≠ b → (F_P a).2.1 ≠ (F_P b).2.1 := by decide +kernel
theorem t_P_ok : ∀ k, k < 9 → parseFieldDescriptor (F_P k).2.2.1 = some (t_P k) := by decide +kernel
def F_M : u_T := fun k => match k with
  | 0 => ("CarouselRowsModel", "thrownCode", "I", false)
  | 1 => ("CarouselRowsModel", "places", "I", true)
  | 2 => ("CarouselRowsModel", "front", "I", false)
  | 3 => ("CarouselRowsModel", "placeOf", "[I", true)
  | 4 => ("CarouselRowsModel", "blockedShelf", "[Z", true)
  | 5 => ("CarouselRowsModel", "on", "[I", true)
  | 6 => ("CarouselRowsModel", "counts", "[I", true)
  | 7 => ("CarouselRowsModel", "doors", "[Z", true)
  | 8 => ("CarouselRowsModel", "turns", "I", false)
  | 9 => ("CarouselRowsModel", "fetched", "I", false)
  | 10 => ("CarouselRowsModel", "listed", "I", false)
  | 11 => ("CarouselRowsModel", "list", "[I", true)
  | 12 => ("CarouselRowsModel", "planned", "I", false)
  | 13 => ("CarouselRowsModel", "plan", "[I", true)
  | 14 => ("CarouselRowsModel", "wasExact", "Z", false)
  | 15 => ("CarouselRowsModel", "shelves", "I", false)
  | 16 => ("CarouselRowsModel", "shelf", "[I", true)
  | _ => ("CarouselRowsModel", "trial", "[I", true)
def t_M : Nat → FieldType := fun k => match k with
  | 0 => .int
  | 1 => .int
  | 2 => .int
  | 3 => .array .int
  | 4 => .array .boolean
  | 5 => .array .int
  | 6 => .array .int
  | 7 => .array .boolean
  | 8 => .int
  | 9 => .int
  | 10 => .int
  | 11 => .array .int
  | 12 => .int
  | 13 => .array .int
  | 14 => .boolean
  | 15 => .int
  | 16 => .array .int
  | _ => .array .int
theorem n_M : ∀ a, a < 18 → ∀ b, b < 18 → a ≠ b → (F_M a).2.1 ≠ (F_M b).2.1 := by decide +kernel
theorem t_M_ok : ∀ k, k < 18 → parseFieldDescriptor (F_M k).2.2.1 = some (t_M k) := by decide +kernel
abbrev classes : List vw_C := [(R_C, F_C, 13), (R_P, F_P, 9), (R_M, F_M, 18)]
abbrev b_C_init : ByteArray := prog_1_method_1_code
def y_C_init : MethodName := ⟨R_C, "<init>", "(I)V"⟩
abbrev b_C_put : ByteArray := prog_1_method_2_code
def y_C_put : MethodName := ⟨R_C, "put", "(II)I"⟩
abbrev b_C_turn : ByteArray := prog_1_method_3_code
def y_C_turn : MethodName := ⟨R_C, "turn", "(I)I"⟩
abbrev b_C_want : ByteArray := prog_1_method_4_code
def y_C_want : MethodName := ⟨R_C, "want", "(I)I"⟩
abbrev b_C_plan : ByteArray := prog_1_method_5_code
def y_C_plan : MethodName := ⟨R_C, "plan", "(I)I"⟩
abbrev b_C_at : ByteArray := prog_1_method_6_code
def y_C_at : MethodName := ⟨R_C, "at", "(I)I"⟩
abbrev b_C_exact : ByteArray := prog_1_method_7_code
def y_C_exact : MethodName := ⟨R_C, "exact", "()Z"⟩
abbrev b_C_clear : ByteArray := prog_1_method_8_code
def y_C_clear : MethodName := ⟨R_C, "clear", "()I"⟩
abbrev b_C_pick : ByteArray := prog_1_method_9_code
def y_C_pick : MethodName := ⟨R_C, "pick", "(II)Z"⟩
abbrev b_C_door : ByteArray := prog_1_method_10_code
def y_C_door : MethodName := ⟨R_C, "door", "(IZ)Z"⟩
abbrev b_C_move : ByteArray := prog_1_method_11_code
def y_C_move : MethodName := ⟨R_C, "move", "(II)I"⟩
abbrev b_C_blocked : ByteArray := prog_1_method_12_code
def y_C_blocked : MethodName := ⟨R_C, "blocked", "(IZ)Z"⟩
abbrev b_C_days : ByteArray := prog_1_method_13_code
def y_C_days : MethodName := ⟨R_C, "days", "(I)V"⟩
abbrev b_C_learned : ByteArray := prog_1_method_14_code
def y_C_learned : MethodName := ⟨R_C, "learned", "(I)I"⟩
abbrev b_C_rest : ByteArray := prog_1_method_15_code
def y_C_rest : MethodName := ⟨R_C, "rest", "()I"⟩
abbrev b_C_shelf : ByteArray := prog_1_method_16_code
def y_C_shelf : MethodName := ⟨R_C, "shelf", "(II)I"⟩
abbrev b_C_unit : ByteArray := prog_1_method_17_code
def y_C_unit : MethodName := ⟨R_C, "unit", "(I)I"⟩
abbrev b_C_count : ByteArray := prog_1_method_18_code
def y_C_count : MethodName := ⟨R_C, "count", "(I)I"⟩
abbrev b_C_isShelf : ByteArray := prog_1_method_19_code
def y_C_isShelf : MethodName := ⟨R_C, "isShelf", "(I)Z"⟩
abbrev b_C_needShelf : ByteArray := prog_1_method_20_code
def y_C_needShelf : MethodName := ⟨R_C, "needShelf", "(I)V"⟩
abbrev b_C_needUnit : ByteArray := prog_1_method_21_code
def y_C_needUnit : MethodName := ⟨R_C, "needUnit", "(I)V"⟩
abbrev b_C_needStation : ByteArray := prog_1_method_22_code
def y_C_needStation : MethodName := ⟨R_C, "needStation", "(I)V"⟩
abbrev b_C_needPlaces : ByteArray := prog_1_method_23_code
def y_C_needPlaces : MethodName := ⟨R_C, "needPlaces", "()V"⟩
abbrev b_C_needClosedDoors : ByteArray := prog_1_method_24_code
def y_C_needClosedDoors : MethodName := ⟨R_C, "needClosedDoors", "()V"⟩
abbrev b_C_distance : ByteArray := prog_1_method_25_code
def y_C_distance : MethodName := ⟨R_C, "distance", "(III)I"⟩
abbrev b_C_setPlace : ByteArray := prog_1_method_26_code
def y_C_setPlace : MethodName := ⟨R_C, "setPlace", "(II)V"⟩
abbrev b_C_canBeFetched : ByteArray := prog_1_method_27_code
def y_C_canBeFetched : MethodName := ⟨R_C, "canBeFetched", "(I)Z"⟩
abbrev b_C_isListed : ByteArray := prog_1_method_28_code
def y_C_isListed : MethodName := ⟨R_C, "isListed", "(I)Z"⟩
abbrev b_C_holdsListed : ByteArray := prog_1_method_29_code
def y_C_holdsListed : MethodName := ⟨R_C, "holdsListed", "(I)Z"⟩
abbrev b_C_unitsOn : ByteArray := prog_1_method_30_code
def y_C_unitsOn : MethodName := ⟨R_C, "unitsOn", "(I)I"⟩
abbrev b_C_unitsOnShelves : ByteArray := prog_1_method_31_code
def y_C_unitsOnShelves : MethodName := ⟨R_C, "unitsOnShelves", "()I"⟩
abbrev b_C_countsOn : ByteArray := prog_1_method_32_code
def y_C_countsOn : MethodName := ⟨R_C, "countsOn", "(I)I"⟩
abbrev b_M_init : ByteArray := prog_4_method_1_code
def y_M_init : MethodName := ⟨R_M, "<init>", "(I)V"⟩
abbrev b_M_distance : ByteArray := prog_4_method_2_code
def y_M_distance : MethodName := ⟨R_M, "distance", "(II)I"⟩
abbrev b_M_none : ByteArray := prog_4_method_3_code
def y_M_none : MethodName := ⟨R_M, "none", "(II)Z"⟩
abbrev b_M_lying : ByteArray := prog_4_method_4_code
def y_M_lying : MethodName := ⟨R_M, "lying", "(I)I"⟩
abbrev b_M_sum : ByteArray := prog_4_method_5_code
def y_M_sum : MethodName := ⟨R_M, "sum", "(I)I"⟩
abbrev b_M_anyDoor : ByteArray := prog_4_method_6_code
def y_M_anyDoor : MethodName := ⟨R_M, "anyDoor", "()Z"⟩
abbrev b_M_findShelves : ByteArray := prog_4_method_7_code
def y_M_findShelves : MethodName := ⟨R_M, "findShelves", "()Z"⟩
abbrev b_M_theOrder : ByteArray := prog_4_method_8_code
def y_M_theOrder : MethodName := ⟨R_M, "theOrder", "(I)V"⟩
abbrev b_M_turnsOf : ByteArray := prog_4_method_9_code
def y_M_turnsOf : MethodName := ⟨R_M, "turnsOf", "()I"⟩
abbrev b_M_byRule : ByteArray := prog_4_method_10_code
def y_M_byRule : MethodName := ⟨R_M, "byRule", "()V"⟩
abbrev b_M_thrown : ByteArray := prog_4_method_11_code
def y_M_thrown : MethodName := ⟨R_M, "thrown", "()I"⟩
abbrev b_M_put : ByteArray := prog_4_method_12_code
def y_M_put : MethodName := ⟨R_M, "put", "(II)I"⟩
abbrev b_M_turn : ByteArray := prog_4_method_13_code
def y_M_turn : MethodName := ⟨R_M, "turn", "(I)I"⟩
abbrev b_M_isListed : ByteArray := prog_4_method_14_code
def y_M_isListed : MethodName := ⟨R_M, "isListed", "(I)Z"⟩
abbrev b_M_want : ByteArray := prog_4_method_15_code
def y_M_want : MethodName := ⟨R_M, "want", "(I)I"⟩
abbrev b_M_plan : ByteArray := prog_4_method_16_code
def y_M_plan : MethodName := ⟨R_M, "plan", "(I)I"⟩
abbrev b_M_at : ByteArray := prog_4_method_17_code
def y_M_at : MethodName := ⟨R_M, "at", "(I)I"⟩
abbrev b_M_exact : ByteArray := prog_4_method_18_code
def y_M_exact : MethodName := ⟨R_M, "exact", "()Z"⟩
abbrev b_M_clear : ByteArray := prog_4_method_19_code
def y_M_clear : MethodName := ⟨R_M, "clear", "()I"⟩
abbrev b_M_shelfAt : ByteArray := prog_4_method_20_code
def y_M_shelfAt : MethodName := ⟨R_M, "shelfAt", "(I)I"⟩
abbrev b_M_pick : ByteArray := prog_4_method_21_code
def y_M_pick : MethodName := ⟨R_M, "pick", "(II)Z"⟩
abbrev b_M_door : ByteArray := prog_4_method_22_code
def y_M_door : MethodName := ⟨R_M, "door", "(IZ)Z"⟩
abbrev b_M_move : ByteArray := prog_4_method_23_code
def y_M_move : MethodName := ⟨R_M, "move", "(II)I"⟩
abbrev b_M_blocked : ByteArray := prog_4_method_24_code
def y_M_blocked : MethodName := ⟨R_M, "blocked", "(IZ)Z"⟩
abbrev b_M_days : ByteArray := prog_4_method_25_code
def y_M_days : MethodName := ⟨R_M, "days", "(I)V"⟩
abbrev b_M_learned : ByteArray := prog_4_method_26_code
def y_M_learned : MethodName := ⟨R_M, "learned", "(I)I"⟩
abbrev b_M_rest : ByteArray := prog_4_method_27_code
def y_M_rest : MethodName := ⟨R_M, "rest", "()I"⟩
abbrev b_M_shelf : ByteArray := prog_4_method_28_code
def y_M_shelf : MethodName := ⟨R_M, "shelf", "(II)I"⟩
abbrev b_M_unit : ByteArray := prog_4_method_29_code
def y_M_unit : MethodName := ⟨R_M, "unit", "(I)I"⟩
abbrev b_M_count : ByteArray := prog_4_method_30_code
def y_M_count : MethodName := ⟨R_M, "count", "(I)I"⟩
abbrev b_P_init : ByteArray := prog_2_method_1_code
def y_P_init : MethodName := ⟨R_P, "<init>", "(I)V"⟩
abbrev b_P_forget : ByteArray := prog_2_method_2_code
def y_P_forget : MethodName := ⟨R_P, "forget", "()V"⟩
abbrev b_P_addStop : ByteArray := prog_2_method_3_code
def y_P_addStop : MethodName := ⟨R_P, "addStop", "(II)V"⟩
abbrev b_P_order : ByteArray := prog_2_method_4_code
def y_P_order : MethodName := ⟨R_P, "order", "(II)I"⟩
abbrev b_P_tryAll : ByteArray := prog_2_method_5_code
def y_P_tryAll : MethodName := ⟨R_P, "tryAll", "(III)V"⟩
abbrev b_P_followRule : ByteArray := prog_2_method_6_code
def y_P_followRule : MethodName := ⟨R_P, "followRule", "(I)V"⟩
abbrev b_P_nearest : ByteArray := prog_2_method_7_code
def y_P_nearest : MethodName := ⟨R_P, "nearest", "(I)I"⟩
abbrev b_P_shelfOfStop : ByteArray := prog_2_method_8_code
def y_P_shelfOfStop : MethodName := ⟨R_P, "shelfOfStop", "(I)I"⟩
abbrev b_L_put : ByteArray := method_3_code
def y_L_put : MethodName := ⟨R_L, "put", "(LCarouselRows;II[J)I"⟩
abbrev b_L_turn : ByteArray := method_4_code
def y_L_turn : MethodName := ⟨R_L, "turn", "(LCarouselRows;I[J)I"⟩
abbrev b_L_want : ByteArray := method_5_code
def y_L_want : MethodName := ⟨R_L, "want", "(LCarouselRows;I[J)I"⟩
abbrev b_L_plan : ByteArray := method_6_code
def y_L_plan : MethodName := ⟨R_L, "plan", "(LCarouselRows;I[J)I"⟩
abbrev b_L_pick : ByteArray := method_7_code
def y_L_pick : MethodName := ⟨R_L, "pick", "(LCarouselRows;II[J)I"⟩
abbrev b_L_door : ByteArray := method_8_code
def y_L_door : MethodName := ⟨R_L, "door", "(LCarouselRows;IZ[J)I"⟩
abbrev b_L_move : ByteArray := method_9_code
def y_L_move : MethodName := ⟨R_L, "move", "(LCarouselRows;II[J)I"⟩
abbrev b_L_blocked : ByteArray := method_10_code
def y_L_blocked : MethodName := ⟨R_L, "blocked", "(LCarouselRows;IZ[J)I"⟩
abbrev b_L_days : ByteArray := method_11_code
def y_L_days : MethodName := ⟨R_L, "days", "(LCarouselRows;I)I"⟩
abbrev b_L_learned : ByteArray := method_12_code
def y_L_learned : MethodName := ⟨R_L, "learned", "(LCarouselRows;I[J)I"⟩
abbrev b_L_shelf : ByteArray := method_13_code
def y_L_shelf : MethodName := ⟨R_L, "shelf", "(LCarouselRows;II[J)I"⟩
abbrev b_L_unit : ByteArray := method_14_code
def y_L_unit : MethodName := ⟨R_L, "unit", "(LCarouselRows;I[J)I"⟩
abbrev b_L_cell : ByteArray := method_2_code
def y_L_cell : MethodName := ⟨R_L, "cell", "([II)I"⟩
